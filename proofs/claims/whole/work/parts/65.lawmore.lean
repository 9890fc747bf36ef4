/-! ===== the law: the script's ints; what a refusal leaves ===== -/
theorem w_sld {p : Program} {l : Launch} {e : Env} {R : Room} {s : State} {m : MethodId} {args : Array Value} {below : List Frame} {meth : Method} {c : Code} {H H0 : Heap} {locs : List Loc} {cells slots : Nat} {Q : State → Prop} {cc : ByteArray} {pc : Nat} {ls : Array Slot} {rest : List Value} {A : Nat → Prop} {b L : Nat} {xs : Nat → Int32} {z v : Int} (hexec : p.tables.exec = Jvm.exec) (hb : c.code = cc) (hX : va_X b L xs s H0) (hbl : b < H0.size) (hbA : ¬ A b) (hS : va_S A H0 H locs) (j : Nat) (hz : z = (j : Int)) (hj : j < L) (hL : L ≤ 3072) (hv : xs j = iI v) (hdg : decode cc pc = .ok (.iaload, 1)) (kk : W p l e R s m args below meth c H locs cells slots Q (F0 m (pc + 1) ls (.int (iI v) :: rest))) : W p l e R s m args below meth c H locs cells slots Q (F0 m pc ls (.int (iI z) :: .ref b :: rest)) := by
  refine va_sld hexec hb hX hbl hbA hS (i := iI z) (iI_in hz hj (by omega)) hdg ?_
  rw [iI_cl hz (by omega), hv]
  exact kk
theorem sel_31 (x : Int32) : ∃ z : Int, 0 ≤ z ∧ z ≤ 31 ∧ x &&& iI 31 = iI z := by
  refine ⟨((x.toBitVec &&& 31#32).toNat : Nat), by omega, ?_, ?_⟩
  · have h : (x.toBitVec &&& 31#32).toNat ≤ 31 := by
      rw [BitVec.toNat_and]
      exact Nat.and_le_right
    omega
  · rw [← iI_N]
    apply Int32.toBitVec_inj.1
    show x.toBitVec &&& _ = BitVec.ofNat 32 _
    rw [BitVec.ofNat_toNat, BitVec.setWidth_eq]
    rfl
theorem cdP_ok {kd n k np : Int} (hr : rI k) (h : cdP kd n k np = 0) : okP kd n (if kd = 1 ∨ kd = 4 then k else 0) ∧ np < 30 ∧ rI (if kd = 1 ∨ kd = 4 then k else 0) ∧ 0 ≤ (if kd = 1 ∨ kd = 4 then k else 0) ∧ (if kd = 1 ∨ kd = 4 then k else 0) ≤ 100 := by
  have h1 : (kd = 1 ∧ fwN kd = 2) ∨ (kd ≠ 1 ∧ fwN kd = 1) := by unfold fwN; split <;> omega
  have h2 : (kd = 4 ∧ mkN kd n = 3) ∨ (kd ≠ 4 ∧ mkN kd n = n - 1) := by unfold mkN; split <;> omega
  have h3 : (kd = 2 ∧ mwN kd = 6) ∨ (kd = 3 ∧ mwN kd = 4) ∨ (kd = 4 ∧ mwN kd = 3) ∨ (kd ≠ 2 ∧ kd ≠ 3 ∧ kd ≠ 4 ∧ mwN kd = 12) := by unfold mwN; (repeat' split) <;> omega
  unfold cdP at h
  have h4 : (if kd = 1 ∨ kd = 4 then k else 0) = k ∧ (kd = 1 ∨ kd = 4) ∨ (if kd = 1 ∨ kd = 4 then k else 0) = 0 ∧ ¬ (kd = 1 ∨ kd = 4) := by split <;> omega
  generalize (if kd = 1 ∨ kd = 4 then k else 0) = K at *
  unfold okP
  (repeat' split at h) <;> omega
theorem cdFd_0 {n tl : Int} (h : cdFd n tl = 0) : 1 ≤ n ∧ n ≤ 8 ∧ tl + n ≤ 40 := by
  unfold cdFd at h
  (repeat' split at h) <;> omega
theorem cdI_0 {r mo ns : Int} (h : cdI r mo ns = 0) : 0 ≤ r ∧ r ≤ mo ∧ ns < 30 := by
  unfold cdI at h
  (repeat' split at h) <;> omega
theorem pl_f0n {np : Int} {py : Nat → Nat} {p1 : Nat} (h : np = 0) : ∀ i : Nat, ((i : Int) < np + 1 → va_up (fun _ => none) 0 (some p1) i = some (ups py np.toNat p1 i)) ∧ (np + 1 ≤ (i : Int) → va_up (fun _ => none) 0 (some p1) i = none) := by
  subst h
  exact pl_f0
theorem el_g {ci cap : Nat} {n : Int} {F : Nat → Option Nat} {y : Nat → Nat} {pl : va_W} (hn : n = cap) (hF : ∀ i : Nat, ((i : Int) < n → F i = some (y i)) ∧ (n ≤ (i : Int) → F i = none)) (h : ∀ i : Nat, i < cap → ∃ fs : List Value, (y i, .inr (ci, fs)) ∈ pl) : elT ci cap F pl := by
  intro i hi
  obtain ⟨fs, h1⟩ := h i hi
  obtain ⟨k, hk⟩ := List.getElem?_of_mem h1
  exact ⟨y i, k, fs, (hF i).1 (by omega), hk⟩
theorem mem_pl {G : Gx} {py pe pc : Nat → Nat} {KD CU FI : Nat → Int} {FF : Nat → Nat → Int} {pj : Nat → Nat × Nat} {n i : Nat} {rest : va_W} (h : i < n) : ∃ fs : List Value, (py i, .inr (3, fs)) ∈ fm (plW G py pe pc KD CU FI FF pj) n ++ rest :=
  ⟨_, List.mem_append_left _ (fm_mem h (List.mem_cons_self))⟩
theorem mem_ru {G : Gx} {ry rk rs rn : Nat → Nat} {rC : Nat → Nat → Int} {rA : Nat → Nat → Int64} {rM : Nat → List Int64} {n i : Nat} {rest : va_W} (h : i < n) : ∃ fs : List Value, (ry i, .inr (4, fs)) ∈ fm (ruW G ry rk rs rn rC rA rM) n ++ rest :=
  ⟨_, List.mem_append_left _ (fm_mem h (List.mem_cons_self))⟩
theorem mem_si {sy : Nat → Nat} {SP SR SM : Nat → Int} {n i : Nat} {rest : va_W} (h : i < n) : (sy i, .inr (5, [.int (iI (SP i)), .int (iI (SR i)), .int (iI (SM i))])) ∈ fm (siW sy SP SR SM) n ++ rest := List.mem_append_left _ (fm_mem h (List.mem_cons_self))
theorem si_T {ns : Int} {SF : Nat → Option Nat} {sy : Nat → Nat} {SP SR SM : Nat → Int} {rest : va_W} (hF : ∀ i : Nat, ((i : Int) < ns → SF i = some (sy i)) ∧ (ns ≤ (i : Int) → SF i = none)) (h : msT ns SP SR SM) : siT ns SF sy SP SR SM (fm (siW sy SP SR SM) ns.toNat ++ rest) := fun i hi => ⟨(hF i).1 hi, mem_si (by omega), h i hi⟩
theorem pl_T {G : Gx} {np : Int} {PF : Nat → Option Nat} {py pe pc : Nat → Nat} {KD CU FI : Nat → Int} {FF : Nat → Nat → Int} {pj : Nat → Nat × Nat} {rest : va_W} (hF : ∀ i : Nat, ((i : Int) < np → PF i = some (py i)) ∧ (np ≤ (i : Int) → PF i = none)) (hI : mpT np KD CU FI) (hE : ∀ i : Nat, (i : Int) < np → ∀ j : Nat, j < 13 → FF i j = csZ (KD i) (CU i) (FI i) 5 j) : plT G np PF py pe pc KD CU FI FF pj (fm (plW G py pe pc KD CU FI FF pj) np.toNat ++ rest) := by
  intro i hi
  obtain ⟨r, h1, _⟩ := fm_op (f := plW G py pe pc KD CU FI FF pj) (i := i) (n := np.toNat) (by omega)
  refine ⟨(hF i).1 hi, (hI i hi).1, (hI i hi).2.1, hE i hi, r ++ rest, ?_⟩
  have h2 := h1.append_right rest
  rw [List.append_assoc] at h2
  exact h2
