/-! ===== pure: lots in their order ===== -/
theorem w_mabsi {p : Program} {l : Launch} {e : Env} {R : Room} {s : State} {m : MethodId} {args : Array Value} {below : List Frame} {meth : Method} {c : Code} {H : Heap} {locs : List Loc} {cells slots : Nat} {Q : State → Prop} {cc : ByteArray} {pc : Nat} {ls : Array Slot} {rest : List Value} (hexec : p.tables.exec = Jvm.exec) (hb : c.code = cc) (hml : c.maxLocals = ls.size) {own : String} {index : Nat} (hown : s.vm.findClass own = some m.cls) (hlink : (Cond.methodLink own index Lib.Math.abs.name).before args s = true) (hstat : (Cond.static Lib.Math.abs.name).before args s = true) (hini : (Cond.initialized "java/lang/Math").before args s = true) (hcode : (Cond.code Lib.Math.abs.name Lib.Math.abs.code 1 (some .int)).before args s = true)
    (hframes : 1 ≤ R.frames) (hlocals : (rest.map fun v => v.category).sum + 13 ≤ R.locals) (hc : cells ≤ R.cells) (hs : slots ≤ R.slots) {x : Int} (hx : rI x) (hdg : decode cc pc = .ok (.invokestatic index, 3))
    (kk : W p l e R s m args below meth c H locs cells slots Q (F0 m (pc + 3) ls (.int (iI (ab x)) :: rest))) : W p l e R s m args below meth c H locs cells slots Q (F0 m pc ls (.int (iI x) :: rest)) := by
  refine va_mabs hexec hb hml hown hlink hstat hini hcode hframes hlocals hc hs hdg ?_
  have e0 : (0 : Int32) = iI 0 := by decide
  have e1 : (if 0 ≤ iI x then iI x else 0 - iI x) = iI (ab x) := by
    rw [e0]
    by_cases q : 0 ≤ x
    · rw [if_pos ((iI_le (by decide) hx).mpr q), ab_of q]
    · rw [if_neg (fun z => q ((iI_le (by decide) hx).mp z)), iI_sub]
      congr 1
      unfold ab
      omega
  rw [e1]
  exact kk
def cdL (kd x : Int) : Int := if kd = 1 then x else -3
def reN (cd v : Int) : Int := if cd = 0 then v else 1000000000 - cd
theorem reN_n {cd v c : Int} (h : cd = c) (h0 : c ≠ 0) : 1000000000 - c = reN cd v := by
  subst h
  exact (if_neg h0).symm
theorem reN_0 {cd v w : Int} (h : cd = 0) (e : w = v) : w = reN cd v := by
  subst h
  exact e
/-- lot by lot -/
def ntI (k : Int) : Nat → Int
  | 0 => p2 k - 1
  | i + 1 => nxZ (ntI k i)
def ntC (n : Int) : Nat → Int → Bool
  | 0, _ => true
  | m + 1, st => decide (0 ≤ st ∧ st < p2 n) && ntC n m (nxZ st)
theorem nt_c {n k : Int} : ∀ {m i : Nat}, ntC n m (ntI k i) = true → ∀ {j : Nat}, i ≤ j → j < i + m → 0 ≤ ntI k j ∧ ntI k j < p2 n
  | 0, i, _, j, h1, h2 => by omega
  | m + 1, i, h, j, h1, h2 => by
    unfold ntC at h
    rw [Bool.and_eq_true, decide_eq_true_eq] at h
    by_cases q : j = i
    · subst q; exact h.1
    · exact nt_c (i := i + 1) (m := m) h.2 (by omega) (by omega)
theorem nt_d : ∀ n : Fin 13, ∀ k : Fin 12, 1 ≤ k.1 → k.1 < n.1 → ntC (n.1 : Int) (wayF n.1 k.1).toNat (p2 k.1 - 1) = true := by decide +kernel
theorem nt_b {n k : Int} (h : n ≤ 12 ∧ 1 ≤ k ∧ k < n) {j : Nat} (hj : (j : Int) < wayF n k) : 0 ≤ ntI k j ∧ ntI k j < p2 n := by
  have h1 := nt_d ⟨n.toNat, by omega⟩ ⟨k.toNat, by omega⟩ (by show 1 ≤ k.toNat; omega) (by show k.toNat < n.toNat; omega)
  dsimp only at h1
  rw [show ((n.toNat : Nat) : Int) = n from by omega, show ((k.toNat : Nat) : Int) = k from by omega] at h1
  exact nt_c (i := 0) h1 (Nat.zero_le _) (by omega)
theorem nt_s {k i st : Int} (hi : 0 ≤ i) (h : st = ntI k i.toNat) : nxZ st = ntI k (i + 1).toNat := by
  rw [h, show (i + 1).toNat = i.toNat + 1 from by omega]
  rfl
def lnZ (n k st : Int) : Int := plS st n.toNat * n - k * plS 4095 n.toNat
/-- how many of the first lots have it -/
def ctN (f : Int → Bool) (k : Int) : Nat → Int
  | 0 => 0
  | i + 1 => if f (ntI k i) = true then ctN f k i + 1 else ctN f k i
theorem ct_1 {f : Int → Bool} {k i st c : Int} (hi : 0 ≤ i) (h : st = ntI k i.toNat) (hc : c = ctN f k i.toNat) (hf : f st = true) : c + 1 = ctN f k (i + 1).toNat := by
  rw [show (i + 1).toNat = i.toNat + 1 from by omega]
  show _ = if f (ntI k i.toNat) = true then ctN f k i.toNat + 1 else ctN f k i.toNat
  rw [← h, if_pos hf, hc]
theorem ct_0 {f : Int → Bool} {k i st c : Int} (hi : 0 ≤ i) (h : st = ntI k i.toNat) (hc : c = ctN f k i.toNat) (hf : ¬ f st = true) : c = ctN f k (i + 1).toNat := by
  rw [show (i + 1).toNat = i.toNat + 1 from by omega]
  show _ = if f (ntI k i.toNat) = true then ctN f k i.toNat + 1 else ctN f k i.toNat
  rw [← h, if_neg hf, hc]
def beI (n k : Int) : Nat → Int
  | 0 => ntI k 0
  | i + 1 => if ab (lnZ n k (ntI k i)) < ab (lnZ n k (beI n k i)) then ntI k i else beI n k i
theorem be_1 {n k i st b : Int} (hi : 0 ≤ i) (h : st = ntI k i.toNat) (hc : b = beI n k i.toNat) (hf : ab (lnZ n k st) < ab (lnZ n k b)) : st = beI n k (i + 1).toNat := by
  rw [show (i + 1).toNat = i.toNat + 1 from by omega]
  show _ = if ab (lnZ n k (ntI k i.toNat)) < ab (lnZ n k (beI n k i.toNat)) then ntI k i.toNat else beI n k i.toNat
  rw [← h, ← hc, if_pos hf]
theorem be_0 {n k i st b : Int} (hi : 0 ≤ i) (h : st = ntI k i.toNat) (hc : b = beI n k i.toNat) (hf : ¬ ab (lnZ n k st) < ab (lnZ n k b)) : b = beI n k (i + 1).toNat := by
  rw [show (i + 1).toNat = i.toNat + 1 from by omega]
  show _ = if ab (lnZ n k (ntI k i.toNat)) < ab (lnZ n k (beI n k i.toNat)) then ntI k i.toNat else beI n k i.toNat
  rw [← h, ← hc, if_neg hf]
theorem ln_r {n k st : Int} (h : 0 ≤ n ∧ n ≤ 12 ∧ 0 ≤ k ∧ k ≤ 12) : -2000 ≤ lnZ n k st ∧ lnZ n k st ≤ 2000 := by
  have h1 := plS_b st n.toNat
  have h2 := plS_b 4095 n.toNat
  have h3 : ((n.toNat : Nat) : Int) * ((n.toNat : Nat) : Int) ≤ 12 * 12 := Int.mul_le_mul (by omega) (by omega) (by omega) (by omega)
  have h4 : plS st n.toNat * n ≤ 144 * 12 := Int.mul_le_mul (by omega) (by omega) (by omega) (by omega)
  have h5 : k * plS 4095 n.toNat ≤ 12 * 144 := Int.mul_le_mul (by omega) (by omega) (by omega) (by omega)
  have h6 := Int.mul_nonneg h1.1 h.1
  have h7 := Int.mul_nonneg h.2.2.1 h2.1
  unfold lnZ
  omega
theorem ab_r2 {x : Int} (h : -2000 ≤ x ∧ x ≤ 2000) : rI (ab x) := by unfold ab; omega
