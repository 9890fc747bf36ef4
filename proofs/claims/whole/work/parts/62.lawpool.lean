/-! ===== the law's pool: what a call needs is taken out, and put back ===== -/
theorem pm_c {α : Type} {u v : List α} (h : ∀ [BEq α] [LawfulBEq α] (q : α), u.count q = v.count q) : u.Perm v := by
  classical
  rw [List.perm_iff_count]
  exact fun q => h q
section OP
variable {P R S a b c x y r t : va_W}
theorem op_P (h : P.Perm (x ++ r)) : (P ++ (R ++ (S ++ (a ++ (b ++ c))))).Perm ((a ++ x) ++ (r ++ (R ++ (S ++ (b ++ c))))) := by
  refine pm_c (fun q => ?_)
  have := h.count_eq q
  simp only [List.count_append] at *
  omega
theorem op_R (h : R.Perm (x ++ r)) : (P ++ (R ++ (S ++ (a ++ (b ++ c))))).Perm ((b ++ x) ++ (P ++ (r ++ (S ++ (a ++ c))))) := by
  refine pm_c (fun q => ?_)
  have := h.count_eq q
  simp only [List.count_append] at *
  omega
theorem op_PR (h : P.Perm (x ++ r)) (h2 : R.Perm (y ++ t)) : (P ++ (R ++ (S ++ (a ++ (b ++ c))))).Perm ((a ++ (x ++ (b ++ y))) ++ (r ++ (t ++ (S ++ c)))) := by
  refine pm_c (fun q => ?_)
  have := h.count_eq q
  have := h2.count_eq q
  simp only [List.count_append] at *
  omega
theorem op_L (h : R.Perm (y ++ t)) : (P ++ (R ++ (S ++ (a ++ (b ++ c))))).Perm ((a ++ (b ++ y)) ++ (P ++ (t ++ (S ++ c)))) := by
  refine pm_c (fun q => ?_)
  have := h.count_eq q
  simp only [List.count_append] at *
  omega
theorem op_PS (h : P.Perm (x ++ r)) : (P ++ (R ++ (S ++ (a ++ (b ++ c))))).Perm ((a ++ (x ++ c)) ++ (S ++ (r ++ (R ++ b)))) := by
  refine pm_c (fun q => ?_)
  have := h.count_eq q
  simp only [List.count_append] at *
  omega
theorem op_S (h : S.Perm (x ++ r)) : (P ++ (R ++ (S ++ (a ++ (b ++ c))))).Perm ((c ++ x) ++ (P ++ (R ++ (r ++ (a ++ b))))) := by
  refine pm_c (fun q => ?_)
  have := h.count_eq q
  simp only [List.count_append] at *
  omega
theorem op_a : (P ++ (R ++ (S ++ (a ++ (b ++ c))))).Perm (a ++ (P ++ (R ++ (S ++ (b ++ c))))) := by
  refine pm_c (fun q => ?_)
  simp only [List.count_append] at *
  omega
theorem op_b : (P ++ (R ++ (S ++ (a ++ (b ++ c))))).Perm (b ++ (R ++ (P ++ (S ++ (a ++ c))))) := by
  refine pm_c (fun q => ?_)
  simp only [List.count_append] at *
  omega
/-- one more at the end of a group -/
theorem cl_a {a2 x2 P2 : va_W} (hP : P2 = P ++ x2) : (P2 ++ (R ++ (S ++ (a2 ++ (b ++ c))))).Perm ((a2 ++ x2) ++ (P ++ (R ++ (S ++ (b ++ c))))) := by
  subst hP
  refine pm_c (fun q => ?_)
  simp only [List.count_append] at *
  omega
theorem cl_b {b2 x2 R2 : va_W} (hR : R2 = R ++ x2) : (P ++ (R2 ++ (S ++ (a ++ (b2 ++ c))))).Perm ((b2 ++ x2) ++ (R ++ (P ++ (S ++ (a ++ c))))) := by
  subst hR
  refine pm_c (fun q => ?_)
  simp only [List.count_append] at *
  omega
theorem cl_c {c2 x2 S2 : va_W} (hS : S2 = S ++ x2) (h : P.Perm (x ++ r)) : (P ++ (R ++ (S2 ++ (a ++ (b ++ c2))))).Perm ((a ++ (x ++ (c2 ++ x2))) ++ (S ++ (r ++ (R ++ b)))) := by
  subst hS
  refine pm_c (fun q => ?_)
  have := h.count_eq q
  simp only [List.count_append] at *
  omega
end OP
theorem arW_n {G : Gx} {n : Int} {ea cap : Nat} {F : Nat → Option Nat} (h : n ≠ 0) : arW G n ea cap F = [(ea, .inl (G.2.1 3, cap, .inr (.inr (.inr (.inr F)))))] := if_neg h
theorem arW_0 {G : Gx} {n : Int} {ea cap : Nat} {F : Nat → Option Nat} (h : n = 0) : arW G n ea cap F = [] := if_pos h
/-- a rule's stack moves; the other rules stay -/
theorem ru_up {G : Gx} {ry rk rs rn : Nat → Nat} {rC : Nat → Nat → Int} {rA : Nat → Nat → Int64} {rM : Nat → List Int64} {i : Nat} {A2 : Nat → Int64} {M2 : List Int64} : ∀ j : Nat, j ≠ i → ruW G ry rk rs rn rC (ups rA i A2) (ups rM i M2) j = ruW G ry rk rs rn rC rA rM j := by
  intro j hj
  unfold ruW
  rw [ups_n _ _ hj, ups_n _ _ hj]
theorem rl_up {nr : Int} {RT RS : Nat → Int} {rn : Nat → Nat} {rC : Nat → Nat → Int} {rA : Nat → Nat → Int64} {rM : Nat → List Int64} {i : Nat} {A2 : Nat → Int64} {M2 : List Int64} (h : rlT nr RT RS rn rC rA rM) (h2 : M2.length ≤ rn i ∧ stT A2 M2) : rlT nr RT RS rn rC (ups rA i A2) (ups rM i M2) := by
  intro j hj
  have h1 := h j hj
  by_cases q : j = i
  · subst q
    rw [ups_s, ups_s]
    exact ⟨h1.1, h2.1, h2.2, h1.2.2.2.1, h1.2.2.2.2⟩
  · rw [ups_n _ _ q, ups_n _ _ q]
    exact h1
/-- a plan is added -/
theorem pl_fn {np : Int} {PF : Nat → Option Nat} {py : Nat → Nat} {p1 : Nat} (hn : 0 ≤ np) (h : ∀ i : Nat, ((i : Int) < np → PF i = some (py i)) ∧ (np ≤ (i : Int) → PF i = none)) : ∀ i : Nat, ((i : Int) < np + 1 → va_up PF np.toNat (some p1) i = some (ups py np.toNat p1 i)) ∧ (np + 1 ≤ (i : Int) → va_up PF np.toNat (some p1) i = none) := by
  intro i
  by_cases q : i = np.toNat
  · subst q
    rw [va_up_self, ups_s]
    exact ⟨fun _ => rfl, fun z => by omega⟩
  · rw [va_up_ne _ _ q, ups_n _ _ q]
    exact ⟨fun z => (h i).1 (by omega), fun z => (h i).2 (by omega)⟩
theorem pl_fg {np : Int} {PF : Nat → Option Nat} {py : Nat → Nat} {p1 cap : Nat} (hn : 0 ≤ np ∧ np ≤ cap) (h : ∀ i : Nat, ((i : Int) < np → PF i = some (py i)) ∧ (np ≤ (i : Int) → PF i = none)) : ∀ i : Nat, ((i : Int) < np + 1 → va_up (va_cpy PF (fun _ => none) 0 0 cap) np.toNat (some p1) i = some (ups py np.toNat p1 i)) ∧ (np + 1 ≤ (i : Int) → va_up (va_cpy PF (fun _ => none) 0 0 cap) np.toNat (some p1) i = none) := by
  intro i
  by_cases q : i = np.toNat
  · subst q
    rw [va_up_self, ups_s]
    exact ⟨fun _ => rfl, fun z => by omega⟩
  · rw [va_up_ne _ _ q, ups_n _ _ q]
    unfold va_cpy
    by_cases z : 0 ≤ i ∧ i < 0 + cap
    · rw [if_pos z, show 0 + (i - 0) = i from by omega]
      exact ⟨fun z => (h i).1 (by omega), fun z => (h i).2 (by omega)⟩
    · rw [if_neg z]
      exact ⟨fun z => by omega, fun _ => rfl⟩
theorem pl_f0 {py : Nat → Nat} {p1 : Nat} : ∀ i : Nat, ((i : Int) < 0 + 1 → va_up (fun _ => none) 0 (some p1) i = some (ups py 0 p1 i)) ∧ (0 + 1 ≤ (i : Int) → va_up (fun _ => none) 0 (some p1) i = none) := by
  intro i
  by_cases q : i = 0
  · subst q
    rw [va_up_self, ups_s]
    exact ⟨fun _ => rfl, fun z => by omega⟩
  · rw [va_up_ne _ _ q]
    exact ⟨fun z => by omega, fun _ => rfl⟩
theorem mp_up {np kd n k : Int} {KD CU FI : Nat → Int} (hn : 0 ≤ np) (h : mpT np KD CU FI) (hv : okP kd n k) (hk : rI k ∧ 0 ≤ k ∧ k ≤ 100) : mpT (np + 1) (va_up KD np.toNat kd) (va_up CU np.toNat n) (va_up FI np.toNat k) := by
  intro i hi
  by_cases q : i = np.toNat
  · subst q
    rw [va_up_self, va_up_self, va_up_self]
    exact ⟨hv, hk.1, hk.2⟩
  · rw [va_up_ne _ _ q, va_up_ne _ _ q, va_up_ne _ _ q]
    exact h i (by omega)
theorem ff_up {np kd n k : Int} {KD CU FI : Nat → Int} {FF : Nat → Nat → Int} {F1 : Nat → Int} (hn : 0 ≤ np) (h : ∀ i : Nat, (i : Int) < np → ∀ j : Nat, j < 13 → FF i j = csZ (KD i) (CU i) (FI i) 5 j) (h1 : ∀ j : Nat, j < 13 → F1 j = csZ kd n k 5 j) : ∀ i : Nat, (i : Int) < np + 1 → ∀ j : Nat, j < 13 → ups FF np.toNat F1 i j = csZ (va_up KD np.toNat kd i) (va_up CU np.toNat n i) (va_up FI np.toNat k i) 5 j := by
  intro i hi
  by_cases q : i = np.toNat
  · subst q
    rw [va_up_self, va_up_self, va_up_self, ups_s]
    exact h1
  · rw [va_up_ne _ _ q, va_up_ne _ _ q, va_up_ne _ _ q, ups_n _ _ q]
    exact h i (by omega)
theorem plw_up {G : Gx} {py pe pc : Nat → Nat} {KD CU FI : Nat → Int} {FF : Nat → Nat → Int} {pj : Nat → Nat × Nat} {np : Int} {p1 e1 c1 : Nat} {kd n k : Int} {F1 : Nat → Int} {j1 : Nat × Nat} (hn : 0 ≤ np) : fm (plW G (ups py np.toNat p1) (ups pe np.toNat e1) (ups pc np.toNat c1) (va_up KD np.toNat kd) (va_up CU np.toNat n) (va_up FI np.toNat k) (ups FF np.toNat F1) (ups pj np.toNat j1)) (np + 1).toNat = fm (plW G py pe pc KD CU FI FF pj) np.toNat ++ plW G (fun _ => p1) (fun _ => e1) (fun _ => c1) (fun _ => kd) (fun _ => n) (fun _ => k) (fun _ => F1) (fun _ => j1) 0 := by
  rw [show (np + 1).toNat = np.toNat + 1 from by omega, fm_s]
  congr 1
  · refine fm_cg (fun j hj => ?_)
    unfold plW
    rw [ups_n _ _ (by omega), ups_n _ _ (by omega), ups_n _ _ (by omega), va_up_ne _ _ (by omega), va_up_ne _ _ (by omega), va_up_ne _ _ (by omega), ups_n _ _ (by omega), ups_n _ _ (by omega)]
  · unfold plW
    rw [ups_s, ups_s, ups_s, va_up_self, va_up_self, va_up_self, ups_s, ups_s]
/-- a rule is added -/
theorem ruw_up {G : Gx} {ry rk rs rn : Nat → Nat} {rC : Nat → Nat → Int} {rA : Nat → Nat → Int64} {rM : Nat → List Int64} {nr : Int} {r1 d1 s1 n1 : Nat} {C1 : Nat → Int} {A1 : Nat → Int64} {M1 : List Int64} (hn : 0 ≤ nr) : fm (ruW G (ups ry nr.toNat r1) (ups rk nr.toNat d1) (ups rs nr.toNat s1) (ups rn nr.toNat n1) (ups rC nr.toNat C1) (ups rA nr.toNat A1) (ups rM nr.toNat M1)) (nr + 1).toNat = fm (ruW G ry rk rs rn rC rA rM) nr.toNat ++ ruW G (fun _ => r1) (fun _ => d1) (fun _ => s1) (fun _ => n1) (fun _ => C1) (fun _ => A1) (fun _ => M1) 0 := by
  rw [show (nr + 1).toNat = nr.toNat + 1 from by omega, fm_s]
  congr 1
  · refine fm_cg (fun j hj => ?_)
    unfold ruW
    rw [ups_n _ _ (by omega), ups_n _ _ (by omega), ups_n _ _ (by omega), ups_n _ _ (by omega), ups_n _ _ (by omega), ups_n _ _ (by omega), ups_n _ _ (by omega)]
  · unfold ruW
    rw [ups_s, ups_s, ups_s, ups_s, ups_s, ups_s, ups_s]
theorem rt_old {RT T : Nat → Int} {nr tl : Int} {i j : Nat} (hi : (i : Int) < nr) (hj : (j : Int) < 40) : rtT (rtU RT T nr tl) i j = rtT RT i j := by
  unfold rtT rtU
  rw [if_neg (by omega)]
theorem rt_new {RT T : Nat → Int} {nr tl : Int} {j : Nat} (hn : 0 ≤ nr) (hj : (j : Int) < tl) : rtT (rtU RT T nr tl) nr j = T j := by
  unfold rtT rtU
  rw [if_pos (by omega)]
  congr 1
  omega
theorem rl_add {nr tl : Int} {RT RS T : Nat → Int} {rn : Nat → Nat} {rC : Nat → Nat → Int} {rA : Nat → Nat → Int64} {rM : Nat → List Int64} {C1 : Nat → Int} {A1 : Nat → Int64} (hn : 0 ≤ nr) (ht : 0 ≤ tl ∧ tl ≤ 40) (h : rlT nr RT RS rn rC rA rM) (hf : (rAll T tl).2.1 < 0) (hC : ∀ j : Nat, j < (rAll T tl).2.2.length → C1 j = (rAll T tl).2.2.getD j 0) : rlT (nr + 1) (rtU RT T nr tl) (va_up RS nr.toNat tl) (ups rn nr.toNat (rAll T tl).2.2.length) (ups rC nr.toNat C1) (ups rA nr.toNat A1) (ups rM nr.toNat []) := by
  intro i hi
  by_cases q : i = nr.toNat
  · have hk : (rAll T tl).2.2.length ≤ 40 := by rw [(ra_3 ht hf).1]; exact (okT_Y ht).2.1
    have e : rAll (rtT (rtU RT T nr tl) nr) tl = rAll T tl := rAll_cg (fun j hj => rt_new hn hj)
    have ei : ((i : Nat) : Int) = nr := by omega
    rw [ei]
    subst q
    rw [ups_s, ups_s, ups_s, ups_s]
    refine ⟨hk, Nat.zero_le _, fun j hj => absurd hj (Nat.not_lt_zero _), fun j hj => by rw [hC j hj]; exact en_all ht hf j hj, ?_⟩
    unfold ruE
    rw [va_up_self, e]
    exact ⟨ht.1, ht.2, hf, rfl, hC⟩
  · have h1 := h i (by omega)
    rw [ups_n _ _ q, ups_n _ _ q, ups_n _ _ q, ups_n _ _ q]
    refine ⟨h1.1, h1.2.1, h1.2.2.1, h1.2.2.2.1, ?_⟩
    have h2 := h1.2.2.2.2
    unfold ruE at h2 ⊢
    rw [show ((i : Nat) : Int).toNat = i from by omega] at h2 ⊢
    rw [va_up_ne _ _ q]
    have e : rAll (rtT (rtU RT T nr tl) i) (RS i) = rAll (rtT RT i) (RS i) := rAll_cg (fun j hj => rt_old (by omega) (by omega))
    rw [e]
    exact h2
theorem rt_b {RT T : Nat → Int} {nr tl : Int} (h : ∀ j : Nat, 0 ≤ RT j ∧ RT j ≤ 255) (ht : txT T) : ∀ j : Nat, 0 ≤ rtU RT T nr tl j ∧ rtU RT T nr tl j ≤ 255 := by
  intro j
  unfold rtU
  split
  · exact ht _
  · exact h j
theorem fd_b {T : Nat → Int} {tl i : Int} {b : Int64} (h : txT T) : txT (fdT T tl b i) := by
  intro j
  unfold fdT
  split
  · exact by8_b b _
  · exact h j
/-- a sitting is added, or told -/
theorem siw_up {sy : Nat → Nat} {SP SR SM : Nat → Int} {ns : Int} {y1 : Nat} {a b c : Int} (hn : 0 ≤ ns) : fm (siW (ups sy ns.toNat y1) (va_up SP ns.toNat a) (va_up SR ns.toNat b) (va_up SM ns.toNat c)) (ns + 1).toNat = fm (siW sy SP SR SM) ns.toNat ++ siW (fun _ => y1) (fun _ => a) (fun _ => b) (fun _ => c) 0 := by
  rw [show (ns + 1).toNat = ns.toNat + 1 from by omega, fm_s]
  congr 1
  · refine fm_cg (fun j hj => ?_)
    unfold siW
    rw [ups_n _ _ (by omega), va_up_ne _ _ (by omega), va_up_ne _ _ (by omega), va_up_ne _ _ (by omega)]
  · unfold siW
    rw [ups_s, va_up_self, va_up_self, va_up_self]
theorem si_add {ns a b c : Int} {SP SR SM : Nat → Int} (hn : 0 ≤ ns) (h : msT ns SP SR SM) (ha : rI a) (hb : 0 ≤ b ∧ b ≤ 12) (hc : c = 0 ∨ c = 1) : msT (ns + 1) (va_up SP ns.toNat a) (va_up SR ns.toNat b) (va_up SM ns.toNat c) := by
  intro i hi
  by_cases q : i = ns.toNat
  · subst q
    rw [va_up_self, va_up_self, va_up_self]
    exact ⟨ha, hb, hc⟩
  · rw [va_up_ne _ _ q, va_up_ne _ _ q, va_up_ne _ _ q]
    exact h i (by omega)
theorem td_add {ns c : Int} {SM : Nat → Int} (hn : 0 ≤ ns) (hc : c = 0 ∨ c = 1) : tdS SM ns.toNat + c = tdS (va_up SM ns.toNat c) (ns + 1).toNat := by
  rw [show (ns + 1).toNat = ns.toNat + 1 from by omega]
  show _ = su (fun i => if va_up SM ns.toNat c i ≠ 0 then 1 else 0) ns.toNat + (if va_up SM ns.toNat c ns.toNat ≠ 0 then 1 else 0)
  rw [va_up_self]
  have e : su (fun i => if va_up SM ns.toNat c i ≠ 0 then (1 : Int) else 0) ns.toNat = tdS SM ns.toNat := su_congr (fun j hj => by rw [va_up_ne _ _ (by omega)])
  rw [e]
  rcases hc with rfl | rfl <;> simp
theorem su_set {f g : Nat → Int} {i : Nat} : ∀ {n : Nat}, i < n → (∀ j, j ≠ i → g j = f j) → su g n = su f n - f i + g i
  | 0, h, _ => absurd h (Nat.not_lt_zero _)
  | n + 1, h, he => by
    show su g n + g n = su f n + f n - f i + g i
    by_cases q : i = n
    · subst q
      rw [su_congr (fun j hj => he j (by omega))]
      omega
    · rw [su_set (f := f) (g := g) (i := i) (n := n) (by omega) he, he n (by omega)]
      omega
theorem td_set {ns : Int} {SM : Nat → Int} {i : Int} (hi : 0 ≤ i ∧ i < ns) (h : SM i.toNat = 0 ∨ SM i.toNat = 1) : (if SM i.toNat = 0 then tdS SM ns.toNat + 1 else tdS SM ns.toNat) = tdS (va_up SM i.toNat 1) ns.toNat := by
  have e := su_set (f := fun j => if SM j ≠ 0 then (1 : Int) else 0) (g := fun j => if va_up SM i.toNat 1 j ≠ 0 then (1 : Int) else 0) (i := i.toNat) (n := ns.toNat) (by omega) (fun j hj => by rw [va_up_ne _ _ hj])
  rw [va_up_self] at e
  unfold tdS
  rcases h with h | h
  · rw [h] at e ⊢
    simp at e ⊢
    omega
  · rw [h] at e ⊢
    simp at e ⊢
    omega
theorem si_told {ns i : Int} {SP SR SM : Nat → Int} (h : msT ns SP SR SM) : msT ns SP SR (va_up SM i.toNat 1) := by
  intro j hj
  have h1 := h j hj
  refine ⟨h1.1, h1.2.1, ?_⟩
  by_cases q : j = i.toNat
  · subst q; rw [va_up_self]; exact Or.inr rfl
  · rw [va_up_ne _ _ q]; exact h1.2.2
theorem siw_told {sy : Nat → Nat} {SP SR SM : Nat → Int} {i : Nat} : ∀ j : Nat, j ≠ i → siW sy SP SR (va_up SM i 1) j = siW sy SP SR SM j := by
  intro j hj
  unfold siW
  rw [va_up_ne _ _ hj]
