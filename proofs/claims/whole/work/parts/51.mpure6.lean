/-! ===== the reference: letters ===== -/
def lxZ (C : Nat → Int) (cn : Nat) (kd n k : Int) : Int := pO (hbS C cn kd n k (csZ kd n k 5) (moZ kd n + 1).toNat) (alZ kd n) 0
def lyZ (C : Nat → Int) (cn : Nat) (kd n k : Int) : Int := pO (hbS C cn kd n k (csZ kd n k 5) (moZ kd n + 1).toNat) (alZ kd n) 1
theorem DZ_dvd {kd n k : Int} (hv : okP kd n k) : DZ kd n k ∣ 127733760 := by
  unfold okP at hv
  have e : n = 1 ∨ n = 2 ∨ n = 3 ∨ n = 4 ∨ n = 5 ∨ n = 6 ∨ n = 7 ∨ n = 8 ∨ n = 9 ∨ n = 10 ∨ n = 11 ∨ n = 12 := by omega
  have h1 : ∀ n : Fin 13, ∀ k : Fin 12, 1 ≤ k.1 → k.1 < n.1 → (127733760 : Int) % wayF (n.1 : Int) (k.1 : Int) = 0 := by decide +kernel
  have h4 : ∀ n : Fin 4, 1 ≤ n.1 → ∀ k : Fin 4, 1 ≤ k.1 → (127733760 : Int) % (wayF 4 (k.1 : Int) ^ n.1) = 0 := by decide +kernel
  rcases hv with ⟨h, h2⟩ | ⟨h, h2⟩ | ⟨h, h2⟩ | ⟨h, h2⟩ | ⟨h, h2⟩ <;> subst h
  · show (2 : Int) ^ n.toNat ∣ _
    rcases e with h | h | h | h | h | h | h | h | h | h | h | h <;> subst h <;> exact Int.dvd_of_emod_eq_zero (by decide)
  · show wayF n k ∣ _
    have := h1 ⟨n.toNat, by omega⟩ ⟨k.toNat, by omega⟩ (by show 1 ≤ k.toNat; omega) (by show k.toNat < n.toNat; omega)
    dsimp only at this
    rw [show ((n.toNat : Nat) : Int) = n from by omega, show ((k.toNat : Nat) : Int) = k from by omega] at this
    exact Int.dvd_of_emod_eq_zero this
  · show (2 : Int) ^ n.toNat ∣ _
    rcases e with h | h | h | h | h | h | h | h | h | h | h | h <;> subst h <;> exact Int.dvd_of_emod_eq_zero (by decide)
  · show (3 : Int) ^ n.toNat ∣ _
    rcases e with h | h | h | h | h | h | h | h | h | h | h | h <;> subst h <;> first | (exfalso; omega) | exact Int.dvd_of_emod_eq_zero (by decide)
  · show wayF 4 k ^ n.toNat ∣ _
    have := h4 ⟨n.toNat, by omega⟩ (by show 1 ≤ n.toNat; omega) ⟨k.toNat, by omega⟩ (by show 1 ≤ k.toNat; omega)
    dsimp only at this
    rw [show ((k.toNat : Nat) : Int) = k from by omega] at this
    exact Int.dvd_of_emod_eq_zero this
theorem ly_D {al h D : Int} (ha : 1 ≤ al) (hd : 1 ≤ D) (d3 : D * (al / D) = al) (hu : (al / D) ∣ h) : pO h al 1 ∣ D := by
  have hg := gcI_pos (a := h) (b := al) (by omega)
  have gr := gcI_dr h al
  have gu : (al / D) ∣ gcI h al := by
    unfold gcI
    exact Int.dvd_coe_gcd hu ⟨D, by rw [Int.mul_comm]; omega⟩
  rw [← pO_1 (by omega)]
  generalize gcI h al = g at *
  obtain ⟨y, hy⟩ := gr
  obtain ⟨z, hz⟩ := gu
  have t1 : al.tdiv g = y := by rw [hy, Int.mul_tdiv_cancel_left _ (by omega)]
  rw [t1]
  have hU : 0 < al / D := by
    by_cases q : 0 < al / D
    · exact q
    · have := Int.mul_nonpos_of_nonneg_of_nonpos (a := D) (b := al / D) (by omega) (by omega)
      omega
  refine ⟨z, ?_⟩
  apply Int.eq_of_mul_eq_mul_left (a := al / D) (by omega)
  rw [Int.mul_comm y z, ← Int.mul_assoc, ← hz, ← hy, Int.mul_comm]
  exact d3
theorem ly_b {C : Nat → Int} {cn : Nat} {kd n k : Int} (hv : okP kd n k) : 1 ≤ lyZ C cn kd n k ∧ lyZ C cn kd n k ≤ 4096 ∧ 0 ≤ lxZ C cn kd n k ∧ lxZ C cn kd n k ≤ lyZ C cn kd n k ∧ lyZ C cn kd n k ∣ 127733760 ∧ lyZ C cn kd n k * ltZ C cn kd n k = 127733760 * lxZ C cn kd n k := by
  have hm := moZ_b hv
  have h := mn_b (C := C) (cn := cn) hv (m := (moZ kd n + 1).toNat) (by omega)
  obtain ⟨d1, d2, d3, d4⟩ := DZ_w hv
  have hu := hb_dvd (C := C) (cn := cn) (kd := kd) (n := n) (k := k) (m := (moZ kd n + 1).toNat) (fun j hj => d4 j (by omega))
  have hy := ly_D (al_b hv).1 d1 d3 hu
  have hN : lyZ C cn kd n k ∣ 127733760 := Int.dvd_trans hy (DZ_dvd hv)
  refine ⟨h.1, h.2.1, h.2.2.1, h.2.2.2, hN, ?_⟩
  have e : ltZ C cn kd n k = (127733760 : Int).tdiv (lyZ C cn kd n k) * lxZ C cn kd n k := by
    unfold ltZ
    rw [if_neg (by omega)]
    rfl
  rw [e, ← Int.mul_assoc, Int.mul_tdiv_cancel' hN]
/-- fractions added, in least terms -/
def lsP (A U za : Int) : Prop := 0 ≤ A ∧ 1 ≤ U ∧ U ∣ 127733760 ∧ A * 127733760 = U * za
theorem ls_b {A U za : Int} (h : lsP A U za) (hz : 0 ≤ za ∧ za ≤ 30 * 127733760) : 0 ≤ A ∧ A ≤ 30 * 127733760 ∧ 1 ≤ U ∧ U ≤ 127733760 := by
  obtain ⟨h1, h2, h3, h4⟩ := h
  have h5 := Int.le_of_dvd (by decide) h3
  have h6 := Int.mul_le_mul_of_nonneg_left hz.2 (by omega : 0 ≤ U)
  refine ⟨h1, ?_, h2, h5⟩
  omega
theorem ls_s {A U za x y lt : Int} (h : lsP A U za) (hx : 0 ≤ x) (hy : 1 ≤ y) (hd : y ∣ 127733760) (hl : y * lt = 127733760 * x) : lsP (A * y.tdiv (gcI U y) + x * U.tdiv (gcI U y)) (U.tdiv (gcI U y) * y) (za + lt) := by
  obtain ⟨h1, h2, h3, h4⟩ := h
  have hg := gcI_pos (a := U) (b := y) (by omega)
  have el : U.tdiv (gcI U y) * y ∣ 127733760 := by
    have e1 : (U.toNat : Int) = U := by omega
    have e2 : (y.toNat : Int) = y := by omega
    have eg : gcI U y = (Nat.gcd U.toNat y.toNat : Nat) := by unfold gcI; congr 2 <;> omega
    have n1 : U.toNat ∣ 127733760 := Int.ofNat_dvd.mp (by rw [e1]; exact h3)
    have n2 : y.toNat ∣ 127733760 := Int.ofNat_dvd.mp (by rw [e2]; exact hd)
    have n3 := Nat.lcm_dvd n1 n2
    have n4 : Nat.lcm U.toNat y.toNat = U.toNat / Nat.gcd U.toNat y.toNat * y.toNat := by
      unfold Nat.lcm
      exact (Nat.div_mul_right_comm (Nat.gcd_dvd_left _ _) _).symm
    rw [n4] at n3
    have n5 : U.tdiv (gcI U y) = ((U.toNat / Nat.gcd U.toNat y.toNat : Nat) : Int) := by
      rw [eg, Int.tdiv_eq_ediv_of_nonneg (by omega), Int.natCast_ediv, e1]
    rw [n5]
    have n6 := Int.ofNat_dvd.mpr n3
    rw [Int.natCast_mul, e2] at n6
    exact n6
  have gl := gcI_dl U y
  have gr := gcI_dr U y
  generalize gcI U y = g at *
  obtain ⟨u1, hu⟩ := gl
  obtain ⟨y1, hy1⟩ := gr
  have t1 : U.tdiv g = u1 := by rw [hu, Int.mul_tdiv_cancel_left _ (by omega)]
  have t2 : y.tdiv g = y1 := by rw [hy1, Int.mul_tdiv_cancel_left _ (by omega)]
  rw [t1] at el
  rw [t1, t2]
  have pu : 1 ≤ u1 := by
    by_cases q : 1 ≤ u1
    · exact q
    · have := Int.mul_nonpos_of_nonneg_of_nonpos (a := g) (b := u1) (by omega) (by omega)
      omega
  have py : 1 ≤ y1 := by
    by_cases q : 1 ≤ y1
    · exact q
    · have := Int.mul_nonpos_of_nonneg_of_nonpos (a := g) (b := y1) (by omega) (by omega)
      omega
  refine ⟨Int.add_nonneg (Int.mul_nonneg h1 (by omega)) (Int.mul_nonneg hx (by omega)), ?_, el, ?_⟩
  · have := Int.mul_le_mul pu hy (by decide) (by omega)
    omega
  · have e1 : u1 * y = U * y1 := by rw [hy1, hu]; ac_rfl
    rw [Int.add_mul, Int.mul_add]
    have e2 : A * y1 * 127733760 = u1 * y * za := by
      rw [e1, show A * y1 * 127733760 = (A * 127733760) * y1 from by ac_rfl, h4]
      ac_rfl
    have e3 : x * u1 * 127733760 = u1 * y * lt := by
      rw [Int.mul_assoc u1 y lt, hl]
      ac_rfl
    rw [e2, e3]
theorem ls_g {A U za : Int} (h : lsP A U za) : lsP (A.tdiv (gcI A U)) (U.tdiv (gcI A U)) za := by
  obtain ⟨h1, h2, h3, h4⟩ := h
  have hg := gcI_pos (a := A) (b := U) (by omega)
  have gl := gcI_dl A U
  have gr := gcI_dr A U
  generalize gcI A U = g at *
  obtain ⟨a1, ha⟩ := gl
  obtain ⟨u1, hu⟩ := gr
  have t1 : A.tdiv g = a1 := by rw [ha, Int.mul_tdiv_cancel_left _ (by omega)]
  have t2 : U.tdiv g = u1 := by rw [hu, Int.mul_tdiv_cancel_left _ (by omega)]
  rw [t1, t2]
  have pa : 0 ≤ a1 := by
    by_cases q : 0 ≤ a1
    · exact q
    · have := Int.mul_neg_of_pos_of_neg hg (by omega : a1 < 0)
      omega
  have pu : 1 ≤ u1 := by
    by_cases q : 1 ≤ u1
    · exact q
    · have := Int.mul_nonpos_of_nonneg_of_nonpos (a := g) (b := u1) (by omega) (by omega)
      omega
  refine ⟨pa, pu, Int.dvd_trans ⟨g, by rw [hu, Int.mul_comm]⟩ h3, ?_⟩
  apply Int.eq_of_mul_eq_mul_left (a := g) (by omega)
  rw [← Int.mul_assoc, ← Int.mul_assoc, ← ha, ← hu]
  exact h4
theorem ls_z {A U za : Int} (h : lsP A U za) : A = 0 ↔ za = 0 := by
  obtain ⟨h1, h2, h3, h4⟩ := h
  constructor
  · intro e
    rw [e, Int.zero_mul] at h4
    rcases Int.mul_eq_zero.mp h4.symm with q | q <;> omega
  · intro e
    rw [e, Int.mul_zero] at h4
    omega
theorem ls_p {A U za x y lt q : Int} (h : lsP A U za) (hl : y * lt = 127733760 * x) (hy : 1 ≤ y) (hA : A ≠ 0) (hz : 0 ≤ za) : pO (x * U) (y * A) q = pO lt za q := by
  have hz2 : za ≠ 0 := fun e => hA ((ls_z h).mpr e)
  obtain ⟨h1, h2, h3, h4⟩ := h
  refine pO_r ?_ (Int.mul_pos (by omega) (by omega)) (by omega) q
  rw [show x * U * za = x * (U * za) from by ac_rfl, ← h4, show lt * (y * A) = (y * lt) * A from by ac_rfl, hl]
  ac_rfl
theorem ls_m {a b c d : Int} (ha : 0 ≤ a ∧ a ≤ c) (hb : 0 ≤ b ∧ b ≤ d) : 0 ≤ a * b ∧ a * b ≤ c * d := ⟨Int.mul_nonneg ha.1 hb.1, Int.mul_le_mul ha.2 hb.2 hb.1 (by omega)⟩
theorem ls_td {a g : Int} (ha : 0 ≤ a) (hg : 1 ≤ g) : 0 ≤ a.tdiv g ∧ a.tdiv g ≤ a := by
  rw [Int.tdiv_eq_ediv_of_nonneg ha]
  exact ⟨Int.ediv_nonneg ha (by omega), Int.ediv_le_self _ ha⟩
/-- every plan there is can be -/
def mpT (np : Int) (KD CU FI : Nat → Int) : Prop := ∀ i : Nat, (i : Int) < np → okP (KD i) (CU i) (FI i) ∧ rI (FI i) ∧ (0 ≤ FI i ∧ FI i ≤ 100)
theorem lt_sb {C : Nat → Int} {cn : Nat} {np i : Int} {KD CU FI : Nat → Int} (h : mpT np KD CU FI) (hi : 0 ≤ i ∧ i ≤ np ∧ np ≤ 30) : 0 ≤ su (fun i => ltZ C cn (KD i) (CU i) (FI i)) i.toNat ∧ su (fun i => ltZ C cn (KD i) (CU i) (FI i)) i.toNat ≤ i * 127733760 := by
  have r := su_bd (f := fun i => ltZ C cn (KD i) (CU i) (FI i)) (c := 127733760) (n := i.toNat) (fun j hj => lt_b (h j (by omega)).1)
  rw [show ((i.toNat : Nat) : Int) = i from by omega] at r
  exact r
