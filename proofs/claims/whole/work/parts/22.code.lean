/-! ===== pure: refusals and bounds for the calls ===== -/
theorem reL_n {cd v c : Int} (h : cd = c) (h0 : c ≠ 0) : 4000000000000000000 - c = reL cd v := by
  subst h
  exact (if_neg h0).symm
theorem reL_0 {cd v w : Int} (h : cd = 0) (e : w = v) : w = reL cd v := by
  subst h
  exact e
theorem reI_n {cd v c : Int} (h : cd = c) (h0 : c ≠ 0) : c = reI cd v := by
  subst h
  exact (if_neg h0).symm
theorem reI_0 {cd v w : Int} (h : cd = 0) (e : w = v) : w = reI cd v := by
  subst h
  exact e
theorem rfU_0 (R : Nat → Int) : rfU R 0 = R := if_pos rfl
def cdG (q kd a : Int) : Int := if q ≠ 0 ∧ q ≠ 1 then -2 else if kd ≠ 1 then -3 else if a < 0 then -4 else if 10 < a then -6 else 0
def cdM (q m : Int) : Int := if q ≠ 0 ∧ q ≠ 1 then -2 else if m < 1 then -4 else if 4 < m then -6 else 0
def cdB (q x y a r mo by_ : Int) : Int := if q ≠ 0 ∧ q ≠ 1 then -2 else if x < 0 ∨ y < 0 ∨ a < 0 ∨ r < 0 then -4 else if 99 < x ∨ 99 < y ∨ 10 < a ∨ mo < r then -6 else if by_ = 0 then -3 else 0
def cdF (kd p a q : Int) : Int := if kd < 0 ∨ 3 < kd then -2 else if p < 0 ∨ a < 0 ∨ q < 0 then -4 else if 1000 < p ∨ 10 < a ∨ 1000 < q then -6 else 0
def cdW (n st d a q : Int) : Int := if q ≠ 0 ∧ q ≠ 1 then -2 else if n < 1 ∨ st < 0 ∨ d < 1 ∨ a < 0 then -4 else if 12 < n ∨ 4095 < st ∨ 12 < d ∨ 10 < a then -6 else 0
def cdK (n st p : Int) : Int := if n < 1 ∨ st < 0 ∨ p < 0 then -4 else if 12 < n ∨ 4095 < st ∨ 1000 < p then -6 else 0
theorem hb_b {C : Nat → Int} {cn : Nat} {kd n k : Int} {f : Nat → Int} (h : ∀ j, 0 ≤ f j) : ∀ m : Nat, 0 ≤ hbS C cn kd n k f m ∧ hbS C cn kd n k f m ≤ su f m
  | 0 => ⟨Int.le_refl 0, Int.le_refl 0⟩
  | m + 1 => by
    have h1 := hb_b (C := C) (cn := cn) (kd := kd) (n := n) (k := k) h m
    have h2 := h m
    unfold hbS
    show 0 ≤ _ ∧ _ ≤ su f m + f m
    split <;> omega
theorem su_up {f : Nat → Int} (h : ∀ j, 0 ≤ f j) {m n : Nat} (hm : m ≤ n) : su f m ≤ su f n := by
  have h1 := su_split f m (n - m)
  rw [show m + (n - m) = n from by omega] at h1
  have h2 := su_nn (f := fun j => f (m + j)) (n := n - m) (fun j _ => h _)
  omega
theorem hb_c {C : Nat → Int} {cn : Nat} {kd n k a : Int} (hv : okP kd n k) (ha : 0 ≤ a ∧ a ≤ 10) {m : Nat} (hm : m ≤ 13) : 0 ≤ hbS C cn kd n k (csZ kd n k a) m ∧ hbS C cn kd n k (csZ kd n k a) m ≤ alZ kd n := by
  have h1 := hb_b (C := C) (cn := cn) (kd := kd) (n := n) (k := k) (cs_nn hv ha) m
  have h2 := su_up (cs_nn hv ha) hm
  rw [cs_sum hv ha] at h2
  omega
theorem ag_b {kd n k : Int} (hv : okP kd n k) : 0 ≤ (1000 : Int).tdiv (gcI (alZ kd n) 1000) ∧ (1000 : Int).tdiv (gcI (alZ kd n) 1000) * alZ kd n ≤ 1000000000000000000 ∧ 0 ≤ (alZ kd n).tdiv (gcI (alZ kd n) 1000) ∧ (alZ kd n).tdiv (gcI (alZ kd n) 1000) * 1000 ≤ 1000000000000000000 := by
  unfold okP at hv
  have e : n = 1 ∨ n = 2 ∨ n = 3 ∨ n = 4 ∨ n = 5 ∨ n = 6 ∨ n = 7 ∨ n = 8 ∨ n = 9 ∨ n = 10 ∨ n = 11 ∨ n = 12 := by omega
  rcases hv with ⟨h, h2⟩ | ⟨h, h2⟩ | ⟨h, h2⟩ | ⟨h, h2⟩ | ⟨h, h2⟩ <;> subst h <;> rcases e with h | h | h | h | h | h | h | h | h | h | h | h <;> subst h <;> first | (exfalso; omega) | decide +kernel
theorem ag_t {kd n k a : Int} (hv : okP kd n k) (ha : 0 ≤ a ∧ a ≤ 10) (i : Nat) : rL (tlS (csZ kd n k a) i) ∧ rL ((1000 : Int).tdiv (gcI (alZ kd n) 1000) * tlS (csZ kd n k a) i) := by
  have h1 := tl_b hv ha i
  have h2 := ag_b hv
  have h3 := al_b hv
  have h4 := Int.mul_nonneg h2.1 h1.1
  have h5 := Int.mul_le_mul_of_nonneg_left h1.2 h2.1
  exact ⟨by omega, by omega⟩
theorem ag_q {kd n k q : Int} (hv : okP kd n k) (hq : 0 ≤ q ∧ q ≤ 1000) : rL ((alZ kd n).tdiv (gcI (alZ kd n) 1000) * q) := by
  have h2 := ag_b hv
  have h4 := Int.mul_nonneg h2.2.2.1 hq.1
  have h5 := Int.mul_le_mul_of_nonneg_left hq.2 h2.2.2.1
  omega
theorem ln_congr {f g : Nat → Bool} (h : ∀ i, f i = g i) : ∀ m, lnF f m = lnF g m
  | 0 => rfl
  | m + 1 => by
    unfold lnF
    rw [h m, ln_congr h m]
theorem ln_b (f : Nat → Bool) : ∀ m, lnF f m ≤ m
  | 0 => Nat.le_refl 0
  | m + 1 => by
    unfold lnF
    have := ln_b f m
    split <;> omega
/-! looking well: stopped at most as often as there are cases -/
theorem tsT_nn {A : Nat → Int} {a : Int} (ha : 0 ≤ a ∧ a ≤ 10) (h : ∀ r, 0 ≤ A r) (r : Nat) : 0 ≤ tsT A a 25 r := by
  unfold tsT
  have h1 := Int.mul_nonneg (h (r - 1)) ha.1
  have h2 := Int.mul_nonneg (h (r + 1)) (by omega : 0 ≤ 10 - a)
  split <;> split <;> omega
theorem su_add (f g : Nat → Int) : ∀ n : Nat, su (fun j => f j + g j) n = su f n + su g n
  | 0 => rfl
  | n + 1 => by
    show su _ n + (f n + g n) = su f n + f n + (su g n + g n)
    rw [su_add f g n]
    omega
theorem tsT_su {A : Nat → Int} {a : Int} (ha : 0 ≤ a ∧ a ≤ 10) (h : ∀ r, 0 ≤ A r) : su (tsT A a 25) 25 ≤ 10 * su A 25 := by
  have e1 : su (tsT A a 25) 25 = su (fun r => if 1 ≤ r ∧ r ≤ 25 then A (r - 1) * a else 0) 25 + su (fun r => if r + 1 < 25 then A (r + 1) * (10 - a) else 0) 25 := su_add _ _ 25
  rw [e1]
  have e2 : su (fun r => if 1 ≤ r ∧ r ≤ 25 then A (r - 1) * a else 0) 25 = a * su A 24 := by
    rw [← su_mul]
    have h3 := su_split (fun r => if 1 ≤ r ∧ r ≤ 25 then A (r - 1) * a else 0) 1 24
    rw [show 1 + 24 = 25 from rfl] at h3
    rw [h3, show su (fun r => if 1 ≤ r ∧ r ≤ 25 then A (r - 1) * a else 0) 1 = 0 from rfl, Int.zero_add]
    exact su_congr (fun j hj => by rw [if_pos (by omega), show 1 + j - 1 = j from by omega, Int.mul_comm])
  have e3 : su (fun r => if r + 1 < 25 then A (r + 1) * (10 - a) else 0) 25 = (10 - a) * su (fun j => A (1 + j)) 24 := by
    rw [← su_mul]
    show su _ 24 + (if 24 + 1 < 25 then _ else 0) = _
    rw [if_neg (by omega), Int.add_zero]
    exact su_congr (fun j hj => by rw [if_pos (by omega), Int.mul_comm, Nat.add_comm])
  rw [e2, e3]
  have h4 : su A 25 = su A 24 + A 24 := rfl
  have h5 := su_split A 1 24
  rw [show 1 + 24 = 25 from rfl] at h5
  have h6 : su A 1 = A 0 := Int.zero_add _
  have h7 := h 0
  have h8 := h 24
  have h9 := Int.mul_le_mul_of_nonneg_left (by omega : su A 24 ≤ su A 25) ha.1
  have h10 := Int.mul_le_mul_of_nonneg_left (by omega : su (fun j => A (1 + j)) 24 ≤ su A 25) (by omega : 0 ≤ 10 - a)
  have h11 : a * su A 25 + (10 - a) * su A 25 = 10 * su A 25 := by rw [← Int.add_mul]; congr 1; omega
  omega
theorem spS_ct {A : Nat → Int} {d : Int} (hd : 1 ≤ d ∧ d ≤ 12) : su (ctT A d) 25 + spS A d = su A 25 := by
  have h1 := su_split A (12 + d).toNat (13 - d).toNat
  rw [show (12 + d).toNat + (13 - d).toNat = 25 from by omega] at h1
  have h2 := su_split (ctT A d) (12 + d).toNat (13 - d).toNat
  rw [show (12 + d).toNat + (13 - d).toNat = 25 from by omega] at h2
  have h3 : su (ctT A d) (12 + d).toNat = su A (12 + d).toNat := su_congr (fun j hj => if_pos (by omega))
  have h4 : su (fun j => ctT A d ((12 + d).toNat + j)) (13 - d).toNat = 0 := su_z (fun j hj => if_neg (by omega))
  unfold spS
  omega
theorem lk_b {st d a : Int} (hd : 1 ≤ d ∧ d ≤ 12) (ha : 0 ≤ a ∧ a ≤ 10) : ∀ m : Nat, (∀ r, 0 ≤ (lkS st d a m).1 r) ∧ 0 ≤ (lkS st d a m).2 ∧ su (lkS st d a m).1 25 + (lkS st d a m).2 ≤ 10 ^ m
  | 0 => ⟨fun r => by show (0 : Int) ≤ if r = 12 then 1 else 0; split <;> decide, Int.le_refl 0, by show su (fun r : Nat => if r = 12 then (1 : Int) else 0) 25 + 0 ≤ 10 ^ 0; decide⟩
  | m + 1 => by
    obtain ⟨h1, h2, h3⟩ := lk_b (st := st) hd ha m
    have h4 := tsT_nn ha h1
    have h5 := tsT_su ha h1
    have h6 := spS_ct (A := tsT (lkS st d a m).1 a 25) hd
    have h7 : 0 ≤ spS (tsT (lkS st d a m).1 a 25) d := su_nn (fun j _ => h4 _)
    rw [Int.pow_succ]
    unfold lkS
    dsimp only
    split
    · refine ⟨fun r => ?_, by show 0 ≤ _ * 10 + _; omega, by show su (ctT _ d) 25 + (_ * 10 + _) ≤ _; omega⟩
      show 0 ≤ ctT _ d r
      unfold ctT
      split
      · exact h4 r
      · decide
    · exact ⟨h4, by show 0 ≤ _ * 10; omega, by show su (tsT _ a 25) 25 + _ * 10 ≤ _; omega⟩
theorem pw_b {m : Int} (h : 1 ≤ m ∧ m ≤ 12) : 10 ≤ (10 : Int) ^ m.toNat ∧ (10 : Int) ^ m.toNat ≤ 1000000000000 := by
  have e : m = 1 ∨ m = 2 ∨ m = 3 ∨ m = 4 ∨ m = 5 ∨ m = 6 ∨ m = 7 ∨ m = 8 ∨ m = 9 ∨ m = 10 ∨ m = 11 ∨ m = 12 := by omega
  rcases e with h | h | h | h | h | h | h | h | h | h | h | h <;> subst h <;> decide
theorem kp_b {m : Int} (h : 1 ≤ m ∧ m ≤ 12) : 0 ≤ (1000 : Int).tdiv (gcI ((10 : Int) ^ m.toNat) 1000) ∧ (1000 : Int).tdiv (gcI ((10 : Int) ^ m.toNat) 1000) * (10 : Int) ^ m.toNat ≤ 1000000000000000000 ∧ 0 ≤ ((10 : Int) ^ m.toNat).tdiv (gcI ((10 : Int) ^ m.toNat) 1000) ∧ ((10 : Int) ^ m.toNat).tdiv (gcI ((10 : Int) ^ m.toNat) 1000) * 1000 ≤ 1000000000000000000 := by
  have e : m = 1 ∨ m = 2 ∨ m = 3 ∨ m = 4 ∨ m = 5 ∨ m = 6 ∨ m = 7 ∨ m = 8 ∨ m = 9 ∨ m = 10 ∨ m = 11 ∨ m = 12 := by omega
  rcases e with h | h | h | h | h | h | h | h | h | h | h | h <;> subst h <;> decide +kernel
theorem kp_v {m v q : Int} (h : 1 ≤ m ∧ m ≤ 12) (hv : 0 ≤ v ∧ v ≤ (10 : Int) ^ m.toNat) (hq : 0 ≤ q ∧ q ≤ 1000) : rL v ∧ rL ((1000 : Int).tdiv (gcI ((10 : Int) ^ m.toNat) 1000) * v) ∧ rL (((10 : Int) ^ m.toNat).tdiv (gcI ((10 : Int) ^ m.toNat) 1000) * q) := by
  have h1 := kp_b h
  have h2 := pw_b h
  have h4 := Int.mul_nonneg h1.1 hv.1
  have h5 := Int.mul_le_mul_of_nonneg_left hv.2 h1.1
  have h6 := Int.mul_nonneg h1.2.2.1 hq.1
  have h7 := Int.mul_le_mul_of_nonneg_left hq.2 h1.2.2.1
  exact ⟨by omega, by omega, by omega⟩
theorem td10 (z : Int) : 10 * z.tdiv 10 + z.tmod 10 = z ∧ (0 ≤ z → 0 ≤ z.tdiv 10 ∧ 0 ≤ z.tmod 10) ∧ (z < 0 → z.tdiv 10 ≤ 0 ∧ z.tmod 10 ≤ 0) ∧ -9 ≤ z.tmod 10 ∧ z.tmod 10 ≤ 9 := by
  have h1 := Int.mul_tdiv_add_tmod z 10
  refine ⟨h1, fun h => ⟨Int.tdiv_nonneg h (by decide), Int.tmod_nonneg 10 h⟩, fun h => ?_, ?_, ?_⟩
  · have h2 : z = -(-z) := by omega
    rw [h2, Int.neg_tdiv, Int.neg_tmod]
    have h3 := Int.tdiv_nonneg (a := -z) (b := 10) (by omega) (by decide)
    have h4 := Int.tmod_nonneg (a := -z) 10 (by omega)
    omega
  · by_cases h : 0 ≤ z
    · have := Int.tmod_nonneg 10 h
      omega
    · have h2 : z = -(-z) := by omega
      rw [h2, Int.neg_tmod]
      have h3 := Int.tmod_lt_of_pos (-z) (b := 10) (by decide)
      omega
  · have h3 := Int.tmod_lt_of_pos z (b := 10) (by decide)
    omega
/-- what a NOBODY's odds lie below -/
def DZ (kd n k : Int) : Int := if kd = 1 then wayF n k else if kd = 2 then 2 ^ n.toNat else if kd = 3 then 3 ^ n.toNat else if kd = 4 then wayF 4 k ^ n.toNat else 2 ^ n.toNat
def DZok (kd n k : Int) : Bool := decide (1 ≤ DZ kd n k ∧ DZ kd n k ≤ 4096 ∧ (alZ kd n) % (DZ kd n k) = 0) && (List.range 13).all (fun j => decide (csZ kd n k 5 j % (alZ kd n / DZ kd n k) = 0))
theorem DZ_0 : ∀ n : Fin 13, 1 ≤ n.1 → DZok 0 (n.1 : Int) 0 = true := by decide +kernel
theorem DZ_2 : ∀ n : Fin 7, 1 ≤ n.1 → DZok 2 (n.1 : Int) 0 = true := by decide +kernel
theorem DZ_3 : ∀ n : Fin 5, 1 ≤ n.1 → DZok 3 (n.1 : Int) 0 = true := by decide +kernel
theorem DZ_4 : ∀ n : Fin 4, 1 ≤ n.1 → ∀ k : Fin 4, 1 ≤ k.1 → DZok 4 (n.1 : Int) (k.1 : Int) = true := by decide +kernel
theorem DZ_1 : ∀ n : Fin 13, 1 ≤ n.1 → ∀ k : Fin 12, 1 ≤ k.1 → k.1 < n.1 → DZok 1 (n.1 : Int) (k.1 : Int) = true := by decide +kernel
theorem DZ_v {kd n k : Int} (hv : okP kd n k) : DZok kd n k = true := by
  unfold okP at hv
  have en : ((n.toNat : Nat) : Int) = n := by omega
  have e0 : ∀ x : Int, DZok 0 n x = DZok 0 n 0 := fun x => rfl
  have e2 : ∀ x : Int, DZok 2 n x = DZok 2 n 0 := fun x => rfl
  have e3 : ∀ x : Int, DZok 3 n x = DZok 3 n 0 := fun x => rfl
  rcases hv with ⟨h, h2⟩ | ⟨h, h2⟩ | ⟨h, h2⟩ | ⟨h, h2⟩ | ⟨h, h2⟩ <;> subst h
  · have := DZ_0 ⟨n.toNat, by omega⟩ (by show 1 ≤ n.toNat; omega)
    rw [e0 k]
    rwa [en] at this
  · have ek : ((k.toNat : Nat) : Int) = k := by omega
    have := DZ_1 ⟨n.toNat, by omega⟩ (by show 1 ≤ n.toNat; omega) ⟨k.toNat, by omega⟩ (by show 1 ≤ k.toNat; omega) (by show k.toNat < n.toNat; omega)
    rwa [en, ek] at this
  · have := DZ_2 ⟨n.toNat, by omega⟩ (by show 1 ≤ n.toNat; omega)
    rw [e2 k]
    rwa [en] at this
  · have := DZ_3 ⟨n.toNat, by omega⟩ (by show 1 ≤ n.toNat; omega)
    rw [e3 k]
    rwa [en] at this
  · have ek : ((k.toNat : Nat) : Int) = k := by omega
    have := DZ_4 ⟨n.toNat, by omega⟩ (by show 1 ≤ n.toNat; omega) ⟨k.toNat, by omega⟩ (by show 1 ≤ k.toNat; omega)
    rwa [en, ek] at this
theorem DZ_w {kd n k : Int} (hv : okP kd n k) : 1 ≤ DZ kd n k ∧ DZ kd n k ≤ 4096 ∧ DZ kd n k * (alZ kd n / DZ kd n k) = alZ kd n ∧ ∀ j : Nat, j < 13 → (alZ kd n / DZ kd n k) ∣ csZ kd n k 5 j := by
  have h := DZ_v hv
  unfold DZok at h
  rw [Bool.and_eq_true, decide_eq_true_eq, List.all_eq_true] at h
  obtain ⟨⟨h1, h2, h3⟩, h4⟩ := h
  refine ⟨h1, h2, Int.mul_ediv_cancel' (Int.dvd_of_emod_eq_zero h3), fun j hj => ?_⟩
  exact Int.dvd_of_emod_eq_zero (of_decide_eq_true (h4 j (List.mem_range.mpr hj)))
theorem hb_dvd {C : Nat → Int} {cn : Nat} {kd n k U : Int} {f : Nat → Int} : ∀ {m : Nat}, (∀ j : Nat, j < m → U ∣ f j) → U ∣ hbS C cn kd n k f m
  | 0, _ => ⟨0, by show (0 : Int) = _; omega⟩
  | m + 1, h => by
    unfold hbS
    refine Int.dvd_add (hb_dvd (fun j hj => h j (by omega))) ?_
    split
    · exact h m (by omega)
    · exact ⟨0, by omega⟩
theorem mn_b {C : Nat → Int} {cn : Nat} {kd n k : Int} (hv : okP kd n k) {m : Nat} (hm : m ≤ 13) : 1 ≤ pO (hbS C cn kd n k (csZ kd n k 5) m) (alZ kd n) 1 ∧ pO (hbS C cn kd n k (csZ kd n k 5) m) (alZ kd n) 1 ≤ 4096 ∧ 0 ≤ pO (hbS C cn kd n k (csZ kd n k 5) m) (alZ kd n) 0 ∧ pO (hbS C cn kd n k (csZ kd n k 5) m) (alZ kd n) 0 ≤ pO (hbS C cn kd n k (csZ kd n k 5) m) (alZ kd n) 1 := by
  obtain ⟨d1, d2, d3, d4⟩ := DZ_w hv
  have hh := hb_c (C := C) (cn := cn) hv (a := 5) (by decide) hm
  have hu := hb_dvd (C := C) (cn := cn) (kd := kd) (n := n) (k := k) (m := m) (fun j hj => d4 j (by omega))
  generalize hbS C cn kd n k (csZ kd n k 5) m = h at *
  have ha := al_b hv
  generalize alZ kd n = al at *
  generalize DZ kd n k = D at *
  have hg := gcI_pos (a := h) (b := al) (by omega)
  have gl := gcI_dl h al
  have gr := gcI_dr h al
  have gu : (al / D) ∣ gcI h al := by
    unfold gcI
    exact Int.dvd_coe_gcd hu ⟨D, by rw [Int.mul_comm]; omega⟩
  unfold pO
  rw [if_neg (by omega : ¬ gcI h al = 0), if_neg (by omega : ¬ gcI h al = 0), if_neg (by decide : ¬ (1 : Int) = 0), if_pos rfl]
  generalize gcI h al = g at *
  obtain ⟨x, hx⟩ := gl
  obtain ⟨y, hy⟩ := gr
  obtain ⟨z, hz⟩ := gu
  have t1 : al.tdiv g = y := by rw [hy, Int.mul_tdiv_cancel_left _ (by omega)]
  have t0 : h.tdiv g = x := by rw [hx, Int.mul_tdiv_cancel_left _ (by omega)]
  rw [t1, t0]
  have hy1 : 1 ≤ y := by
    by_cases q : 1 ≤ y
    · exact q
    · have := Int.mul_nonpos_of_nonneg_of_nonpos (a := g) (b := y) (by omega) (by omega)
      omega
  have hx0 : 0 ≤ x := by
    by_cases q : 0 ≤ x
    · exact q
    · have := Int.mul_neg_of_pos_of_neg hg (by omega : x < 0)
      omega
  have hxy : x ≤ y := by
    apply Int.le_of_mul_le_mul_left _ hg
    omega
  refine ⟨hy1, ?_, hx0, hxy⟩
  -- g = U z, al = g y = D U, so z y = D
  have hU : 0 < al / D := by
    by_cases q : 0 < al / D
    · exact q
    · have := Int.mul_nonpos_of_nonneg_of_nonpos (a := D) (b := al / D) (by omega) (by omega)
      omega
  have hz0 : 0 < z := by
    by_cases q : 0 < z
    · exact q
    · have := Int.mul_nonpos_of_nonneg_of_nonpos (a := al / D) (b := z) (by omega) (by omega)
      omega
  have hzy : z * y = D := by
    apply Int.eq_of_mul_eq_mul_left (a := al / D) (by omega)
    rw [← Int.mul_assoc, ← hz, ← hy, Int.mul_comm]
    exact d3.symm
  have := Int.mul_le_mul_of_nonneg_right (by omega : 1 ≤ z) (by omega : 0 ≤ y)
  omega
