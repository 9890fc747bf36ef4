/-! ===== the reference: refusals, small numbers ===== -/
def rfM (R : Nat → Int) (cd : Int) : Nat → Int := if cd = 0 then R else va_up R (-cd).toNat (R (-cd).toNat + 1)
theorem rfM_0 (R : Nat → Int) : rfM R 0 = R := if_pos rfl
/-- the same refusals are counted, one place higher -/
def rfE (RM R : Nat → Int) : Prop := ∀ j : Nat, j < 6 → RM (j + 1) = R j
theorem rfE_s {RM R : Nat → Int} {cd : Int} (h : rfE RM R) (hc : -6 ≤ cd ∧ cd ≤ 0) : rfE (rfM RM cd) (rfU R cd) := by
  intro j hj
  unfold rfM rfU
  by_cases q : cd = 0
  · rw [if_pos q, if_pos q]; exact h j hj
  · rw [if_neg q, if_neg q]
    by_cases q2 : j = (-1 - cd).toNat
    · have e : j + 1 = (-cd).toNat := by omega
      rw [← q2, ← e, va_up_self, va_up_self, h j hj]
    · rw [va_up_ne _ _ q2, va_up_ne _ _ (by omega), h j hj]
def wiZ (v lo hi : Int) : Int := if v < lo then -4 else if hi < v then -6 else 0
theorem wi_c (v lo hi : Int) : (v < lo ∧ wiZ v lo hi = -4) ∨ (lo ≤ v ∧ hi < v ∧ wiZ v lo hi = -6) ∨ (lo ≤ v ∧ v ≤ hi ∧ wiZ v lo hi = 0) := by
  unfold wiZ
  split
  · omega
  · split <;> omega
def wrZ (q a : Int) : Int := if q ≠ 0 ∧ q ≠ 1 then -2 else wiZ a 0 10
theorem wr_c (q a : Int) : (q ≠ 0 ∧ q ≠ 1 ∧ wrZ q a = -2) ∨ ((q = 0 ∨ q = 1) ∧ a < 0 ∧ wrZ q a = -4) ∨ ((q = 0 ∨ q = 1) ∧ 10 < a ∧ wrZ q a = -6) ∨ ((q = 0 ∨ q = 1) ∧ 0 ≤ a ∧ a ≤ 10 ∧ wrZ q a = 0) := by
  unfold wrZ
  have := wi_c a 0 10
  split <;> omega
theorem cdQ_c (q : Int) : (q ≠ 0 ∧ q ≠ 1 ∧ cdQ q = -2) ∨ ((q = 0 ∨ q = 1) ∧ cdQ q = -1) := by
  unfold cdQ
  split <;> omega
theorem mwN_c {kd : Int} (h : 0 ≤ kd ∧ kd ≤ 4) : (kd < 2 ∧ mwN kd = 12) ∨ (kd = 2 ∧ mwN kd = 6) ∨ (kd = 3 ∧ mwN kd = 4) ∨ (kd = 4 ∧ mwN kd = 3) := by
  unfold mwN
  split
  · omega
  · split
    · omega
    · split <;> omega
theorem gcI_neg (a b : Int) : gcI (-a) b = gcI a b := by unfold gcI; rw [Int.natAbs_neg]
theorem wy_t : ∀ m : Fin 13, ∀ i : Fin 13, 1 ≤ i.1 → m.1 + i.1 ≤ 12 → (wayF ((m.1 : Int) + ((i.1 : Int) - 1)) ((i.1 : Int) - 1) * ((m.1 : Int) + (i.1 : Int))).tdiv (i.1 : Int) = wayF ((m.1 : Int) + (i.1 : Int)) (i.1 : Int) := by decide +kernel
theorem wy_s {n k i : Int} (hk : 0 ≤ k ∧ k ≤ n ∧ n ≤ 12) (hi : 1 ≤ i ∧ i ≤ k) : (wayF (n - k + (i - 1)) (i - 1) * (n - k + i)).tdiv i = wayF (n - k + (i + 1 - 1)) (i + 1 - 1) := by
  have h := wy_t ⟨(n - k).toNat, by omega⟩ ⟨i.toNat, by omega⟩ (by show 1 ≤ i.toNat; omega) (by show (n - k).toNat + i.toNat ≤ 12; omega)
  dsimp only at h
  rw [show (((n - k).toNat : Nat) : Int) = n - k from by omega, show ((i.toNat : Nat) : Int) = i from by omega] at h
  rw [h, show n - k + (i + 1 - 1) = n - k + i from by omega, show i + 1 - 1 = i from by omega]
theorem wy_b {x y z : Int} (hz : 0 ≤ z ∧ z ≤ 12) : 0 ≤ wayF x y * z ∧ wayF x y * z ≤ 924 * 12 := by
  have h := wayF_b x y
  exact ⟨Int.mul_nonneg h.1 hz.1, Int.mul_le_mul h.2 hz.2 hz.1 (by decide)⟩
theorem wy_0 {n : Int} (h : 0 ≤ n ∧ n ≤ 12) : wayF n 0 = 1 := by
  have e : n = 0 ∨ n = 1 ∨ n = 2 ∨ n = 3 ∨ n = 4 ∨ n = 5 ∨ n = 6 ∨ n = 7 ∨ n = 8 ∨ n = 9 ∨ n = 10 ∨ n = 11 ∨ n = 12 := by omega
  rcases e with h | h | h | h | h | h | h | h | h | h | h | h | h <;> subst h <;> decide
theorem wayF_z {n k : Int} (h : k < 0 ∨ n < k) : wayF n k = 0 := by
  unfold wayF
  rw [if_pos (by omega)]
/-! fractions that are the same -/
theorem pO_mul {f a b q : Int} (hf : 0 < f) (hb : 0 < b) : pO (f * a) (f * b) q = pO a b q := by
  have hg := gcI_pos (a := a) (b := b) (by omega)
  have e : gcI (f * a) (f * b) = f * gcI a b := by
    unfold gcI
    rw [Int.natAbs_mul, Int.natAbs_mul, Nat.gcd_mul_left]
    push_cast
    rw [Int.natAbs_of_nonneg (by omega : 0 ≤ f)]
  have hfg := Int.mul_pos hf hg
  unfold pO
  rw [e, if_neg (show ¬ f * gcI a b = 0 by omega), if_neg (show ¬ gcI a b = 0 by omega)]
  by_cases q0 : q = 0
  · rw [if_pos q0, if_pos q0, Int.mul_tdiv_mul_of_pos _ _ hf]
  · rw [if_neg q0, if_neg q0, Int.mul_tdiv_mul_of_pos _ _ hf]
theorem pO_r {a b c d : Int} (h : a * d = c * b) (hb : 0 < b) (hd : 0 < d) (q : Int) : pO a b q = pO c d q := by
  have h1 := pO_mul (a := a) (b := b) (q := q) hd hb
  have h2 := pO_mul (a := c) (b := d) (q := q) hb hd
  rw [← h1, ← h2, Int.mul_comm d a, h, Int.mul_comm c b, Int.mul_comm d b]
theorem gcI_le {a b : Int} (hb : 0 < b) : gcI a b ≤ b := Int.le_of_dvd hb (gcI_dr a b)
theorem pO_1 {a b : Int} (hb : 0 < b) : b.tdiv (gcI a b) = pO a b 1 := by
  have hg := gcI_pos (a := a) (b := b) (by omega)
  unfold pO
  rw [if_neg (by omega), if_neg (by decide)]
theorem pO_0 {a b : Int} (hb : 0 < b) : a.tdiv (gcI a b) = pO a b 0 := by
  have hg := gcI_pos (a := a) (b := b) (by omega)
  unfold pO
  rw [if_neg (by omega), if_pos rfl]
/-! the lower number of a plan, and what the two countings differ by -/
def mbZ (kd n : Int) : Int := if kd = 1 then 10 ^ n.toNat * 27720 else if kd = 3 then 3000 ^ n.toNat else if kd = 4 then (10 ^ 4 * 12) ^ n.toNat else 10 ^ n.toNat
def uZ (kd n : Int) : Int := if kd = 1 then (27720 : Int).tdiv (evenT n.toNat) else 1
def vZ (kd n : Int) : Int := if kd = 2 then 20 ^ n.toNat else 1
theorem mb_b {kd n k : Int} (hv : okP kd n k) : 1 ≤ mbZ kd n ∧ mbZ kd n ≤ 27720000000000000 ∧ 1 ≤ uZ kd n ∧ uZ kd n ≤ 27720 ∧ 1 ≤ vZ kd n ∧ vZ kd n ≤ 64000000 ∧ vZ kd n * mbZ kd n = uZ kd n * alZ kd n ∧ (mbZ kd n % 1000 = 0 ∨ mbZ kd n ≤ 100) := by
  unfold okP at hv
  have e : n = 1 ∨ n = 2 ∨ n = 3 ∨ n = 4 ∨ n = 5 ∨ n = 6 ∨ n = 7 ∨ n = 8 ∨ n = 9 ∨ n = 10 ∨ n = 11 ∨ n = 12 := by omega
  rcases hv with ⟨h, h2⟩ | ⟨h, h2⟩ | ⟨h, h2⟩ | ⟨h, h2⟩ | ⟨h, h2⟩ <;> subst h <;> rcases e with h | h | h | h | h | h | h | h | h | h | h | h <;> subst h <;> first | (exfalso; omega) | decide +kernel
/-- the same numbers, over their lower number -/
def scE (kd n x y : Int) : Prop := vZ kd n * x = uZ kd n * y
theorem sc_b {kd n k x y : Int} (hv : okP kd n k) (h : scE kd n x y) (hy : 0 ≤ y ∧ y ≤ alZ kd n) : 0 ≤ x ∧ x ≤ mbZ kd n := by
  have hb := mb_b hv
  unfold scE at h
  have h1 := Int.mul_nonneg (by omega : 0 ≤ uZ kd n) hy.1
  have h2 := Int.mul_le_mul_of_nonneg_left hy.2 (by omega : 0 ≤ uZ kd n)
  constructor
  · apply Int.le_of_mul_le_mul_left (a := vZ kd n) _ (by omega); omega
  · apply Int.le_of_mul_le_mul_left (a := vZ kd n) _ (by omega); omega
theorem sc_z {kd n k x y : Int} (hv : okP kd n k) (h : scE kd n x y) : x = 0 ↔ y = 0 := by
  have hb := mb_b hv
  unfold scE at h
  constructor
  · intro z
    rw [z, Int.mul_zero] at h
    rcases Int.mul_eq_zero.mp h.symm with h | h <;> omega
  · intro z
    rw [z, Int.mul_zero] at h
    rcases Int.mul_eq_zero.mp h with h | h <;> omega
theorem sc_mul {kd n x y : Int} (c : Int) (h : scE kd n x y) : scE kd n (c * x) (c * y) := by
  unfold scE at *
  rw [Int.mul_left_comm, h, Int.mul_left_comm]
theorem sc_add {kd n x y x2 y2 : Int} (h : scE kd n x y) (h2 : scE kd n x2 y2) : scE kd n (x + x2) (y + y2) := by
  unfold scE at *
  rw [Int.mul_add, Int.mul_add, h, h2]
theorem sc_sub {kd n x y x2 y2 : Int} (h : scE kd n x y) (h2 : scE kd n x2 y2) : scE kd n (x - x2) (y - y2) := by
  unfold scE at *
  rw [Int.mul_sub, Int.mul_sub, h, h2]
theorem sc_0 (kd n : Int) : scE kd n 0 0 := by unfold scE; rw [Int.mul_zero, Int.mul_zero]
theorem sc_su {kd n : Int} {f g : Nat → Int} : ∀ {m : Nat}, (∀ j, j < m → scE kd n (f j) (g j)) → scE kd n (su f m) (su g m)
  | 0, _ => sc_0 kd n
  | m + 1, h => sc_add (sc_su (fun j hj => h j (by omega))) (h m (by omega))
theorem sc_mb {kd n k : Int} (hv : okP kd n k) : scE kd n (mbZ kd n) (alZ kd n) := (mb_b hv).2.2.2.2.2.2.1
theorem sc_pO {kd n k x y b d : Int} (hv : okP kd n k) (h : scE kd n x y) (h2 : scE kd n b d) (hb : 0 < b) (hd : 0 < d) (q : Int) : pO x b q = pO y d q := by
  have hm := mb_b hv
  unfold scE at h h2
  rw [← pO_mul (f := vZ kd n) (a := x) (b := b) (by omega) hb, h, h2, pO_mul (by omega) hd]
theorem sc_p {kd n k x y : Int} (hv : okP kd n k) (h : scE kd n x y) (q : Int) : pO x (mbZ kd n) q = pO y (alZ kd n) q := sc_pO hv h (sc_mb hv) (by have := mb_b hv; omega) (by have := al_b hv; omega) q
theorem sc_le {kd n k x y x2 y2 : Int} (hv : okP kd n k) (h : scE kd n x y) (h2 : scE kd n x2 y2) : x ≤ x2 ↔ y ≤ y2 := by
  have hm := mb_b hv
  unfold scE at h h2
  constructor
  · intro z
    have := Int.mul_le_mul_of_nonneg_left z (by omega : 0 ≤ vZ kd n)
    apply Int.le_of_mul_le_mul_left (a := uZ kd n) _ (by omega)
    omega
  · intro z
    have := Int.mul_le_mul_of_nonneg_left z (by omega : 0 ≤ uZ kd n)
    apply Int.le_of_mul_le_mul_left (a := vZ kd n) _ (by omega)
    omega
def scF (kd n : Int) (F f : Nat → Int) : Prop := ∀ j : Nat, j < 13 → scE kd n (F j) (f j)
theorem sc_tl {kd n : Int} {F f : Nat → Int} (h : scF kd n F f) (i : Nat) : scE kd n (tlS F i) (tlS f i) := sc_su (fun j hj => h _ (by omega))
theorem sc_to {kd n : Int} {F f : Nat → Int} (h : scF kd n F f) : scE kd n (toS F) (toS f) := sc_su (fun j hj => sc_mul _ (h j (by omega)))
