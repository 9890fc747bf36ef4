/-! ===== pure: greatest common divisors, fractions in least terms, comparing ===== -/
def ab (x : Int) : Int := (x.natAbs : Int)
theorem ab_nn (x : Int) : 0 ≤ ab x := Int.natCast_nonneg _
theorem ab_r {x : Int} (h : rL x) (h2 : x ≠ -9223372036854775808) : rL (ab x) := by unfold ab; omega
theorem ab_of {x : Int} (h : 0 ≤ x) : ab x = x := Int.natAbs_of_nonneg h
def gcI (a b : Int) : Int := (Nat.gcd a.natAbs b.natAbs : Int)
theorem gcI_nn (a b : Int) : 0 ≤ gcI a b := Int.natCast_nonneg _
theorem gcI_0 {x : Int} (h : 0 ≤ x) : gcI x 0 = x := by unfold gcI; simp; omega
theorem gcI_ab (a b : Int) : gcI (ab a) (ab b) = gcI a b := by unfold gcI ab; simp
theorem gcI_step (x y : Int) : gcI y (x.tmod y) = gcI x y := by
  unfold gcI
  rw [Int.natAbs_tmod, Nat.gcd_comm x.natAbs, Nat.gcd_rec y.natAbs x.natAbs, Nat.gcd_comm]
theorem tmod_b {x y : Int} (hx : 0 ≤ x) (hy : 0 < y) : 0 ≤ x.tmod y ∧ x.tmod y < y := by
  rw [Int.tmod_eq_emod_of_nonneg hx]
  exact ⟨Int.emod_nonneg _ (by omega), Int.emod_lt_of_pos _ hy⟩
theorem eu_half {x y : Int} (h0 : 0 < y) (h1 : y ≤ x) : 2 * (y * x.tmod y) < x * y := by
  rw [Int.tmod_eq_emod_of_nonneg (by omega)]
  have h2 : x % y < y := Int.emod_lt_of_pos _ h0
  have h3 := Int.mul_ediv_add_emod x y
  have h4 : 1 ≤ x / y := Int.le_ediv_of_mul_le h0 (by omega)
  have h5 : y * 1 ≤ y * (x / y) := Int.mul_le_mul_of_nonneg_left h4 (by omega)
  have h6 : 2 * (x % y) < x := by omega
  have h7 : y * (2 * (x % y)) < y * x := Int.mul_lt_mul_of_pos_left h6 h0
  have e1 : 2 * (y * (x % y)) = y * (2 * (x % y)) := by rw [Int.mul_left_comm]
  rw [e1, Int.mul_comm x y]
  exact h7
theorem eu_step {x y : Int} {k : Nat} (h0 : 0 < y) (h1 : y ≤ x) (h : x * y < 2 ^ (k + 1)) : y * x.tmod y < 2 ^ k := by
  have h2 := eu_half h0 h1
  have h3 : (2 : Int) ^ (k + 1) = 2 ^ k * 2 := Int.pow_succ 2 k
  omega
theorem tmod_lt {x y : Int} (hx : 0 ≤ x) (h : x < y) : x.tmod y = x := by
  rw [Int.tmod_eq_emod_of_nonneg hx]
  exact Int.emod_eq_of_lt hx h
theorem pos_mul {x y : Int} (hx : 0 < x) (hy : 0 < y) : 0 < x * y := Int.mul_pos hx hy
theorem ab_mul {a b : Int} (ha : rL a ∧ a ≠ -9223372036854775808) (hb : rL b ∧ b ≠ -9223372036854775808) : ab a * ab b < 2 ^ 126 := by
  have h1 := ab_r ha.1 ha.2
  have h2 := ab_r hb.1 hb.2
  have h3 : ab a * ab b ≤ 9223372036854775807 * 9223372036854775807 := Int.mul_le_mul (by omega) (by omega) (ab_nn b) (by decide)
  exact Int.lt_of_le_of_lt h3 (by decide)
theorem eu_k {x y : Int} {k : Nat} (hy : 0 < y) (h1 : y ≤ x) (h : x * y < 2 ^ k) : 1 ≤ k := by
  rcases Nat.eq_zero_or_pos k with q | q
  · rw [q] at h
    have := Int.mul_pos (by omega : 0 < x) hy
    omega
  · exact q
theorem eu_next {x y : Int} {k : Nat} (hx : 0 ≤ x) (hy : 0 < y) (h : x * y < 2 ^ k) : y * x.tmod y < 2 ^ (if y ≤ x then k - 1 else k) := by
  by_cases q : y ≤ x
  · rw [if_pos q]
    have hk := eu_k hy q h
    refine eu_step hy q ?_
    rw [show k - 1 + 1 = k from by omega]
    exact h
  · rw [if_neg q, tmod_lt hx (by omega), Int.mul_comm]
    exact h
theorem eu_q {x y i : Int} {k : Nat} (hy : 0 < y) (h : x * y < 2 ^ k) (hq : (i + (k : Int) ≤ 126 ∧ i = 0) ∨ (i + (k : Int) ≤ 127 ∧ y ≤ x)) (ht : x.tmod y < y) : (i + 1 + ((if y ≤ x then k - 1 else k : Nat) : Int) ≤ 126 ∧ i + 1 = 0) ∨ (i + 1 + ((if y ≤ x then k - 1 else k : Nat) : Int) ≤ 127 ∧ x.tmod y ≤ y) := by
  refine Or.inr ⟨?_, by omega⟩
  by_cases q : y ≤ x
  · have hk := eu_k hy q h
    rw [if_pos q]
    omega
  · rw [if_neg q]
    omega

theorem w_mabsl {p : Program} {l : Launch} {e : Env} {R : Room} {s : State} {m : MethodId} {args : Array Value} {below : List Frame} {meth : Method} {c : Code} {H : Heap} {locs : List Loc} {cells slots : Nat} {Q : State → Prop} {cc : ByteArray} {pc : Nat} {ls : Array Slot} {rest : List Value} (hexec : p.tables.exec = Jvm.exec) (hb : c.code = cc) (hml : c.maxLocals = ls.size) {own : String} {index : Nat} (hown : s.vm.findClass own = some m.cls) (hlink : (Cond.methodLink own index Lib.MathLoose.abs_long.x).before args s = true) (hstat : (Cond.static Lib.MathLoose.abs_long.x).before args s = true) (hini : (Cond.initialized "java/lang/Math").before args s = true) (hcode : (Cond.code Lib.MathLoose.abs_long.x Lib.MathLoose.abs_long.code 2 (some .long)).before args s = true)
    (hframes : 1 ≤ R.frames) (hlocals : (rest.map fun v => v.category).sum + 13 ≤ R.locals) (hc : cells ≤ R.cells) (hs : slots ≤ R.slots) {x : Int} (hx : rL x) (hdg : decode cc pc = .ok (.invokestatic index, 3))
    (kk : W p l e R s m args below meth c H locs cells slots Q (F0 m (pc + 3) ls (.long (lI (ab x)) :: rest))) : W p l e R s m args below meth c H locs cells slots Q (F0 m pc ls (.long (lI x) :: rest)) := by
  refine va_mabs_long hexec hb hml hown hlink hstat hini hcode hframes hlocals hc hs hdg ?_
  have e : (if 0 < lI x then lI x else -lI x) = lI (ab x) := by
    rw [← lI_0]
    by_cases q : 0 < x
    · rw [if_pos ((lI_lt (by decide) hx).mpr q), ab_of (by omega)]
    · rw [if_neg (fun z => q ((lI_lt (by decide) hx).mp z)), lI_neg]
      congr 1
      unfold ab
      omega
  rw [e]
  exact kk
/-- a fraction in least terms: above (0) or below (1) the line -/
def pO (a b p : Int) : Int := if gcI a b = 0 then p else (if p = 0 then a else b).tdiv (gcI a b)
theorem gcI_r {a b : Int} (ha : rL a ∧ a ≠ -9223372036854775808) (hb : rL b ∧ b ≠ -9223372036854775808) : 0 ≤ gcI a b ∧ gcI a b < 9223372036854775808 := by
  refine ⟨gcI_nn a b, ?_⟩
  unfold gcI
  by_cases h : a = 0
  · subst h
    simp only [Int.natAbs_zero, Nat.gcd_zero_left]
    omega
  · have := Nat.gcd_le_left b.natAbs (by omega : 0 < a.natAbs)
    omega
theorem pO_r1 {a b : Int} (ha : 0 ≤ a ∧ a < 9223372036854775808) (hb : 0 ≤ b ∧ b < 9223372036854775808) : 0 ≤ pO a b 1 ∧ pO a b 1 < 9223372036854775808 := by
  unfold pO
  split
  · decide
  · rw [if_neg (by decide)]
    have h1 : 0 ≤ b.tdiv (gcI a b) := Int.tdiv_nonneg hb.1 (gcI_nn a b)
    have h2 : b.tdiv (gcI a b) ≤ b := by
      rw [Int.tdiv_eq_ediv_of_nonneg hb.1]
      exact Int.ediv_le_self _ hb.1
    omega
def kcm (x y : Int) : Int := if x < y then -1 else if x = y then 0 else 1
theorem kcm_lt {x y : Int} (h : x < y) : kcm x y = -1 := if_pos h
theorem kcm_eq {x y : Int} (h : x = y) : kcm x y = 0 := by unfold kcm; rw [if_neg (by omega), if_pos h]
theorem kcm_gt {x y : Int} (h : y < x) : kcm x y = 1 := by unfold kcm; rw [if_neg (by omega), if_neg (by omega)]
theorem kcm_r (x y : Int) : rI (kcm x y) := by unfold kcm; split; decide; split <;> decide
theorem kcm_le {x y : Int} (h : kcm x y ≤ 0) : x ≤ y := by
  unfold kcm at h
  split at h
  · omega
  · split at h <;> omega
theorem kcm_g {x y : Int} (h : 0 < kcm x y) : y < x := by
  unfold kcm at h
  split at h
  · omega
  · split at h <;> omega
theorem kcm_mul {f x y : Int} (h : 0 < f) : kcm (f * x) (f * y) = kcm x y := by
  unfold kcm
  have h1 : f * x < f * y ↔ x < y := ⟨fun q => Int.lt_of_mul_lt_mul_left q (by omega), fun q => Int.mul_lt_mul_of_pos_left q h⟩
  have h2 : f * x = f * y ↔ x = y := ⟨fun q => Int.eq_of_mul_eq_mul_left (by omega) q, fun q => by rw [q]⟩
  simp only [h1, h2]
theorem gcI_dl (a b : Int) : gcI a b ∣ a := by
  unfold gcI
  exact Int.ofNat_dvd_left.mpr (Nat.gcd_dvd_left _ _)
theorem gcI_dr (a b : Int) : gcI a b ∣ b := by
  unfold gcI
  exact Int.ofNat_dvd_left.mpr (Nat.gcd_dvd_right _ _)
theorem tdiv_x {a f : Int} (h : f ∣ a) : f * a.tdiv f = a := Int.mul_tdiv_cancel' h
theorem gcI_pos {a b : Int} (h : b ≠ 0) : 0 < gcI a b := by
  unfold gcI
  have := Nat.gcd_pos_of_pos_right a.natAbs (by omega : 0 < b.natAbs)
  omega
/-- the comparison to thousandths, cut -/
theorem ag_eq (v b t : Int) : kcm ((1000 : Int).tdiv (gcI b 1000) * v) (b.tdiv (gcI b 1000) * t) = kcm (1000 * v) (b * t) := by
  have h := gcI_pos (a := b) (b := 1000) (by decide)
  have e1 : 1000 * v = gcI b 1000 * ((1000 : Int).tdiv (gcI b 1000) * v) := by rw [← Int.mul_assoc, tdiv_x (gcI_dr b 1000)]
  have e2 : b * t = gcI b 1000 * (b.tdiv (gcI b 1000) * t) := by rw [← Int.mul_assoc, tdiv_x (gcI_dl b 1000)]
  rw [e1, e2, kcm_mul h]
def wayF (n k : Int) : Int := if n < 0 ∨ 12 < n ∨ k < 0 ∨ n < k then 0 else wayT (((n * (n + 1)).tdiv 2 + k).toNat)
theorem nn_b {n : Int} (h0 : 0 ≤ n) (h1 : n ≤ 12) : 0 ≤ n * (n + 1) ∧ n * (n + 1) ≤ 156 ∧ 0 ≤ (n * (n + 1)).tdiv 2 ∧ (n * (n + 1)).tdiv 2 ≤ 78 := by
  have h : n = 0 ∨ n = 1 ∨ n = 2 ∨ n = 3 ∨ n = 4 ∨ n = 5 ∨ n = 6 ∨ n = 7 ∨ n = 8 ∨ n = 9 ∨ n = 10 ∨ n = 11 ∨ n = 12 := by omega
  rcases h with h | h | h | h | h | h | h | h | h | h | h | h | h <;> rw [h] <;> decide
theorem wayT_b : ∀ j, j < 91 → 1 ≤ wayT j ∧ wayT j ≤ 924 := by decide
theorem evenT_b : ∀ j, j < 13 → 1 ≤ evenT j ∧ evenT j ≤ 27720 := by decide
theorem wayF_b (n k : Int) : 0 ≤ wayF n k ∧ wayF n k ≤ 924 := by
  unfold wayF
  split
  · decide
  · next h =>
    have h1 : 0 ≤ n ∧ n ≤ 12 := by omega
    have h2 := nn_b h1.1 h1.2
    have := wayT_b (((n * (n + 1)).tdiv 2 + k).toNat) (by omega)
    omega
