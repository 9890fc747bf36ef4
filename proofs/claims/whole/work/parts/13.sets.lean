/-! ===== pure: sets of cups as bits ===== -/
theorem nx_and (a b : Nat) : nI a &&& nI b = nI (a &&& b) := by
  apply Int32.toBitVec_inj.1
  show BitVec.ofNat 32 a &&& BitVec.ofNat 32 b = BitVec.ofNat 32 (a &&& b)
  apply BitVec.eq_of_getLsbD_eq
  intro i hi
  simp [hi]
theorem nx_xor (a b : Nat) : nI a ^^^ nI b = nI (a ^^^ b) := by
  apply Int32.toBitVec_inj.1
  show BitVec.ofNat 32 a ^^^ BitVec.ofNat 32 b = BitVec.ofNat 32 (a ^^^ b)
  apply BitVec.eq_of_getLsbD_eq
  intro i hi
  simp [hi]
theorem nx_or (a b : Nat) : nI a ||| nI b = nI (a ||| b) := by
  apply Int32.toBitVec_inj.1
  show BitVec.ofNat 32 a ||| BitVec.ofNat 32 b = BitVec.ofNat 32 (a ||| b)
  apply BitVec.eq_of_getLsbD_eq
  intro i hi
  simp [hi]
def xoZ (a b : Int) : Int := ((a.toNat ^^^ b.toNat : Nat) : Int)
def anZ (a b : Int) : Int := ((a.toNat &&& b.toNat : Nat) : Int)
def orZ (a b : Int) : Int := ((a.toNat ||| b.toNat : Nat) : Int)
theorem iI_xor {a b : Int} (ha : 0 ≤ a) (hb : 0 ≤ b) : iI a ^^^ iI b = iI (xoZ a b) := by
  unfold xoZ
  rw [iI_nat ha, iI_nat hb, nx_xor, iI_N]
theorem iI_and {a b : Int} (ha : 0 ≤ a) (hb : 0 ≤ b) : iI a &&& iI b = iI (anZ a b) := by
  unfold anZ
  rw [iI_nat ha, iI_nat hb, nx_and, iI_N]
theorem iI_or {a b : Int} (ha : 0 ≤ a) (hb : 0 ≤ b) : iI a ||| iI b = iI (orZ a b) := by
  unfold orZ
  rw [iI_nat ha, iI_nat hb, nx_or, iI_N]
theorem xo_b {a b : Int} (k : Nat) (ha : 0 ≤ a ∧ a < 2 ^ k) (hb : 0 ≤ b ∧ b < 2 ^ k) : 0 ≤ xoZ a b ∧ xoZ a b < 2 ^ k := by
  unfold xoZ
  have e : ((2 ^ k : Nat) : Int) = 2 ^ k := by simp
  have h := Nat.xor_lt_two_pow (x := a.toNat) (y := b.toNat) (n := k) (by omega) (by omega)
  omega
theorem or_b {a b : Int} (k : Nat) (ha : 0 ≤ a ∧ a < 2 ^ k) (hb : 0 ≤ b ∧ b < 2 ^ k) : 0 ≤ orZ a b ∧ orZ a b < 2 ^ k := by
  unfold orZ
  have e : ((2 ^ k : Nat) : Int) = 2 ^ k := by simp
  have h := Nat.or_lt_two_pow (x := a.toNat) (y := b.toNat) (n := k) (by omega) (by omega)
  omega
theorem an_b {a b : Int} (hb : 0 ≤ b) : 0 ≤ anZ a b ∧ anZ a b ≤ b := by
  unfold anZ
  have h := Nat.and_le_right (n := a.toNat) (m := b.toNat)
  omega
def p2 (c : Int) : Int := ((2 ^ c.toNat : Nat) : Int)
theorem p2_b {c : Int} (k : Nat) (h : c ≤ k) : 1 ≤ p2 c ∧ p2 c ≤ ((2 ^ k : Nat) : Int) := by
  unfold p2
  have h1 := Nat.two_pow_pos c.toNat
  have h2 : 2 ^ c.toNat ≤ 2 ^ k := Nat.pow_le_pow_right (by decide) (by omega)
  omega
theorem shl_1 {c : Int} (h : 0 ≤ c ∧ c < 31) : iI 1 <<< (iI c &&& 31) = iI (p2 c) := by
  have h2 : 2 ^ c.toNat ≤ 2 ^ 30 := Nat.pow_le_pow_right (by decide) (by omega)
  rw [iI_nat (by decide : (0 : Int) ≤ 1), iI_nat h.1, pk_shlN _ c.toNat (s_l _ (by omega)) (by show 1 * 2 ^ c.toNat < _; omega)]
  unfold p2
  rw [iI_N, show (1 : Int).toNat * 2 ^ c.toNat = 2 ^ c.toNat from Nat.one_mul _]
/-- how many bits, as the library counts -/
def bc1 (i : Int32) : Int32 := i - ((i.toUInt32 >>> ((iI 1).toUInt32 &&& Int32.toUInt32 31)).toInt32 &&& iI 1431655765)
def bc2 (i : Int32) : Int32 := (i &&& iI 858993459) + ((i.toUInt32 >>> ((iI 2).toUInt32 &&& Int32.toUInt32 31)).toInt32 &&& iI 858993459)
def bc3 (i : Int32) : Int32 := (i + (i.toUInt32 >>> ((iI 4).toUInt32 &&& Int32.toUInt32 31)).toInt32) &&& iI 252645135
def bc4 (i : Int32) : Int32 := i + (i.toUInt32 >>> ((iI 8).toUInt32 &&& Int32.toUInt32 31)).toInt32
def bc5 (i : Int32) : Int32 := i + (i.toUInt32 >>> ((iI 16).toUInt32 &&& Int32.toUInt32 31)).toInt32
def pcn : Nat → Nat → Nat
  | 0, _ => 0
  | f + 1, x => x % 2 + pcn f (x / 2)
def pcZ (x : Int) : Int := (pcn 14 x.toNat : Int)
theorem bc_tab : ((List.range 8192).all fun x => decide ((bc5 (bc4 (bc3 (bc2 (bc1 (iI x))))) &&& iI 63).toBitVec.toNat = pcn 14 x)) = true := by decide +kernel
theorem bc_ok {x : Int} (h : 0 ≤ x ∧ x < 8192) : bc5 (bc4 (bc3 (bc2 (bc1 (iI x))))) &&& iI 63 = iI (pcZ x) := by
  have h1 := of_decide_eq_true (List.all_eq_true.mp bc_tab x.toNat (List.mem_range.mpr (by omega)))
  rw [show ((x.toNat : Nat) : Int) = x from by omega] at h1
  unfold pcZ
  rw [← iI_N, ← h1]
  apply Int32.toBitVec_inj.1
  show _ = BitVec.ofNat 32 _
  simp
theorem pcn_b : ∀ (f x : Nat), pcn f x ≤ f
  | 0, _ => Nat.le_refl 0
  | f + 1, x => by
    show x % 2 + pcn f (x / 2) ≤ f + 1
    have := pcn_b f (x / 2)
    omega
theorem pcZ_b (x : Int) : 0 ≤ pcZ x ∧ pcZ x ≤ 14 := by
  unfold pcZ
  have := pcn_b 14 x.toNat
  omega
/-- the places of a set, together -/
def plS (st : Int) : Nat → Int
  | 0 => 0
  | i + 1 => plS st i + (if bitZ st i = 1 then (i : Int) else 0)
theorem plS_b (st : Int) : ∀ n : Nat, 0 ≤ plS st n ∧ plS st n ≤ n * n
  | 0 => ⟨Int.le_refl 0, by show (0 : Int) ≤ ((0 : Nat) : Int) * ((0 : Nat) : Int); decide⟩
  | i + 1 => by
    have h := plS_b st i
    show 0 ≤ plS st i + _ ∧ plS st i + _ ≤ ((i + 1 : Nat) : Int) * ((i + 1 : Nat) : Int)
    have e : ((i + 1 : Nat) : Int) * ((i + 1 : Nat) : Int) = (i : Int) * i + 2 * i + 1 := by
      rw [Int.natCast_add, Int.mul_add, Int.add_mul]
      omega
    split <;> omega
/-- the number of a set: what is held, what lies below -/
def nuS (st : Int) : Nat → Int × Int
  | 0 => (0, 0)
  | i + 1 => if bitZ st i = 1 then ((nuS st i).1 + 1, (nuS st i).2 + wayF i ((nuS st i).1 + 1)) else nuS st i
theorem nuS_b (st : Int) : ∀ n : Nat, 0 ≤ (nuS st n).1 ∧ (nuS st n).1 ≤ n
  | 0 => ⟨Int.le_refl 0, Int.le_refl 0⟩
  | i + 1 => by
    have h := nuS_b st i
    unfold nuS
    split
    · show 0 ≤ (nuS st i).1 + 1 ∧ (nuS st i).1 + 1 ≤ ((i + 1 : Nat) : Int); omega
    · omega
/-- the set of a number: so many cups are left to look at, the set, what it lacks, what is left -/
def nbS : Nat → Int → Int → Int → Int
  | 0, st, _, _ => st
  | i + 1, st, lk, lf => if 0 < lk ∧ wayF i lk ≤ lf then nbS i (orZ st (p2 i)) (lk - 1) (lf - wayF i lk) else nbS i st lk lf
def lowZ (s : Int) : Int := (iI s &&& -(iI s)).toInt
theorem low_tab : ((List.range 4096).all fun x => decide (0 ≤ lowZ x ∧ lowZ x ≤ x)) = true := by decide +kernel
theorem low_b {s : Int} (h : 0 ≤ s ∧ s < 4096) : 0 ≤ lowZ s ∧ lowZ s ≤ s := by
  have h1 := of_decide_eq_true (List.all_eq_true.mp low_tab s.toNat (List.mem_range.mpr (by omega)))
  rwa [show ((s.toNat : Nat) : Int) = s from by omega] at h1
theorem low_e (s : Int) : iI s &&& iI (-s) = iI (lowZ s) := by
  unfold lowZ
  rw [iI_self, iI_neg]
def nxZ (s : Int) : Int := orZ (s + lowZ s) (p2 (max (pcZ (xoZ s (s + lowZ s)) - 2) 0) - 1)
def alZ2 (n s mk : Int) : Int := n - pcZ (anZ (xoZ s mk) (p2 n - 1))
theorem nu_s1 {st i sm hd : Int} (hi : 0 ≤ i) (hs : sm = (nuS st i.toNat).2) (hh : hd = (nuS st i.toNat).1) (hb : bitZ st i = 1) : sm + wayF i (hd + 1) = (nuS st (i + 1).toNat).2 := by
  rw [show (i + 1).toNat = i.toNat + 1 from by omega]
  show _ = (if bitZ st (i.toNat : Int) = 1 then _ else _ : Int × Int).2
  rw [show ((i.toNat : Nat) : Int) = i from by omega, if_pos hb, hs, hh]
theorem nu_h1 {st i hd : Int} (hi : 0 ≤ i) (hh : hd = (nuS st i.toNat).1) (hb : bitZ st i = 1) : hd + 1 = (nuS st (i + 1).toNat).1 := by
  rw [show (i + 1).toNat = i.toNat + 1 from by omega]
  show _ = (if bitZ st (i.toNat : Int) = 1 then _ else _ : Int × Int).1
  rw [show ((i.toNat : Nat) : Int) = i from by omega, if_pos hb, hh]
theorem nu_s0 {st i sm : Int} (hi : 0 ≤ i) (hs : sm = (nuS st i.toNat).2) (hb : bitZ st i ≠ 1) : sm = (nuS st (i + 1).toNat).2 := by
  rw [show (i + 1).toNat = i.toNat + 1 from by omega]
  show _ = (if bitZ st (i.toNat : Int) = 1 then _ else _ : Int × Int).2
  rw [show ((i.toNat : Nat) : Int) = i from by omega, if_neg hb, hs]
theorem nu_h0 {st i hd : Int} (hi : 0 ≤ i) (hh : hd = (nuS st i.toNat).1) (hb : bitZ st i ≠ 1) : hd = (nuS st (i + 1).toNat).1 := by
  rw [show (i + 1).toNat = i.toNat + 1 from by omega]
  show _ = (if bitZ st (i.toNat : Int) = 1 then _ else _ : Int × Int).1
  rw [show ((i.toNat : Nat) : Int) = i from by omega, if_neg hb, hh]
theorem nb_1 {r i sv lk lf : Int} (hi : 0 ≤ i) (hs : r = nbS (i + 1).toNat sv lk lf) (h : 0 < lk ∧ wayF i lk ≤ lf) : r = nbS (i + -1 + 1).toNat (orZ sv (p2 i)) (lk + -1) (lf - wayF i lk) := by
  rw [hs, show (i + 1).toNat = i.toNat + 1 from by omega, show (i + -1 + 1).toNat = i.toNat from by omega]
  show (if 0 < lk ∧ wayF (i.toNat : Int) lk ≤ lf then _ else _) = _
  rw [show ((i.toNat : Nat) : Int) = i from by omega, if_pos h]
  rfl
theorem nb_0 {r i sv lk lf : Int} (hi : 0 ≤ i) (hs : r = nbS (i + 1).toNat sv lk lf) (h : ¬ (0 < lk ∧ wayF i lk ≤ lf)) : r = nbS (i + -1 + 1).toNat sv lk lf := by
  rw [hs, show (i + 1).toNat = i.toNat + 1 from by omega, show (i + -1 + 1).toNat = i.toNat from by omega]
  show (if 0 < lk ∧ wayF (i.toNat : Int) lk ≤ lf then _ else _) = _
  rw [show ((i.toNat : Nat) : Int) = i from by omega, if_neg h]
