/-! ===== whole numbers: every int is iI z, every long lI z ===== -/
def iI (z : Int) : Int32 := Int32.ofInt z
def lI (z : Int) : Int64 := Int64.ofInt z
abbrev rI (z : Int) : Prop := -2147483648 ≤ z ∧ z < 2147483648
abbrev rL (z : Int) : Prop := -9223372036854775808 ≤ z ∧ z < 9223372036854775808
theorem iI_add (a b : Int) : iI a + iI b = iI (a + b) := (Int32.ofInt_add a b).symm
theorem iI_sub (a b : Int) : iI a - iI b = iI (a - b) := (Int32.ofInt_sub a b).symm
theorem iI_mul (a b : Int) : iI a * iI b = iI (a * b) := (Int32.ofInt_mul a b).symm
theorem iI_neg (a : Int) : -iI a = iI (-a) := (Int32.ofInt_neg a).symm
theorem lI_add (a b : Int) : lI a + lI b = lI (a + b) := (Int64.ofInt_add a b).symm
theorem lI_sub (a b : Int) : lI a - lI b = lI (a - b) := (Int64.ofInt_sub a b).symm
theorem lI_mul (a b : Int) : lI a * lI b = lI (a * b) := (Int64.ofInt_mul a b).symm
theorem lI_neg (a : Int) : -lI a = lI (-a) := (Int64.ofInt_neg a).symm
theorem iI_T {a : Int} (h : rI a) : (iI a).toInt = a := Int32.toInt_ofInt_of_le (by have := h.1; omega) (by have := h.2; omega)
theorem lI_T {a : Int} (h : rL a) : (lI a).toInt = a := Int64.toInt_ofInt_of_le (by have := h.1; omega) (by have := h.2; omega)
theorem iI_self (x : Int32) : iI x.toInt = x := Int32.ofInt_toInt x
theorem lI_self (x : Int64) : lI x.toInt = x := Int64.ofInt_toInt x
theorem rI_of (x : Int32) : rI x.toInt := ⟨by have := x.le_toInt; omega, by have := x.toInt_lt; omega⟩
theorem rL_of (x : Int64) : rL x.toInt := ⟨by have := x.le_toInt; omega, by have := x.toInt_lt; omega⟩
theorem iI_eq {a b : Int} (ha : rI a) (hb : rI b) : iI a = iI b ↔ a = b := by rw [← Int32.toInt_inj, iI_T ha, iI_T hb]
theorem iI_lt {a b : Int} (ha : rI a) (hb : rI b) : iI a < iI b ↔ a < b := by rw [Int32.lt_iff_toInt_lt, iI_T ha, iI_T hb]
theorem iI_le {a b : Int} (ha : rI a) (hb : rI b) : iI a ≤ iI b ↔ a ≤ b := by rw [Int32.le_iff_toInt_le, iI_T ha, iI_T hb]
theorem lI_eq {a b : Int} (ha : rL a) (hb : rL b) : lI a = lI b ↔ a = b := by rw [← Int64.toInt_inj, lI_T ha, lI_T hb]
theorem lI_lt {a b : Int} (ha : rL a) (hb : rL b) : lI a < lI b ↔ a < b := by rw [Int64.lt_iff_toInt_lt, lI_T ha, lI_T hb]
theorem lI_le {a b : Int} (ha : rL a) (hb : rL b) : lI a ≤ lI b ↔ a ≤ b := by rw [Int64.le_iff_toInt_le, lI_T ha, lI_T hb]
theorem iI_0 : iI 0 = 0 := by decide
theorem lI_0 : lI 0 = 0 := by decide
theorem iI_l {a : Int} (h : rI a) : (iI a).toInt64 = lI a := by
  apply Int64.toInt_inj.mp
  rw [Int32.toInt_toInt64, iI_T h, lI_T ⟨by omega, by omega⟩]
theorem lI_i (a : Int) : (lI a).toInt32 = iI a := Int64.toInt32_ofInt
theorem iI_cl {z : Int} {j : Nat} (h : z = (j : Int)) (hj : j < 2147483648) : (iI z).toNatClampNeg = j := by
  show (iI z).toInt.toNat = j
  rw [iI_T ⟨by omega, by omega⟩, h]
  rfl
theorem iI_in {z : Int} {j n : Nat} (h : z = (j : Int)) (hj : j < n) (hn : n ≤ 2147483648) : vp_in (iI z) n := by
  rw [vp_in_iff, iI_T ⟨by omega, by omega⟩]
  omega
theorem lgc3 {x y : Int} (hx : rL x) (hy : rL y) : (y < x ∧ lg_cmp (lI x) (lI y) = 1) ∨ (x = y ∧ lg_cmp (lI x) (lI y) = 0) ∨ (x < y ∧ lg_cmp (lI x) (lI y) = -1) := by
  unfold lg_cmp
  by_cases h1 : lI y < lI x
  · exact Or.inl ⟨(lI_lt hy hx).mp h1, if_pos h1⟩
  · by_cases h2 : lI x = lI y
    · exact Or.inr (Or.inl ⟨(lI_eq hx hy).mp h2, by rw [if_neg h1, if_pos h2]⟩)
    · refine Or.inr (Or.inr ⟨?_, by rw [if_neg h1, if_neg h2]⟩)
      have a1 : ¬ y < x := fun z => h1 ((lI_lt hy hx).mpr z)
      have a2 : ¬ x = y := fun z => h2 ((lI_eq hx hy).mpr z)
      omega
theorem lgc3r (x y : Int64) : (y < x ∧ lg_cmp x y = 1) ∨ (x = y ∧ lg_cmp x y = 0) ∨ (x < y ∧ lg_cmp x y = -1) := by
  have h := lgc3 (rL_of x) (rL_of y)
  rw [lI_self, lI_self] at h
  simp only [Int64.lt_iff_toInt_lt, ← Int64.toInt_inj (x := x) (y := y)]
  exact h
/-! truth as a number -/
def bz (P : Prop) [Decidable P] : Int := if P then 1 else 0
theorem bz_r (P : Prop) [Decidable P] : rI (bz P) := by unfold bz; split <;> decide
theorem bz_01 (P : Prop) [Decidable P] : bz P = 0 ∨ bz P = 1 := by unfold bz; split <;> simp
theorem bz_t {P : Prop} [Decidable P] (h : P) : bz P = 1 := if_pos h
theorem bz_f {P : Prop} [Decidable P] (h : ¬ P) : bz P = 0 := if_neg h
theorem bz_pos {P : Prop} [Decidable P] (h : P) : iI 1 = iI (bz P) := by rw [bz_t h]
theorem bz_neg {P : Prop} [Decidable P] (h : ¬ P) : iI 0 = iI (bz P) := by rw [bz_f h]
theorem bz_c {P P' : Prop} [Decidable P] [Decidable P'] (h : P ↔ P') : bz P = bz P' := by
  unfold bz
  by_cases q : P
  · rw [if_pos q, if_pos (h.mp q)]
  · rw [if_neg q, if_neg (fun z => q (h.mpr z))]
theorem bz_nar (P : Prop) [Decidable P] : narrow .boolean (.int (iI (bz P))) = .int (iI (bz P)) := by
  rcases bz_01 P with h | h <;> rw [h] <;> decide
theorem bz_fit (P : Prop) [Decidable P] : fits .boolean (.int (iI (bz P))) = true := by
  rcases bz_01 P with h | h <;> rw [h] <;> decide
/-! arrays of whole numbers -/
def aI (F : Nat → Int) : Nat → Int32 := fun j => iI (F j)
def aL (F : Nat → Int) : Nat → Int64 := fun j => lI (F j)
theorem aI_up (F : Nat → Int) (k : Nat) (v : Int) : upd (aI F) k (iI v) = aI (va_up F k v) := by
  funext j
  unfold upd aI va_up
  split <;> rfl
theorem aL_up (F : Nat → Int) (k : Nat) (v : Int) : vp_updL (aL F) k (lI v) = aL (va_up F k v) := by
  funext j
  unfold vp_updL aL va_up
  split <;> rfl
theorem tdiv_r {x y : Int} (hx : rI x) (hy : y ≠ -1 := by assumption) : rI (x.tdiv y) := by
  have h1 : (x.tdiv y).natAbs = x.natAbs / y.natAbs := Int.natAbs_tdiv x y
  by_cases h0 : x = -2147483648
  · by_cases h2 : y.natAbs = 1
    · have : y = 1 := by omega
      subst this
      rw [Int.tdiv_one]
      exact hx
    · rw [h0] at h1 ⊢
      have h3 : (-2147483648 : Int).natAbs / y.natAbs ≤ 1073741824 := by
        rcases Nat.eq_zero_or_pos y.natAbs with q | q
        · rw [q]; simp
        · exact Nat.le_trans (Nat.div_le_div_left (by omega : 2 ≤ y.natAbs) (by decide)) (by decide)
      exact ⟨by omega, by omega⟩
  · have h3 : x.natAbs / y.natAbs ≤ x.natAbs := Nat.div_le_self _ _
    exact ⟨by omega, by omega⟩
theorem tdiv_rL {x y : Int} (hx : rL x) (hy : y ≠ -1 := by assumption) : rL (x.tdiv y) := by
  have h1 : (x.tdiv y).natAbs = x.natAbs / y.natAbs := Int.natAbs_tdiv x y
  by_cases h0 : x = -9223372036854775808
  · by_cases h2 : y.natAbs = 1
    · have : y = 1 := by omega
      subst this
      rw [Int.tdiv_one]
      exact hx
    · rw [h0] at h1 ⊢
      have h3 : (-9223372036854775808 : Int).natAbs / y.natAbs ≤ 4611686018427387904 := by
        rcases Nat.eq_zero_or_pos y.natAbs with q | q
        · rw [q]; simp
        · exact Nat.le_trans (Nat.div_le_div_left (by omega : 2 ≤ y.natAbs) (by decide)) (by decide)
      exact ⟨by omega, by omega⟩
  · have h3 : x.natAbs / y.natAbs ≤ x.natAbs := Nat.div_le_self _ _
    exact ⟨by omega, by omega⟩
theorem bool_nar {v : Int} (h : v = 0 ∨ v = 1) : vp_nar .boolean (iI v) = iI v := by
  rcases h with rfl | rfl <;> decide
/-! ===== the rows, over whole numbers ===== -/
section MW
variable {p : Program} {l : Launch} {e : Env} {R : Room} {s : State} {m : MethodId} {args : Array Value} {below : List Frame} {meth : Method} {c : Code} {H : Heap} {locs : List Loc} {cells slots : Nat} {Q : State → Prop}
variable {cc : ByteArray} {pc : Nat} {ls : Array Slot} {rest : List Value}
theorem w_iadd (hexec : p.tables.exec = Jvm.exec) (hb : c.code = cc) {x y : Int} (hdg : decode cc pc = .ok (.iadd, 1)) (k : W p l e R s m args below meth c H locs cells slots Q (F0 m (pc + 1) ls (.int (iI (x + y)) :: rest))) : W p l e R s m args below meth c H locs cells slots Q (F0 m pc ls (.int (iI y) :: .int (iI x) :: rest)) := lv_iadd hexec hb hdg (by rw [iI_add]; exact k)
theorem w_ladd (hexec : p.tables.exec = Jvm.exec) (hb : c.code = cc) {x y : Int} (hdg : decode cc pc = .ok (.ladd, 1)) (k : W p l e R s m args below meth c H locs cells slots Q (F0 m (pc + 1) ls (.long (lI (x + y)) :: rest))) : W p l e R s m args below meth c H locs cells slots Q (F0 m pc ls (.long (lI y) :: .long (lI x) :: rest)) := lv_ladd hexec hb hdg (by rw [lI_add]; exact k)
theorem w_isub (hexec : p.tables.exec = Jvm.exec) (hb : c.code = cc) {x y : Int} (hdg : decode cc pc = .ok (.isub, 1)) (k : W p l e R s m args below meth c H locs cells slots Q (F0 m (pc + 1) ls (.int (iI (x - y)) :: rest))) : W p l e R s m args below meth c H locs cells slots Q (F0 m pc ls (.int (iI y) :: .int (iI x) :: rest)) := lv_isub hexec hb hdg (by rw [iI_sub]; exact k)
theorem w_lsub (hexec : p.tables.exec = Jvm.exec) (hb : c.code = cc) {x y : Int} (hdg : decode cc pc = .ok (.lsub, 1)) (k : W p l e R s m args below meth c H locs cells slots Q (F0 m (pc + 1) ls (.long (lI (x - y)) :: rest))) : W p l e R s m args below meth c H locs cells slots Q (F0 m pc ls (.long (lI y) :: .long (lI x) :: rest)) := lv_lsub hexec hb hdg (by rw [lI_sub]; exact k)
theorem w_imul (hexec : p.tables.exec = Jvm.exec) (hb : c.code = cc) {x y : Int} (hdg : decode cc pc = .ok (.imul, 1)) (k : W p l e R s m args below meth c H locs cells slots Q (F0 m (pc + 1) ls (.int (iI (x * y)) :: rest))) : W p l e R s m args below meth c H locs cells slots Q (F0 m pc ls (.int (iI y) :: .int (iI x) :: rest)) := lv_imul hexec hb hdg (by rw [iI_mul]; exact k)
theorem w_lmul (hexec : p.tables.exec = Jvm.exec) (hb : c.code = cc) {x y : Int} (hdg : decode cc pc = .ok (.lmul, 1)) (k : W p l e R s m args below meth c H locs cells slots Q (F0 m (pc + 1) ls (.long (lI (x * y)) :: rest))) : W p l e R s m args below meth c H locs cells slots Q (F0 m pc ls (.long (lI y) :: .long (lI x) :: rest)) := lv_lmul hexec hb hdg (by rw [lI_mul]; exact k)
theorem w_ineg (hexec : p.tables.exec = Jvm.exec) (hb : c.code = cc) {x : Int} (hdg : decode cc pc = .ok (.ineg, 1)) (k : W p l e R s m args below meth c H locs cells slots Q (F0 m (pc + 1) ls (.int (iI (-x)) :: rest))) : W p l e R s m args below meth c H locs cells slots Q (F0 m pc ls (.int (iI x) :: rest)) := lv_ineg hexec hb hdg (by rw [iI_neg]; exact k)
theorem w_lneg (hexec : p.tables.exec = Jvm.exec) (hb : c.code = cc) {x : Int} (hdg : decode cc pc = .ok (.lneg, 1)) (k : W p l e R s m args below meth c H locs cells slots Q (F0 m (pc + 1) ls (.long (lI (-x)) :: rest))) : W p l e R s m args below meth c H locs cells slots Q (F0 m pc ls (.long (lI x) :: rest)) := lv_lneg hexec hb hdg (by rw [lI_neg]; exact k)
theorem w_i2l (hexec : p.tables.exec = Jvm.exec) (hb : c.code = cc) {x : Int} (hdg : decode cc pc = .ok (.i2l, 1)) (hx : rI x) (k : W p l e R s m args below meth c H locs cells slots Q (F0 m (pc + 1) ls (.long (lI x) :: rest))) : W p l e R s m args below meth c H locs cells slots Q (F0 m pc ls (.int (iI x) :: rest)) := lv_i2l hexec hb hdg (iI_l hx) k
theorem w_l2i (hexec : p.tables.exec = Jvm.exec) (hb : c.code = cc) {x : Int} (hdg : decode cc pc = .ok (.l2i, 1)) (k : W p l e R s m args below meth c H locs cells slots Q (F0 m (pc + 1) ls (.int (iI x) :: rest))) : W p l e R s m args below meth c H locs cells slots Q (F0 m pc ls (.long (lI x) :: rest)) := lv_l2i hexec hb hdg (lI_i x) k
theorem w_icmp_eq (hexec : p.tables.exec = Jvm.exec) (hb : c.code = cc) {x y : Int} {off : Int} {tgt : Nat} (hdg : decode cc pc = .ok (.if_icmp .eq off, 3)) (ht : (pc : Int) + off = (tgt : Int)) (hx : rI x) (hy : rI y) (kt : x = y → W p l e R s m args below meth c H locs cells slots Q (F0 m tgt ls rest)) (kf : x ≠ y → W p l e R s m args below meth c H locs cells slots Q (F0 m (pc + 3) ls rest)) : W p l e R s m args below meth c H locs cells slots Q (F0 m pc ls (.int (iI y) :: .int (iI x) :: rest)) := lv_icmp_eq hexec hb hdg ht (fun q => kt ((iI_eq hx hy).mp q)) (fun q => kf (fun z => q ((iI_eq hx hy).mpr z)))
theorem w_if_eq (hexec : p.tables.exec = Jvm.exec) (hb : c.code = cc) {x : Int} {off : Int} {tgt : Nat} (hdg : decode cc pc = .ok (.ifCond .eq off, 3)) (ht : (pc : Int) + off = (tgt : Int)) (hx : rI x) (kt : x = 0 → W p l e R s m args below meth c H locs cells slots Q (F0 m tgt ls rest)) (kf : x ≠ 0 → W p l e R s m args below meth c H locs cells slots Q (F0 m (pc + 3) ls rest)) : W p l e R s m args below meth c H locs cells slots Q (F0 m pc ls (.int (iI x) :: rest)) := by
  have hy : rI 0 := by decide
  exact lv_if_eq hexec hb hdg ht (fun q => by rw [← iI_0] at q; exact kt ((iI_eq hx hy).mp q)) (fun q => by rw [← iI_0] at q; exact kf (fun z => q ((iI_eq hx hy).mpr z)))
theorem w_lc_eq (hexec : p.tables.exec = Jvm.exec) (hb : c.code = cc) {x y : Int} {off : Int} {tgt : Nat} (hd1 : decode cc pc = .ok (.lcmp, 1)) (hdg : decode cc (pc + 1) = .ok (.ifCond .eq off, 3)) (ht : ((pc + 1 : Nat) : Int) + off = (tgt : Int)) (hx : rL x) (hy : rL y) (kt : x = y → W p l e R s m args below meth c H locs cells slots Q (F0 m tgt ls rest)) (kf : x ≠ y → W p l e R s m args below meth c H locs cells slots Q (F0 m (pc + 1 + 3) ls rest)) : W p l e R s m args below meth c H locs cells slots Q (F0 m pc ls (.long (lI y) :: .long (lI x) :: rest)) := by
  refine W.lcmp hexec hb hd1 ?_
  rcases lgc3 hx hy with ⟨h, e⟩ | ⟨h, e⟩ | ⟨h, e⟩
  all_goals
    rw [e]
    refine lv_if_eq hexec hb hdg ht (fun q => ?_) (fun q => ?_)
    · first | exact kt (by omega) | exact absurd q (by decide)
    · first | exact kf (by omega) | exact absurd q (by decide) | exact absurd (by decide) q
theorem w_icmp_ne (hexec : p.tables.exec = Jvm.exec) (hb : c.code = cc) {x y : Int} {off : Int} {tgt : Nat} (hdg : decode cc pc = .ok (.if_icmp .ne off, 3)) (ht : (pc : Int) + off = (tgt : Int)) (hx : rI x) (hy : rI y) (kt : x ≠ y → W p l e R s m args below meth c H locs cells slots Q (F0 m tgt ls rest)) (kf : x = y → W p l e R s m args below meth c H locs cells slots Q (F0 m (pc + 3) ls rest)) : W p l e R s m args below meth c H locs cells slots Q (F0 m pc ls (.int (iI y) :: .int (iI x) :: rest)) := lv_icmp_ne hexec hb hdg ht (fun q => kt (fun z => q ((iI_eq hx hy).mpr z))) (fun q => kf ((iI_eq hx hy).mp q))
theorem w_if_ne (hexec : p.tables.exec = Jvm.exec) (hb : c.code = cc) {x : Int} {off : Int} {tgt : Nat} (hdg : decode cc pc = .ok (.ifCond .ne off, 3)) (ht : (pc : Int) + off = (tgt : Int)) (hx : rI x) (kt : x ≠ 0 → W p l e R s m args below meth c H locs cells slots Q (F0 m tgt ls rest)) (kf : x = 0 → W p l e R s m args below meth c H locs cells slots Q (F0 m (pc + 3) ls rest)) : W p l e R s m args below meth c H locs cells slots Q (F0 m pc ls (.int (iI x) :: rest)) := by
  have hy : rI 0 := by decide
  exact lv_if_ne hexec hb hdg ht (fun q => by rw [← iI_0] at q; exact kt (fun z => q ((iI_eq hx hy).mpr z))) (fun q => by rw [← iI_0] at q; exact kf ((iI_eq hx hy).mp q))
theorem w_lc_ne (hexec : p.tables.exec = Jvm.exec) (hb : c.code = cc) {x y : Int} {off : Int} {tgt : Nat} (hd1 : decode cc pc = .ok (.lcmp, 1)) (hdg : decode cc (pc + 1) = .ok (.ifCond .ne off, 3)) (ht : ((pc + 1 : Nat) : Int) + off = (tgt : Int)) (hx : rL x) (hy : rL y) (kt : x ≠ y → W p l e R s m args below meth c H locs cells slots Q (F0 m tgt ls rest)) (kf : x = y → W p l e R s m args below meth c H locs cells slots Q (F0 m (pc + 1 + 3) ls rest)) : W p l e R s m args below meth c H locs cells slots Q (F0 m pc ls (.long (lI y) :: .long (lI x) :: rest)) := by
  refine W.lcmp hexec hb hd1 ?_
  rcases lgc3 hx hy with ⟨h, e⟩ | ⟨h, e⟩ | ⟨h, e⟩
  all_goals
    rw [e]
    refine lv_if_ne hexec hb hdg ht (fun q => ?_) (fun q => ?_)
    · first | exact kt (by omega) | exact absurd q (by decide)
    · first | exact kf (by omega) | exact absurd q (by decide) | exact absurd (by decide) q
theorem w_icmp_lt (hexec : p.tables.exec = Jvm.exec) (hb : c.code = cc) {x y : Int} {off : Int} {tgt : Nat} (hdg : decode cc pc = .ok (.if_icmp .lt off, 3)) (ht : (pc : Int) + off = (tgt : Int)) (hx : rI x) (hy : rI y) (kt : x < y → W p l e R s m args below meth c H locs cells slots Q (F0 m tgt ls rest)) (kf : y ≤ x → W p l e R s m args below meth c H locs cells slots Q (F0 m (pc + 3) ls rest)) : W p l e R s m args below meth c H locs cells slots Q (F0 m pc ls (.int (iI y) :: .int (iI x) :: rest)) := lv_icmp_lt hexec hb hdg ht (fun q => kt ((iI_lt hx hy).mp q)) (fun q => kf (Int.not_lt.mp (fun z => q ((iI_lt hx hy).mpr z))))
theorem w_if_lt (hexec : p.tables.exec = Jvm.exec) (hb : c.code = cc) {x : Int} {off : Int} {tgt : Nat} (hdg : decode cc pc = .ok (.ifCond .lt off, 3)) (ht : (pc : Int) + off = (tgt : Int)) (hx : rI x) (kt : x < 0 → W p l e R s m args below meth c H locs cells slots Q (F0 m tgt ls rest)) (kf : 0 ≤ x → W p l e R s m args below meth c H locs cells slots Q (F0 m (pc + 3) ls rest)) : W p l e R s m args below meth c H locs cells slots Q (F0 m pc ls (.int (iI x) :: rest)) := by
  have hy : rI 0 := by decide
  exact lv_if_lt hexec hb hdg ht (fun q => by rw [← iI_0] at q; exact kt ((iI_lt hx hy).mp q)) (fun q => by rw [← iI_0] at q; exact kf (Int.not_lt.mp (fun z => q ((iI_lt hx hy).mpr z))))
theorem w_lc_lt (hexec : p.tables.exec = Jvm.exec) (hb : c.code = cc) {x y : Int} {off : Int} {tgt : Nat} (hd1 : decode cc pc = .ok (.lcmp, 1)) (hdg : decode cc (pc + 1) = .ok (.ifCond .lt off, 3)) (ht : ((pc + 1 : Nat) : Int) + off = (tgt : Int)) (hx : rL x) (hy : rL y) (kt : x < y → W p l e R s m args below meth c H locs cells slots Q (F0 m tgt ls rest)) (kf : y ≤ x → W p l e R s m args below meth c H locs cells slots Q (F0 m (pc + 1 + 3) ls rest)) : W p l e R s m args below meth c H locs cells slots Q (F0 m pc ls (.long (lI y) :: .long (lI x) :: rest)) := by
  refine W.lcmp hexec hb hd1 ?_
  rcases lgc3 hx hy with ⟨h, e⟩ | ⟨h, e⟩ | ⟨h, e⟩
  all_goals
    rw [e]
    refine lv_if_lt hexec hb hdg ht (fun q => ?_) (fun q => ?_)
    · first | exact kt (by omega) | exact absurd q (by decide)
    · first | exact kf (by omega) | exact absurd q (by decide) | exact absurd (by decide) q
theorem w_icmp_ge (hexec : p.tables.exec = Jvm.exec) (hb : c.code = cc) {x y : Int} {off : Int} {tgt : Nat} (hdg : decode cc pc = .ok (.if_icmp .ge off, 3)) (ht : (pc : Int) + off = (tgt : Int)) (hx : rI x) (hy : rI y) (kt : y ≤ x → W p l e R s m args below meth c H locs cells slots Q (F0 m tgt ls rest)) (kf : x < y → W p l e R s m args below meth c H locs cells slots Q (F0 m (pc + 3) ls rest)) : W p l e R s m args below meth c H locs cells slots Q (F0 m pc ls (.int (iI y) :: .int (iI x) :: rest)) := lv_icmp_ge hexec hb hdg ht (fun q => kt ((iI_le hy hx).mp q)) (fun q => kf (Int.not_le.mp (fun z => q ((iI_le hy hx).mpr z))))
theorem w_if_ge (hexec : p.tables.exec = Jvm.exec) (hb : c.code = cc) {x : Int} {off : Int} {tgt : Nat} (hdg : decode cc pc = .ok (.ifCond .ge off, 3)) (ht : (pc : Int) + off = (tgt : Int)) (hx : rI x) (kt : 0 ≤ x → W p l e R s m args below meth c H locs cells slots Q (F0 m tgt ls rest)) (kf : x < 0 → W p l e R s m args below meth c H locs cells slots Q (F0 m (pc + 3) ls rest)) : W p l e R s m args below meth c H locs cells slots Q (F0 m pc ls (.int (iI x) :: rest)) := by
  have hy : rI 0 := by decide
  exact lv_if_ge hexec hb hdg ht (fun q => by rw [← iI_0] at q; exact kt ((iI_le hy hx).mp q)) (fun q => by rw [← iI_0] at q; exact kf (Int.not_le.mp (fun z => q ((iI_le hy hx).mpr z))))
theorem w_lc_ge (hexec : p.tables.exec = Jvm.exec) (hb : c.code = cc) {x y : Int} {off : Int} {tgt : Nat} (hd1 : decode cc pc = .ok (.lcmp, 1)) (hdg : decode cc (pc + 1) = .ok (.ifCond .ge off, 3)) (ht : ((pc + 1 : Nat) : Int) + off = (tgt : Int)) (hx : rL x) (hy : rL y) (kt : y ≤ x → W p l e R s m args below meth c H locs cells slots Q (F0 m tgt ls rest)) (kf : x < y → W p l e R s m args below meth c H locs cells slots Q (F0 m (pc + 1 + 3) ls rest)) : W p l e R s m args below meth c H locs cells slots Q (F0 m pc ls (.long (lI y) :: .long (lI x) :: rest)) := by
  refine W.lcmp hexec hb hd1 ?_
  rcases lgc3 hx hy with ⟨h, e⟩ | ⟨h, e⟩ | ⟨h, e⟩
  all_goals
    rw [e]
    refine lv_if_ge hexec hb hdg ht (fun q => ?_) (fun q => ?_)
    · first | exact kt (by omega) | exact absurd q (by decide)
    · first | exact kf (by omega) | exact absurd q (by decide) | exact absurd (by decide) q
theorem w_icmp_gt (hexec : p.tables.exec = Jvm.exec) (hb : c.code = cc) {x y : Int} {off : Int} {tgt : Nat} (hdg : decode cc pc = .ok (.if_icmp .gt off, 3)) (ht : (pc : Int) + off = (tgt : Int)) (hx : rI x) (hy : rI y) (kt : y < x → W p l e R s m args below meth c H locs cells slots Q (F0 m tgt ls rest)) (kf : x ≤ y → W p l e R s m args below meth c H locs cells slots Q (F0 m (pc + 3) ls rest)) : W p l e R s m args below meth c H locs cells slots Q (F0 m pc ls (.int (iI y) :: .int (iI x) :: rest)) := lv_icmp_gt hexec hb hdg ht (fun q => kt ((iI_lt hy hx).mp q)) (fun q => kf (Int.not_lt.mp (fun z => q ((iI_lt hy hx).mpr z))))
theorem w_if_gt (hexec : p.tables.exec = Jvm.exec) (hb : c.code = cc) {x : Int} {off : Int} {tgt : Nat} (hdg : decode cc pc = .ok (.ifCond .gt off, 3)) (ht : (pc : Int) + off = (tgt : Int)) (hx : rI x) (kt : 0 < x → W p l e R s m args below meth c H locs cells slots Q (F0 m tgt ls rest)) (kf : x ≤ 0 → W p l e R s m args below meth c H locs cells slots Q (F0 m (pc + 3) ls rest)) : W p l e R s m args below meth c H locs cells slots Q (F0 m pc ls (.int (iI x) :: rest)) := by
  have hy : rI 0 := by decide
  exact lv_if_gt hexec hb hdg ht (fun q => by rw [← iI_0] at q; exact kt ((iI_lt hy hx).mp q)) (fun q => by rw [← iI_0] at q; exact kf (Int.not_lt.mp (fun z => q ((iI_lt hy hx).mpr z))))
theorem w_lc_gt (hexec : p.tables.exec = Jvm.exec) (hb : c.code = cc) {x y : Int} {off : Int} {tgt : Nat} (hd1 : decode cc pc = .ok (.lcmp, 1)) (hdg : decode cc (pc + 1) = .ok (.ifCond .gt off, 3)) (ht : ((pc + 1 : Nat) : Int) + off = (tgt : Int)) (hx : rL x) (hy : rL y) (kt : y < x → W p l e R s m args below meth c H locs cells slots Q (F0 m tgt ls rest)) (kf : x ≤ y → W p l e R s m args below meth c H locs cells slots Q (F0 m (pc + 1 + 3) ls rest)) : W p l e R s m args below meth c H locs cells slots Q (F0 m pc ls (.long (lI y) :: .long (lI x) :: rest)) := by
  refine W.lcmp hexec hb hd1 ?_
  rcases lgc3 hx hy with ⟨h, e⟩ | ⟨h, e⟩ | ⟨h, e⟩
  all_goals
    rw [e]
    refine lv_if_gt hexec hb hdg ht (fun q => ?_) (fun q => ?_)
    · first | exact kt (by omega) | exact absurd q (by decide)
    · first | exact kf (by omega) | exact absurd q (by decide) | exact absurd (by decide) q
theorem w_icmp_le (hexec : p.tables.exec = Jvm.exec) (hb : c.code = cc) {x y : Int} {off : Int} {tgt : Nat} (hdg : decode cc pc = .ok (.if_icmp .le off, 3)) (ht : (pc : Int) + off = (tgt : Int)) (hx : rI x) (hy : rI y) (kt : x ≤ y → W p l e R s m args below meth c H locs cells slots Q (F0 m tgt ls rest)) (kf : y < x → W p l e R s m args below meth c H locs cells slots Q (F0 m (pc + 3) ls rest)) : W p l e R s m args below meth c H locs cells slots Q (F0 m pc ls (.int (iI y) :: .int (iI x) :: rest)) := lv_icmp_le hexec hb hdg ht (fun q => kt ((iI_le hx hy).mp q)) (fun q => kf (Int.not_le.mp (fun z => q ((iI_le hx hy).mpr z))))
theorem w_if_le (hexec : p.tables.exec = Jvm.exec) (hb : c.code = cc) {x : Int} {off : Int} {tgt : Nat} (hdg : decode cc pc = .ok (.ifCond .le off, 3)) (ht : (pc : Int) + off = (tgt : Int)) (hx : rI x) (kt : x ≤ 0 → W p l e R s m args below meth c H locs cells slots Q (F0 m tgt ls rest)) (kf : 0 < x → W p l e R s m args below meth c H locs cells slots Q (F0 m (pc + 3) ls rest)) : W p l e R s m args below meth c H locs cells slots Q (F0 m pc ls (.int (iI x) :: rest)) := by
  have hy : rI 0 := by decide
  exact lv_if_le hexec hb hdg ht (fun q => by rw [← iI_0] at q; exact kt ((iI_le hx hy).mp q)) (fun q => by rw [← iI_0] at q; exact kf (Int.not_le.mp (fun z => q ((iI_le hx hy).mpr z))))
theorem w_lc_le (hexec : p.tables.exec = Jvm.exec) (hb : c.code = cc) {x y : Int} {off : Int} {tgt : Nat} (hd1 : decode cc pc = .ok (.lcmp, 1)) (hdg : decode cc (pc + 1) = .ok (.ifCond .le off, 3)) (ht : ((pc + 1 : Nat) : Int) + off = (tgt : Int)) (hx : rL x) (hy : rL y) (kt : x ≤ y → W p l e R s m args below meth c H locs cells slots Q (F0 m tgt ls rest)) (kf : y < x → W p l e R s m args below meth c H locs cells slots Q (F0 m (pc + 1 + 3) ls rest)) : W p l e R s m args below meth c H locs cells slots Q (F0 m pc ls (.long (lI y) :: .long (lI x) :: rest)) := by
  refine W.lcmp hexec hb hd1 ?_
  rcases lgc3 hx hy with ⟨h, e⟩ | ⟨h, e⟩ | ⟨h, e⟩
  all_goals
    rw [e]
    refine lv_if_le hexec hb hdg ht (fun q => ?_) (fun q => ?_)
    · first | exact kt (by omega) | exact absurd q (by decide)
    · first | exact kf (by omega) | exact absurd q (by decide) | exact absurd (by decide) q
theorem w_iinc (hexec : p.tables.exec = Jvm.exec) (hb : c.code = cc) {i nL k : Nat} {n x : Int} {lv lv' : List (Nat × Value)} (hdg : decode cc pc = .ok (.iinc i n, 3)) (h : lv_has ls nL lv) (hk : lv[k]? = some (i, .int (iI x))) (hn : i < nL) (hl : (i, Value.int (iI (x + n))) :: lv.filter (fun q => !(q.1 == i) && !(q.1 + 1 == i && q.2.category == 2)) = lv') (kk : ∀ ls' : Array Slot, lv_has ls' nL lv' → W p l e R s m args below meth c H locs cells slots Q (F0 m (pc + 3) ls' rest)) : W p l e R s m args below meth c H locs cells slots Q (F0 m pc ls rest) := lv_iinc hexec hb hdg h hk (iI_add x n) hn hl kk
theorem w_idiv (hexec : p.tables.exec = Jvm.exec) (hb : c.code = cc) {x y : Int} (hdg : decode cc pc = .ok (.idiv, 1)) (hx : rI x) (hy : rI y) (h0 : y ≠ 0) (h1 : y ≠ -1) (k : W p l e R s m args below meth c H locs cells slots Q (F0 m (pc + 1) ls (.int (iI (x.tdiv y)) :: rest))) : W p l e R s m args below meth c H locs cells slots Q (F0 m pc ls (.int (iI y) :: .int (iI x) :: rest)) := by
  refine lv_idiv hexec hb hdg (fun q => h0 ((iI_eq hy (by decide)).mp (q.trans iI_0.symm))) ?_
  have e : iI x / iI y = iI (x.tdiv y) := by
    rw [← Int32.toInt_inj, Int32.toInt_div_of_ne_right _ _ (fun q => h1 ((iI_eq hy (by decide)).mp (q.trans (by decide : (-1 : Int32) = iI (-1))))), iI_T hx, iI_T hy, iI_T (tdiv_r hx)]
  rw [e]
  exact k
theorem w_irem (hexec : p.tables.exec = Jvm.exec) (hb : c.code = cc) {x y : Int} (hdg : decode cc pc = .ok (.irem, 1)) (hx : rI x) (hy : rI y) (h0 : y ≠ 0) (h1 : y ≠ -1) (k : W p l e R s m args below meth c H locs cells slots Q (F0 m (pc + 1) ls (.int (iI (x.tmod y)) :: rest))) : W p l e R s m args below meth c H locs cells slots Q (F0 m pc ls (.int (iI y) :: .int (iI x) :: rest)) := by
  refine lv_irem hexec hb hdg (fun q => h0 ((iI_eq hy (by decide)).mp (q.trans iI_0.symm))) ?_
  have e : iI x / iI y = iI (x.tdiv y) := by
    rw [← Int32.toInt_inj, Int32.toInt_div_of_ne_right _ _ (fun q => h1 ((iI_eq hy (by decide)).mp (q.trans (by decide : (-1 : Int32) = iI (-1))))), iI_T hx, iI_T hy, iI_T (tdiv_r hx)]
  rw [e, iI_mul, iI_sub, show x - x.tdiv y * y = x.tmod y from by rw [Int.mul_comm, ← Int.tmod_def]]
  exact k
theorem w_ldiv (hexec : p.tables.exec = Jvm.exec) (hb : c.code = cc) {x y : Int} (hdg : decode cc pc = .ok (.ldiv, 1)) (hx : rL x) (hy : rL y) (h0 : y ≠ 0) (h1 : y ≠ -1) (k : W p l e R s m args below meth c H locs cells slots Q (F0 m (pc + 1) ls (.long (lI (x.tdiv y)) :: rest))) : W p l e R s m args below meth c H locs cells slots Q (F0 m pc ls (.long (lI y) :: .long (lI x) :: rest)) := by
  refine lv_ldiv hexec hb hdg (fun q => h0 ((lI_eq hy (by decide)).mp (q.trans lI_0.symm))) ?_
  have e : lI x / lI y = lI (x.tdiv y) := by
    rw [← Int64.toInt_inj, Int64.toInt_div_of_ne_right _ _ (fun q => h1 ((lI_eq hy (by decide)).mp (q.trans (by decide : (-1 : Int64) = lI (-1))))), lI_T hx, lI_T hy, lI_T (tdiv_rL hx)]
  rw [e]
  exact k
theorem w_lrem (hexec : p.tables.exec = Jvm.exec) (hb : c.code = cc) {x y : Int} (hdg : decode cc pc = .ok (.lrem, 1)) (hx : rL x) (hy : rL y) (h0 : y ≠ 0) (h1 : y ≠ -1) (k : W p l e R s m args below meth c H locs cells slots Q (F0 m (pc + 1) ls (.long (lI (x.tmod y)) :: rest))) : W p l e R s m args below meth c H locs cells slots Q (F0 m pc ls (.long (lI y) :: .long (lI x) :: rest)) := by
  refine lv_lrem hexec hb hdg (fun q => h0 ((lI_eq hy (by decide)).mp (q.trans lI_0.symm))) ?_
  have e : lI x / lI y = lI (x.tdiv y) := by
    rw [← Int64.toInt_inj, Int64.toInt_div_of_ne_right _ _ (fun q => h1 ((lI_eq hy (by decide)).mp (q.trans (by decide : (-1 : Int64) = lI (-1))))), lI_T hx, lI_T hy, lI_T (tdiv_rL hx)]
  rw [e, lI_mul, lI_sub, show x - x.tdiv y * y = x.tmod y from by rw [Int.mul_comm, ← Int.tmod_def]]
  exact k
theorem w_bz_eq (hexec : p.tables.exec = Jvm.exec) (hb : c.code = cc) {P : Prop} [Decidable P] {off : Int} {tgt : Nat} (hdg : decode cc pc = .ok (.ifCond .eq off, 3)) (ht : (pc : Int) + off = (tgt : Int)) (kt : ¬ P → W p l e R s m args below meth c H locs cells slots Q (F0 m tgt ls rest)) (kf : P → W p l e R s m args below meth c H locs cells slots Q (F0 m (pc + 3) ls rest)) : W p l e R s m args below meth c H locs cells slots Q (F0 m pc ls (.int (iI (bz P)) :: rest)) := by
  refine w_if_eq hexec hb hdg ht (bz_r P) (fun q => kt (fun h => ?_)) (fun q => kf (Classical.byContradiction fun h => q (bz_f h)))
  rw [bz_t h] at q
  exact absurd q (by decide)
theorem w_bz_ne (hexec : p.tables.exec = Jvm.exec) (hb : c.code = cc) {P : Prop} [Decidable P] {off : Int} {tgt : Nat} (hdg : decode cc pc = .ok (.ifCond .ne off, 3)) (ht : (pc : Int) + off = (tgt : Int)) (kt : P → W p l e R s m args below meth c H locs cells slots Q (F0 m tgt ls rest)) (kf : ¬ P → W p l e R s m args below meth c H locs cells slots Q (F0 m (pc + 3) ls rest)) : W p l e R s m args below meth c H locs cells slots Q (F0 m pc ls (.int (iI (bz P)) :: rest)) := by
  refine w_if_ne hexec hb hdg ht (bz_r P) (fun q => kt (Classical.byContradiction fun h => q (bz_f h))) (fun q => kf (fun h => ?_))
  rw [bz_t h] at q
  exact absurd q (by decide)
theorem w_tdef (hexec : p.tables.exec = Jvm.exec) (hb : c.code = cc) {dflt lo hi : Int} {offs : Array Int} {len : Nat} {x : Int} {tgt : Nat} (hdg : decode cc pc = .ok (.tableswitch dflt lo hi offs, len)) (ht : (pc : Int) + dflt = (tgt : Int)) (hx : rI x) (h : lo ≤ x → x ≤ hi → offs[(x - lo).toNat]? = some dflt)
    (k : W p l e R s m args below meth c H locs cells slots Q (F0 m tgt ls rest)) : W p l e R s m args below meth c H locs cells slots Q (F0 m pc ls (.int (iI x) :: rest)) := by
  have e : (iI x).toInt = x := iI_T hx
  by_cases h1 : x < lo
  · exact lv_tableOut hexec hb hdg (Or.inl (by rw [e]; exact h1)) ht k
  · by_cases h2 : hi < x
    · exact lv_tableOut hexec hb hdg (Or.inr (by rw [e]; exact h2)) ht k
    · exact lv_tableIn hexec hb hdg (by rw [e]; exact h1) (by rw [e]; exact h2) (by rw [e]; exact h (by omega) (by omega)) ht k
theorem w_lcr_eq (hexec : p.tables.exec = Jvm.exec) (hb : c.code = cc) {x y : Int64} {off : Int} {tgt : Nat} (hd1 : decode cc pc = .ok (.lcmp, 1)) (hdg : decode cc (pc + 1) = .ok (.ifCond .eq off, 3)) (ht : ((pc + 1 : Nat) : Int) + off = (tgt : Int)) (kt : x = y → W p l e R s m args below meth c H locs cells slots Q (F0 m tgt ls rest)) (kf : ¬ x = y → W p l e R s m args below meth c H locs cells slots Q (F0 m (pc + 1 + 3) ls rest)) : W p l e R s m args below meth c H locs cells slots Q (F0 m pc ls (.long y :: .long x :: rest)) := by
  refine W.lcmp hexec hb hd1 ?_
  rcases lgc3r x y with ⟨h, e⟩ | ⟨h, e⟩ | ⟨h, e⟩
  all_goals
    rw [e]
    have h2 := h
    simp only [Int64.lt_iff_toInt_lt, ← Int64.toInt_inj] at h2
    refine lv_if_eq hexec hb hdg ht (fun q => ?_) (fun q => ?_)
    · first | exact kt (by simp only [Int64.lt_iff_toInt_lt, ← Int64.toInt_inj]; omega) | exact absurd q (by decide)
    · first | exact kf (by simp only [Int64.lt_iff_toInt_lt, ← Int64.toInt_inj]; omega) | exact absurd q (by decide) | exact absurd (by decide) q
theorem w_lcr_ne (hexec : p.tables.exec = Jvm.exec) (hb : c.code = cc) {x y : Int64} {off : Int} {tgt : Nat} (hd1 : decode cc pc = .ok (.lcmp, 1)) (hdg : decode cc (pc + 1) = .ok (.ifCond .ne off, 3)) (ht : ((pc + 1 : Nat) : Int) + off = (tgt : Int)) (kt : ¬ x = y → W p l e R s m args below meth c H locs cells slots Q (F0 m tgt ls rest)) (kf : x = y → W p l e R s m args below meth c H locs cells slots Q (F0 m (pc + 1 + 3) ls rest)) : W p l e R s m args below meth c H locs cells slots Q (F0 m pc ls (.long y :: .long x :: rest)) := by
  refine W.lcmp hexec hb hd1 ?_
  rcases lgc3r x y with ⟨h, e⟩ | ⟨h, e⟩ | ⟨h, e⟩
  all_goals
    rw [e]
    have h2 := h
    simp only [Int64.lt_iff_toInt_lt, ← Int64.toInt_inj] at h2
    refine lv_if_ne hexec hb hdg ht (fun q => ?_) (fun q => ?_)
    · first | exact kt (by simp only [Int64.lt_iff_toInt_lt, ← Int64.toInt_inj]; omega) | exact absurd q (by decide)
    · first | exact kf (by simp only [Int64.lt_iff_toInt_lt, ← Int64.toInt_inj]; omega) | exact absurd q (by decide) | exact absurd (by decide) q
theorem w_lcr_lt (hexec : p.tables.exec = Jvm.exec) (hb : c.code = cc) {x y : Int64} {off : Int} {tgt : Nat} (hd1 : decode cc pc = .ok (.lcmp, 1)) (hdg : decode cc (pc + 1) = .ok (.ifCond .lt off, 3)) (ht : ((pc + 1 : Nat) : Int) + off = (tgt : Int)) (kt : x < y → W p l e R s m args below meth c H locs cells slots Q (F0 m tgt ls rest)) (kf : ¬ x < y → W p l e R s m args below meth c H locs cells slots Q (F0 m (pc + 1 + 3) ls rest)) : W p l e R s m args below meth c H locs cells slots Q (F0 m pc ls (.long y :: .long x :: rest)) := by
  refine W.lcmp hexec hb hd1 ?_
  rcases lgc3r x y with ⟨h, e⟩ | ⟨h, e⟩ | ⟨h, e⟩
  all_goals
    rw [e]
    have h2 := h
    simp only [Int64.lt_iff_toInt_lt, ← Int64.toInt_inj] at h2
    refine lv_if_lt hexec hb hdg ht (fun q => ?_) (fun q => ?_)
    · first | exact kt (by simp only [Int64.lt_iff_toInt_lt, ← Int64.toInt_inj]; omega) | exact absurd q (by decide)
    · first | exact kf (by simp only [Int64.lt_iff_toInt_lt, ← Int64.toInt_inj]; omega) | exact absurd q (by decide) | exact absurd (by decide) q
theorem w_lcr_ge (hexec : p.tables.exec = Jvm.exec) (hb : c.code = cc) {x y : Int64} {off : Int} {tgt : Nat} (hd1 : decode cc pc = .ok (.lcmp, 1)) (hdg : decode cc (pc + 1) = .ok (.ifCond .ge off, 3)) (ht : ((pc + 1 : Nat) : Int) + off = (tgt : Int)) (kt : ¬ x < y → W p l e R s m args below meth c H locs cells slots Q (F0 m tgt ls rest)) (kf : x < y → W p l e R s m args below meth c H locs cells slots Q (F0 m (pc + 1 + 3) ls rest)) : W p l e R s m args below meth c H locs cells slots Q (F0 m pc ls (.long y :: .long x :: rest)) := by
  refine W.lcmp hexec hb hd1 ?_
  rcases lgc3r x y with ⟨h, e⟩ | ⟨h, e⟩ | ⟨h, e⟩
  all_goals
    rw [e]
    have h2 := h
    simp only [Int64.lt_iff_toInt_lt, ← Int64.toInt_inj] at h2
    refine lv_if_ge hexec hb hdg ht (fun q => ?_) (fun q => ?_)
    · first | exact kt (by simp only [Int64.lt_iff_toInt_lt, ← Int64.toInt_inj]; omega) | exact absurd q (by decide)
    · first | exact kf (by simp only [Int64.lt_iff_toInt_lt, ← Int64.toInt_inj]; omega) | exact absurd q (by decide) | exact absurd (by decide) q
theorem w_lcr_gt (hexec : p.tables.exec = Jvm.exec) (hb : c.code = cc) {x y : Int64} {off : Int} {tgt : Nat} (hd1 : decode cc pc = .ok (.lcmp, 1)) (hdg : decode cc (pc + 1) = .ok (.ifCond .gt off, 3)) (ht : ((pc + 1 : Nat) : Int) + off = (tgt : Int)) (kt : y < x → W p l e R s m args below meth c H locs cells slots Q (F0 m tgt ls rest)) (kf : ¬ y < x → W p l e R s m args below meth c H locs cells slots Q (F0 m (pc + 1 + 3) ls rest)) : W p l e R s m args below meth c H locs cells slots Q (F0 m pc ls (.long y :: .long x :: rest)) := by
  refine W.lcmp hexec hb hd1 ?_
  rcases lgc3r x y with ⟨h, e⟩ | ⟨h, e⟩ | ⟨h, e⟩
  all_goals
    rw [e]
    have h2 := h
    simp only [Int64.lt_iff_toInt_lt, ← Int64.toInt_inj] at h2
    refine lv_if_gt hexec hb hdg ht (fun q => ?_) (fun q => ?_)
    · first | exact kt (by simp only [Int64.lt_iff_toInt_lt, ← Int64.toInt_inj]; omega) | exact absurd q (by decide)
    · first | exact kf (by simp only [Int64.lt_iff_toInt_lt, ← Int64.toInt_inj]; omega) | exact absurd q (by decide) | exact absurd (by decide) q
theorem w_lcr_le (hexec : p.tables.exec = Jvm.exec) (hb : c.code = cc) {x y : Int64} {off : Int} {tgt : Nat} (hd1 : decode cc pc = .ok (.lcmp, 1)) (hdg : decode cc (pc + 1) = .ok (.ifCond .le off, 3)) (ht : ((pc + 1 : Nat) : Int) + off = (tgt : Int)) (kt : ¬ y < x → W p l e R s m args below meth c H locs cells slots Q (F0 m tgt ls rest)) (kf : y < x → W p l e R s m args below meth c H locs cells slots Q (F0 m (pc + 1 + 3) ls rest)) : W p l e R s m args below meth c H locs cells slots Q (F0 m pc ls (.long y :: .long x :: rest)) := by
  refine W.lcmp hexec hb hd1 ?_
  rcases lgc3r x y with ⟨h, e⟩ | ⟨h, e⟩ | ⟨h, e⟩
  all_goals
    rw [e]
    have h2 := h
    simp only [Int64.lt_iff_toInt_lt, ← Int64.toInt_inj] at h2
    refine lv_if_le hexec hb hdg ht (fun q => ?_) (fun q => ?_)
    · first | exact kt (by simp only [Int64.lt_iff_toInt_lt, ← Int64.toInt_inj]; omega) | exact absurd q (by decide)
    · first | exact kf (by simp only [Int64.lt_iff_toInt_lt, ← Int64.toInt_inj]; omega) | exact absurd q (by decide) | exact absurd (by decide) q
theorem w_mmax (hexec : p.tables.exec = Jvm.exec) (hb : c.code = cc) (hml : c.maxLocals = ls.size) {own : String} {index : Nat} (hown : s.vm.findClass own = some m.cls) (hlink : (Cond.methodLink own index Lib.Math.max.name).before args s = true) (hstat : (Cond.static Lib.Math.max.name).before args s = true) (hini : (Cond.initialized "java/lang/Math").before args s = true) (hcode : (Cond.code Lib.Math.max.name Lib.Math.max.code 2 (some .int)).before args s = true)
    (hframes : 1 ≤ R.frames) (hlocals : (rest.map fun v => v.category).sum + 13 ≤ R.locals) (hc : cells ≤ R.cells) (hs : slots ≤ R.slots) {x y : Int} (hx : rI x) (hy : rI y) (hdg : decode cc pc = .ok (.invokestatic index, 3)) (kk : W p l e R s m args below meth c H locs cells slots Q (F0 m (pc + 3) ls (.int (iI (max x y)) :: rest))) : W p l e R s m args below meth c H locs cells slots Q (F0 m pc ls (.int (iI y) :: .int (iI x) :: rest)) := by
  refine va_mmax hexec hb hml hown hlink hstat hini hcode hframes hlocals hc hs hdg ?_
  have e : ∀ r : Int32, r.toInt = max x y → W p l e R s m args below meth c H locs cells slots Q (F0 m (pc + 3) ls (.int r :: rest)) := fun r h => by rw [show r = iI (max x y) from by rw [← h, iI_self]]; exact kk
  apply e
  split
  · next h => rw [iI_lt (by assumption) (by assumption)] at h; rw [iI_T (by assumption)]; omega
  · next h => rw [iI_lt (by assumption) (by assumption)] at h; rw [iI_T (by assumption)]; omega
theorem w_mmin (hexec : p.tables.exec = Jvm.exec) (hb : c.code = cc) (hml : c.maxLocals = ls.size) {own : String} {index : Nat} (hown : s.vm.findClass own = some m.cls) (hlink : (Cond.methodLink own index Lib.Math.min.name).before args s = true) (hstat : (Cond.static Lib.Math.min.name).before args s = true) (hini : (Cond.initialized "java/lang/Math").before args s = true) (hcode : (Cond.code Lib.Math.min.name Lib.Math.min.code 2 (some .int)).before args s = true)
    (hframes : 1 ≤ R.frames) (hlocals : (rest.map fun v => v.category).sum + 13 ≤ R.locals) (hc : cells ≤ R.cells) (hs : slots ≤ R.slots) {x y : Int} (hx : rI x) (hy : rI y) (hdg : decode cc pc = .ok (.invokestatic index, 3)) (kk : W p l e R s m args below meth c H locs cells slots Q (F0 m (pc + 3) ls (.int (iI (min x y)) :: rest))) : W p l e R s m args below meth c H locs cells slots Q (F0 m pc ls (.int (iI y) :: .int (iI x) :: rest)) := by
  refine va_mmin hexec hb hml hown hlink hstat hini hcode hframes hlocals hc hs hdg ?_
  have e : ∀ r : Int32, r.toInt = min x y → W p l e R s m args below meth c H locs cells slots Q (F0 m (pc + 3) ls (.int r :: rest)) := fun r h => by rw [show r = iI (min x y) from by rw [← h, iI_self]]; exact kk
  apply e
  split
  · next h => rw [iI_lt (by assumption) (by assumption)] at h; rw [iI_T (by assumption)]; omega
  · next h => rw [iI_lt (by assumption) (by assumption)] at h; rw [iI_T (by assumption)]; omega
variable {D : va_G} {cl : List vw_C} {ws : va_W} {tys : List (ClassId × FieldType)} {a : Nat} {A : Nat → Prop} {H0 : Heap}
theorem w_iald (hexec : p.tables.exec = Jvm.exec) (hb : c.code = cc) (hK : va_K D cl tys s) (hP : va_P D cl ws H) (q0 t0 : Nat) {cA : ClassId} {n : Nat} {F : Nat → Int} (ha : ws[q0]? = some (a, .inl (cA, n, .inl (aI F)))) (ht : tys[t0]? = some (cA, .int)) {z : Int} (j : Nat) (hz : z = (j : Int)) (hj : j < n) (hn : n ≤ 2147483648) (hdg : decode cc pc = .ok (.iaload, 1)) (kk : W p l e R s m args below meth c H locs cells slots Q (F0 m (pc + 1) ls (.int (iI (F j)) :: rest))) : W p l e R s m args below meth c H locs cells slots Q (F0 m pc ls (.int (iI z) :: .ref a :: rest)) := va_iald hexec hb hK hP q0 t0 ha ht (iI_in hz hj hn) hdg (by rw [iI_cl hz (by omega)]; exact kk)
theorem w_zald (hexec : p.tables.exec = Jvm.exec) (hb : c.code = cc) (hK : va_K D cl tys s) (hP : va_P D cl ws H) (q0 t0 : Nat) {cA : ClassId} {n : Nat} {F : Nat → Int} (ha : ws[q0]? = some (a, .inl (cA, n, .inl (aI F)))) (ht : tys[t0]? = some (cA, .boolean)) {z : Int} (j : Nat) (hz : z = (j : Int)) (hj : j < n) (hn : n ≤ 2147483648) (hdg : decode cc pc = .ok (.baload, 1)) (kk : W p l e R s m args below meth c H locs cells slots Q (F0 m (pc + 1) ls (.int (iI (F j)) :: rest))) : W p l e R s m args below meth c H locs cells slots Q (F0 m pc ls (.int (iI z) :: .ref a :: rest)) := va_zald hexec hb hK hP q0 t0 ha ht (iI_in hz hj hn) hdg (by rw [iI_cl hz (by omega)]; exact kk)
theorem w_lald (hexec : p.tables.exec = Jvm.exec) (hb : c.code = cc) (hK : va_K D cl tys s) (hP : va_P D cl ws H) (q0 t0 : Nat) {cA : ClassId} {n : Nat} {F : Nat → Int} (ha : ws[q0]? = some (a, .inl (cA, n, .inr (.inl (aL F))))) (ht : tys[t0]? = some (cA, .long)) {z : Int} (j : Nat) (hz : z = (j : Int)) (hj : j < n) (hn : n ≤ 2147483648) (hdg : decode cc pc = .ok (.laload, 1)) (kk : W p l e R s m args below meth c H locs cells slots Q (F0 m (pc + 1) ls (.long (lI (F j)) :: rest))) : W p l e R s m args below meth c H locs cells slots Q (F0 m pc ls (.int (iI z) :: .ref a :: rest)) := va_lald hexec hb hK hP q0 t0 ha ht (iI_in hz hj hn) hdg (by rw [iI_cl hz (by omega)]; exact kk)
theorem w_iast (hexec : p.tables.exec = Jvm.exec) (hb : c.code = cc) (hK : va_K D cl tys s) (hP : va_P D cl ws H) (hD : va_D A ws) (hS : va_S A H0 H locs) (q0 t0 : Nat) {cA : ClassId} {n : Nat} {F : Nat → Int} (ha : ws[q0]? = some (a, .inl (cA, n, .inl (aI F)))) (ht : tys[t0]? = some (cA, .int)) {v : Int} {z : Int} (j : Nat) (hz : z = (j : Int)) (hj : j < n) (hn : n ≤ 2147483648) (hdg : decode cc pc = .ok (.iastore, 1)) (kk : ∀ (H1 : Heap) (locs1 : List Loc), va_P D cl (ws.set q0 (a, .inl (cA, n, .inl (aI (va_up F j v))))) H1 → va_D A (ws.set q0 (a, .inl (cA, n, .inl (aI (va_up F j v))))) → va_S A H0 H1 locs1 → W p l e R s m args below meth c H1 locs1 cells slots Q (F0 m (pc + 1) ls rest)) : W p l e R s m args below meth c H locs cells slots Q (F0 m pc ls (.int (iI v) :: .int (iI z) :: .ref a :: rest)) := va_iast hexec hb hK hP hD hS q0 t0 ha ht (iI_in hz hj hn) hdg (by rw [iI_cl hz (by omega), aI_up]; exact kk)
theorem w_zast (hexec : p.tables.exec = Jvm.exec) (hb : c.code = cc) (hK : va_K D cl tys s) (hP : va_P D cl ws H) (hD : va_D A ws) (hS : va_S A H0 H locs) (q0 t0 : Nat) {cA : ClassId} {n : Nat} {F : Nat → Int} (ha : ws[q0]? = some (a, .inl (cA, n, .inl (aI F)))) (ht : tys[t0]? = some (cA, .boolean)) {v : Int} {z : Int} (j : Nat) (hz : z = (j : Int)) (hj : j < n) (hn : n ≤ 2147483648) (hv : v = 0 ∨ v = 1) (hdg : decode cc pc = .ok (.bastore, 1)) (kk : ∀ (H1 : Heap) (locs1 : List Loc), va_P D cl (ws.set q0 (a, .inl (cA, n, .inl (aI (va_up F j v))))) H1 → va_D A (ws.set q0 (a, .inl (cA, n, .inl (aI (va_up F j v))))) → va_S A H0 H1 locs1 → W p l e R s m args below meth c H1 locs1 cells slots Q (F0 m (pc + 1) ls rest)) : W p l e R s m args below meth c H locs cells slots Q (F0 m pc ls (.int (iI v) :: .int (iI z) :: .ref a :: rest)) := va_zast hexec hb hK hP hD hS q0 t0 ha ht (iI_in hz hj hn) hdg (by rw [iI_cl hz (by omega), bool_nar hv, aI_up]; exact kk)
theorem w_last (hexec : p.tables.exec = Jvm.exec) (hb : c.code = cc) (hK : va_K D cl tys s) (hP : va_P D cl ws H) (hD : va_D A ws) (hS : va_S A H0 H locs) (q0 t0 : Nat) {cA : ClassId} {n : Nat} {F : Nat → Int} (ha : ws[q0]? = some (a, .inl (cA, n, .inr (.inl (aL F))))) (ht : tys[t0]? = some (cA, .long)) {v : Int} {z : Int} (j : Nat) (hz : z = (j : Int)) (hj : j < n) (hn : n ≤ 2147483648) (hdg : decode cc pc = .ok (.lastore, 1)) (kk : ∀ (H1 : Heap) (locs1 : List Loc), va_P D cl (ws.set q0 (a, .inl (cA, n, .inr (.inl (aL (va_up F j v)))))) H1 → va_D A (ws.set q0 (a, .inl (cA, n, .inr (.inl (aL (va_up F j v)))))) → va_S A H0 H1 locs1 → W p l e R s m args below meth c H1 locs1 cells slots Q (F0 m (pc + 1) ls rest)) : W p l e R s m args below meth c H locs cells slots Q (F0 m pc ls (.long (lI v) :: .int (iI z) :: .ref a :: rest)) := va_last hexec hb hK hP hD hS q0 t0 ha ht (iI_in hz hj hn) hdg (by rw [iI_cl hz (by omega), aL_up]; exact kk)
end MW
theorem va_P_nil {D : va_G} {cl : List vw_C} {H : Heap} : va_P D cl [] H := fun k q h => by simp at h
