/-! ===== pure: bytes ===== -/
theorem fit_I {cA : ClassId} {n : Nat} {F : Nat → Int} {i : Nat} {v : Value} (hv : (vp_cell cA (n, .inl (aI F))).slots[i]? = some v) : fits .int v = true := by
  by_cases h : i < n
  · have h2 : (vp_cell cA (n, .inl (aI F))).slots[i]? = some (.int (aI F i)) := by
      show (Array.ofFn (n := n) fun j => Value.int (aI F j.val))[i]? = _
      rw [Array.getElem?_ofFn, dif_pos h]
    rw [h2] at hv
    cases hv
    rfl
  · have h2 : (vp_cell cA (n, .inl (aI F))).slots[i]? = none := by
      show (Array.ofFn (n := n) fun j => Value.int (aI F j.val))[i]? = _
      rw [Array.getElem?_ofFn, dif_neg h]
    rw [h2] at hv
    cases hv
def by8 (b : Int64) (i : Int) : Int := ((b.toUInt64.toNat / 2 ^ (8 * i).toNat % 256 : Nat) : Int)
theorem by8_b (b : Int64) (i : Int) : 0 ≤ by8 b i ∧ by8 b i ≤ 255 := by unfold by8; omega
def fdT (T : Nat → Int) (tl : Int) (b : Int64) (i : Int) (j : Nat) : Int := if tl ≤ j ∧ (j : Int) < tl + i then by8 b (j - tl) else T j
theorem by8_m : ∀ m : Fin 256, (UInt64.ofNat m.1).toInt64.toInt32 = iI (m.1 : Int) := by decide +kernel
theorem by8_u (u : UInt64) : (u.toInt64 &&& lI 255).toInt32 = iI ((u.toNat % 256 : Nat) : Int) := by
  have h1 : u.toInt64 &&& lI 255 = (u &&& 255).toInt64 := by
    rw [show lI 255 = (255 : UInt64).toInt64 from by decide, ← UInt64.toInt64_and]
  have h2 : u &&& 255 = UInt64.ofNat (u.toNat % 256) := by
    apply UInt64.toNat_inj.mp
    rw [UInt64.toNat_and, UInt64.toNat_ofNat_of_lt' (by have := Nat.mod_lt u.toNat (show 0 < 256 by decide); show _ < 2 ^ 64; omega)]
    exact Nat.and_two_pow_sub_one_eq_mod u.toNat 8
  rw [h1, h2]
  exact by8_m ⟨u.toNat % 256, Nat.mod_lt _ (by decide)⟩
theorem by8_e (bb : Int64) {i : Int} (hi : 0 ≤ i ∧ i < 8) : ((bb.toUInt64 >>> ((iI (8 * i)).toInt64.toUInt64 &&& Int64.toUInt64 63)).toInt64 &&& lI 255).toInt32 = iI (by8 bb i) := by
  rw [by8_u]
  unfold by8
  congr 2
  have e : i = 0 ∨ i = 1 ∨ i = 2 ∨ i = 3 ∨ i = 4 ∨ i = 5 ∨ i = 6 ∨ i = 7 := by omega
  rw [UInt64.toNat_shiftRight, Nat.shiftRight_eq_div_pow]
  rcases e with h | h | h | h | h | h | h | h <;> subst h <;> rfl
theorem fd_1 {T T2 : Nat → Int} {tl i : Int} {b : Int64} (hi : 0 ≤ i ∧ 0 ≤ tl) (h : T2 = fdT T tl b i) : va_up T2 (tl + i).toNat (by8 b i) = fdT T tl b (i + 1) := by
  funext j
  unfold fdT
  by_cases q : j = (tl + i).toNat
  · subst q
    rw [va_up_self, if_pos (by omega)]
    congr 1
    omega
  · rw [va_up_ne _ _ q, h]
    unfold fdT
    by_cases q2 : tl ≤ j ∧ (j : Int) < tl + i
    · rw [if_pos q2, if_pos (by omega)]
    · rw [if_neg q2, if_neg (by omega)]
theorem fd_0 (T : Nat → Int) (tl : Int) (b : Int64) : T = fdT T tl b 0 := by
  funext j
  unfold fdT
  rw [if_neg (by omega)]
def cdFd (n tl : Int) : Int := if n < 1 then -4 else if 8 < n ∨ 40 < tl + n then -6 else 0
abbrev tp9 : Tp := (0, -1, [])
