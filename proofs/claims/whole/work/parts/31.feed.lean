/-! ===== pure: bytes ===== -/
theorem fit_I {cA : ClassId} {n : Nat} {F : Nat → Int} {i : Nat} {v : Value} (hv : (vp_cell cA (n, .inl (aI F))).slots[i]? = some v) : fits .int v = true := by
  by_cases h : i < n
  · have h2 : (vp_cell cA (n, .inl (aI F))).slots[i]? = some (.int (aI F i)) := by
      show (Array.ofFn (n := n) fun j => Value.int (aI F j.val))[i]? = _
      rw [Array.getElem?_ofFn, dif_pos h]
    rw [h2] at hv
    cases hv
    rfl
  · have h2 : (vp_cell cA (n, .inl (aI F))).slots[i]? = none := by
      show (Array.ofFn (n := n) fun j => Value.int (aI F j.val))[i]? = _
      rw [Array.getElem?_ofFn, dif_neg h]
    rw [h2] at hv
    cases hv
def by8 (b : Int64) (i : Int) : Int := ((b.toUInt64.toNat / 2 ^ (8 * i).toNat % 256 : Nat) : Int)
theorem by8_b (b : Int64) (i : Int) : 0 ≤ by8 b i ∧ by8 b i ≤ 255 := by unfold by8; omega
def fdT (T : Nat → Int) (tl : Int) (b : Int64) (i : Int) (j : Nat) : Int := if tl ≤ j ∧ (j : Int) < tl + i then by8 b (j - tl) else T j
