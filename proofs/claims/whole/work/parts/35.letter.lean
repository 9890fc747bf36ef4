/-! ===== pure: the plans in the drawer, letters ===== -/
abbrev plT (G : Gx) (np : Int) (PF : Nat → Option Nat) (py pe pc : Nat → Nat) (pk pn pm : Nat → Int) (FE : Nat → Nat → Int) (pj : Nat → Nat × Nat) (pw : va_W) : Prop := ∀ i : Nat, (i : Int) < np → PF i = some (py i) ∧ okP (pk i) (pn i) (pm i) ∧ rI (pm i) ∧ (∀ j : Nat, j < 13 → FE i j = csZ (pk i) (pn i) (pm i) 5 j) ∧ ∃ rest : va_W, pw.Perm ([(py i, .inr (3, [.int (iI (pk i)), .int (iI (pn i)), .int (iI (pm i)), .ref (pe i)])), (pe i, .inr (1, [.ref (pc i), .ref (pj i).1, .ref (pj i).2, .long (lI (alZ (pk i) (pn i))), .int (iI (moZ (pk i) (pn i)))])), (pc i, .inl (G.2.1 1, 13, .inr (.inl (aL (FE i)))))] ++ rest)
/-- a NOBODY's odds that the rule holds, in so many parts -/
def ltZ (C : Nat → Int) (cn : Nat) (kd n k : Int) : Int := if pO (hbS C cn kd n k (csZ kd n k 5) (moZ kd n + 1).toNat) (alZ kd n) 1 = 0 then 0 else (127733760 : Int).tdiv (pO (hbS C cn kd n k (csZ kd n k 5) (moZ kd n + 1).toNat) (alZ kd n) 1) * pO (hbS C cn kd n k (csZ kd n k 5) (moZ kd n + 1).toNat) (alZ kd n) 0
theorem lt_b {C : Nat → Int} {cn : Nat} {kd n k : Int} (hv : okP kd n k) : 0 ≤ ltZ C cn kd n k ∧ ltZ C cn kd n k ≤ 127733760 := by
  have hm := moZ_b hv
  have h := mn_b (C := C) (cn := cn) hv (m := (moZ kd n + 1).toNat) (by omega)
  unfold ltZ
  generalize pO (hbS C cn kd n k (csZ kd n k 5) (moZ kd n + 1).toNat) (alZ kd n) 1 = y at *
  generalize pO (hbS C cn kd n k (csZ kd n k 5) (moZ kd n + 1).toNat) (alZ kd n) 0 = x at *
  rw [if_neg (by omega), Int.tdiv_eq_ediv_of_nonneg (by decide)]
  have h1 : 0 ≤ (127733760 : Int) / y := Int.ediv_nonneg (by decide) (by omega)
  have h2 := Int.mul_nonneg h1 h.2.2.1
  have h3 := Int.mul_le_mul_of_nonneg_left h.2.2.2 h1
  have h4 := Int.ediv_mul_le (127733760 : Int) (b := y) (by omega)
  omega
def cdLt (q al : Int) : Int := if q ≠ 0 ∧ q ≠ 1 then -2 else if al = 0 then -3 else 0
