/-! ===== pure: what is added ===== -/
def cdSh (z : Int) : Int := if z = 0 then 0 else -3
theorem iI_per (z : Int) : iI (z + 4294967296) = iI z := by
  apply Int32.toInt_inj.mp
  unfold iI
  rw [Int32.toInt_ofInt, Int32.toInt_ofInt]
  simp only [Int.bmod, Int32.size]
  omega
def wr11 (w : Int) : Int := if w < -2147483637 then w - 11 + 4294967296 else w - 11
theorem wr11_e {w : Int} : iI (w - 11) = iI (wr11 w) := by
  unfold wr11
  split
  · rw [iI_per]
  · rfl
def coZ (w np nr ns td tl : Int) (R : Nat → Int) : Int := if w = 0 then np else if w = 1 then nr else if w = 2 then ns else if w = 3 then td else if w = 4 then tl else if 0 ≤ w - 11 ∧ w - 11 < 6 then R (w - 11).toNat else -9
theorem co_d {w : Int} {np nr ns td tl : Int} {R : Nat → Int} (hw : rI w) (h : ¬ (0 ≤ w ∧ w ≤ 4)) : (if 0 ≤ wr11 w ∧ wr11 w < 6 then R (wr11 w).toNat else -9) = coZ w np nr ns td tl R := by
  unfold coZ wr11
  rw [if_neg (by omega : ¬ w = 0), if_neg (by omega : ¬ w = 1), if_neg (by omega : ¬ w = 2), if_neg (by omega : ¬ w = 3), if_neg (by omega : ¬ w = 4)]
  by_cases q : w < -2147483637
  · rw [if_pos q, if_neg (by omega), if_neg (by omega)]
  · rw [if_neg q]
def cdI (r mo ns : Int) : Int := if r < 0 then -4 else if mo < r ∨ 30 ≤ ns then -6 else 0
def cdP (kd n k np : Int) : Int := if kd < 0 ∨ 4 < kd then -2 else if n < fwN kd ∨ ((kd = 1 ∨ kd = 4) ∧ k < 1) then -4 else if mwN kd < n ∨ ((kd = 1 ∨ kd = 4) ∧ mkN kd n < k) ∨ 30 ≤ np then -6 else 0
