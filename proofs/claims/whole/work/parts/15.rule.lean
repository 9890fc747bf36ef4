/-! ===== pure: a RULE's stack; what holds ===== -/
theorem z01_nar {v : Int} (h : v = 0 ∨ v = 1) : narrow .boolean (.int (iI v)) = .int (iI v) := by rcases h with rfl | rfl <;> decide
theorem z01_fit {v : Int} (h : v = 0 ∨ v = 1) : fits .boolean (.int (iI v)) = true := by rcases h with rfl | rfl <;> decide
def psh (cn : Nat) (v : Int64) (L : List Int64) : List Int64 := if L.length < cn then v :: L else L
def ppV : List Int64 → Int64
  | [] => lI 0
  | v :: _ => v
def ppT : List Int64 → List Int64
  | [] => []
  | _ :: L => L
/-- the stack's cells: the top is the last -/
def stT (A : Nat → Int64) (L : List Int64) : Prop := ∀ j : Nat, j < L.length → A j = L.getD (L.length - 1 - j) 0
theorem stT_psh {A : Nat → Int64} {L : List Int64} {v : Int64} (h : stT A L) : stT (vp_updL A L.length v) (v :: L) := by
  intro j hj
  have hj2 : j < L.length + 1 := hj
  by_cases q : j = L.length
  · subst q
    show (if L.length = L.length then v else _) = (v :: L).getD (L.length + 1 - 1 - L.length) 0
    rw [if_pos rfl, show L.length + 1 - 1 - L.length = 0 from by omega]
    rfl
  · show (if j = L.length then v else A j) = (v :: L).getD (L.length + 1 - 1 - j) 0
    rw [if_neg q, show L.length + 1 - 1 - j = (L.length - 1 - j) + 1 from by omega, h j (by omega)]
    rfl
theorem stT_pp {A : Nat → Int64} {L : List Int64} (h : stT A L) : stT A (ppT L) := by
  cases L with
  | nil => exact h
  | cons v L =>
    intro j hj
    have hj2 : j < L.length := hj
    rw [h j (by show j < L.length + 1; omega)]
    show (v :: L).getD (L.length + 1 - 1 - j) 0 = L.getD (L.length - 1 - j) 0
    rw [show L.length + 1 - 1 - j = (L.length - 1 - j) + 1 from by omega]
    rfl
theorem stT_top {A : Nat → Int64} {L : List Int64} (h : stT A L) (h0 : 0 < L.length) : A (L.length - 1) = ppV L := by
  cases L with
  | nil => exact absurd h0 (by decide)
  | cons v L =>
    rw [h _ (by show L.length + 1 - 1 < L.length + 1; omega)]
    show (v :: L).getD (L.length + 1 - 1 - (L.length + 1 - 1)) 0 = v
    rw [Nat.sub_self]
    rfl
theorem ppT_len (L : List Int64) : (ppT L).length = L.length - 1 := by cases L <;> rfl
theorem pp_len {cn : Nat} {L : List Int64} (h : L.length ≤ cn) : (ppT L).length ≤ cn := by rw [ppT_len]; omega
theorem psh_len {cn : Nat} {L : List Int64} (v : Int64) (h : L.length ≤ cn) : (psh cn v L).length ≤ cn := by
  unfold psh
  split
  · show L.length + 1 ≤ cn; omega
  · exact h
def voZ (ch kd n k r : Int) : Int := if ch = 107 then k else if ch = 110 then n else if ch = 114 then r else if ch = 115 then moZ kd n else if ch = 119 then moZ kd n - r else kd
def joZ (ch : Int) (f s : Int64) : Int64 := if ch = 38 then f &&& s else if ch = 42 then f * s else if ch = 43 then f + s else if ch = 45 then f - s else if ch = 60 then (if f < s then lI 1 else lI 0) else if ch = 61 then (if f = s then lI 1 else lI 0) else if ch = 62 then (if s < f then lI 1 else lI 0) else f ||| s
def evE (cn : Nat) (vo : Int → Int) (x : Int) (L : List Int64) : List Int64 :=
  if 0 ≤ x then psh cn (lI x) L else if x = -33 then psh cn (lI 1 - ppV L) (ppT L) else if isL (-x) then psh cn (lI (vo (-x))) L else psh cn (joZ (-x) (ppV (ppT L)) (ppV L)) (ppT (ppT L))
def evL (C : Nat → Int) (cn : Nat) (vo : Int → Int) : Nat → List Int64
  | 0 => []
  | i + 1 => evE cn vo (C i) (evL C cn vo i)
theorem evE_len {cn : Nat} {vo : Int → Int} {x : Int} {L : List Int64} (h : L.length ≤ cn) : (evE cn vo x L).length ≤ cn := by
  have h1 := ppT_len L
  have h2 := ppT_len (ppT L)
  unfold evE
  split
  · exact psh_len _ h
  · split
    · exact psh_len _ (by omega)
    · split
      · exact psh_len _ h
      · exact psh_len _ (by omega)
theorem evL_len (C : Nat → Int) (cn : Nat) (vo : Int → Int) : ∀ i : Nat, (evL C cn vo i).length ≤ cn
  | 0 => Nat.zero_le _
  | i + 1 => evE_len (evL_len C cn vo i)
theorem moZ_b {kd n k : Int} (h : okP kd n k) : 1 ≤ moZ kd n ∧ moZ kd n ≤ 12 := by
  unfold okP at h
  unfold moZ
  split <;> omega
