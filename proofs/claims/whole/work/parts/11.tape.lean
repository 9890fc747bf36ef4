/-! ===== pure: THE TAPE's reading, as the class does it. A state: at, fault, what is written ===== -/
abbrev Tp : Type := Int × Int × List Int
abbrev isL (v : Int) : Prop := v = 114 ∨ v = 119 ∨ v = 115 ∨ v = 110 ∨ v = 107 ∨ v = 112
abbrev isD (v : Int) : Prop := 48 ≤ v ∧ v ≤ 57
def sgn (T : Nat → Int) (tl : Int) (x : Tp) : Int := if x.2.1 < 0 ∧ 0 ≤ x.1 ∧ x.1 < tl ∧ x.1 < 40 then T x.1.toNat else -1
def adv (x : Tp) : Tp := (x.1 + 1, x.2.1, x.2.2)
def wrt (v : Int) (x : Tp) : Tp := (x.1, x.2.1, if x.2.2.length < 40 then x.2.2 ++ [v] else x.2.2)
def flt (x : Tp) : Tp := (x.1, if x.2.1 < 0 then x.1 else x.2.1, x.2.2)
def rUnit (T : Nat → Int) (tl : Int) (x : Tp) : Tp :=
  if isL (sgn T tl x) then wrt (-(sgn T tl x)) (adv x)
  else if isD (sgn T tl x) then
    (if isD (sgn T tl (adv x)) then wrt (10 * (sgn T tl x - 48) + sgn T tl (adv x) - 48) (adv (adv x)) else wrt (sgn T tl x - 48) (adv x))
  else flt x
def rSumL (T : Nat → Int) (tl : Int) : Nat → Tp → Tp
  | 0, x => x
  | n + 1, x => if sgn T tl x = 43 ∨ sgn T tl x = 45 ∨ sgn T tl x = 42 then rSumL T tl n (wrt (-(sgn T tl x)) (rUnit T tl (adv x))) else x
def rSum (T : Nat → Int) (tl : Int) (x : Tp) : Tp := rSumL T tl tl.toNat (rUnit T tl x)
/-- a comparison -/
def rCmp (T : Nat → Int) (tl : Int) (x : Tp) : Tp :=
  let y := rSum T tl x
  let c := sgn T tl y
  wrt (-c) (rSum T tl (adv (if c = 60 ∨ c = 61 ∨ c = 62 then y else flt y)))
/-- one thing and more of it, a sign between -/
def rMore (T : Nat → Int) (tl : Int) (g : Int) (f : Tp → Tp) : Nat → Tp → Tp
  | 0, x => x
  | n + 1, x => if sgn T tl x = g then rMore T tl g f n (wrt (-g) (f (adv x))) else x
def rAnd (T : Nat → Int) (tl : Int) (f : Tp → Tp) (x : Tp) : Tp := rMore T tl 38 f tl.toNat (f x)
def rOr (T : Nat → Int) (tl : Int) (f : Tp → Tp) (x : Tp) : Tp := rMore T tl 124 (rAnd T tl f) tl.toNat (rAnd T tl f x)
/-- so many levels are left -/
def rTest (T : Nat → Int) (tl : Int) : Nat → Tp → Tp
  | 0, x => if sgn T tl x = 33 ∨ sgn T tl x = 40 then flt x else rCmp T tl x
  | d + 1, x =>
    if sgn T tl x = 33 then wrt (-33) (rTest T tl d (adv x))
    else if sgn T tl x = 40 then
      (if sgn T tl (rOr T tl (rTest T tl d) (adv x)) = 41 then adv (rOr T tl (rTest T tl d) (adv x)) else flt (rOr T tl (rTest T tl d) (adv x)))
    else rCmp T tl x
def rAll (T : Nat → Int) (tl : Int) : Tp :=
  let y := rOr T tl (rTest T tl 4) (0, -1, [])
  if sgn T tl y = -1 then y else flt y
/-- where one reads while there is no FAULT; how much is written -/
def okT (tl : Int) (x : Tp) : Prop := (x.2.1 < 0 → 0 ≤ x.1 ∧ x.1 ≤ tl) ∧ x.2.2.length ≤ 40 ∧ x.2.1 < 100 ∧ -1 ≤ x.2.1
def txT (T : Nat → Int) : Prop := ∀ j, 0 ≤ T j ∧ T j ≤ 255
theorem sgn_b {T : Nat → Int} {tl : Int} {x : Tp} (h : txT T) : -1 ≤ sgn T tl x ∧ sgn T tl x ≤ 255 := by
  unfold sgn
  split
  · have := h x.1.toNat; omega
  · decide
theorem sgn_in {T : Nat → Int} {tl : Int} {x : Tp} (h : sgn T tl x ≠ -1) : x.2.1 < 0 ∧ 0 ≤ x.1 ∧ x.1 < tl := by
  unfold sgn at h
  by_cases q : x.2.1 < 0 ∧ 0 ≤ x.1 ∧ x.1 < tl ∧ x.1 < 40
  · exact ⟨q.1, q.2.1, q.2.2.1⟩
  · rw [if_neg q] at h; exact absurd rfl h
theorem okT_adv {T : Nat → Int} {tl : Int} {x : Tp} (h : okT tl x) (hs : sgn T tl x ≠ -1) : okT tl (adv x) := by
  have h1 := sgn_in hs
  exact ⟨fun _ => ⟨by show 0 ≤ x.1 + 1; omega, by show x.1 + 1 ≤ tl; omega⟩, h.2.1, h.2.2.1, h.2.2.2⟩
theorem okT_advF {tl : Int} {x : Tp} (h : okT tl x) (hf : 0 ≤ x.2.1) : okT tl (adv x) := ⟨fun q => absurd q (by show ¬ x.2.1 < 0; omega), h.2.1, h.2.2.1, h.2.2.2⟩
theorem okT_wrt {tl : Int} {x : Tp} (h : okT tl x) (v : Int) : okT tl (wrt v x) := by
  refine ⟨h.1, ?_, h.2.2.1, h.2.2.2⟩
  show (if x.2.2.length < 40 then x.2.2 ++ [v] else x.2.2).length ≤ 40
  split
  · rw [List.length_append]; show _ + 1 ≤ 40; omega
  · exact h.2.1
theorem okT_flt {tl : Int} {x : Tp} (htl : tl ≤ 40) (h : okT tl x) : okT tl (flt x) ∧ 0 ≤ (flt x).2.1 := by
  have h1 := h.1
  have h2 := h.2.2
  have e : (flt x).2.1 = if x.2.1 < 0 then x.1 else x.2.1 := rfl
  have e2 : 0 ≤ (flt x).2.1 ∧ (flt x).2.1 < 100 := by
    rw [e]
    by_cases q : x.2.1 < 0
    · rw [if_pos q]; have := h1 q; omega
    · rw [if_neg q]; omega
  exact ⟨⟨fun q => absurd q (by omega), h.2.1, e2.2, by omega⟩, e2.1⟩
theorem okT_unit {T : Nat → Int} {tl : Int} {x : Tp} (htl : tl ≤ 40) (h : okT tl x) : okT tl (rUnit T tl x) := by
  unfold rUnit
  by_cases q1 : isL (sgn T tl x)
  · rw [if_pos q1]; exact okT_wrt (okT_adv h (T := T) (by omega)) _
  · rw [if_neg q1]
    by_cases q2 : isD (sgn T tl x)
    · rw [if_pos q2]
      have h2 := okT_adv h (T := T) (by omega)
      by_cases q3 : isD (sgn T tl (adv x))
      · rw [if_pos q3]; exact okT_wrt (okT_adv h2 (T := T) (by omega)) _
      · rw [if_neg q3]; exact okT_wrt h2 _
    · rw [if_neg q2]; exact (okT_flt htl h).1
theorem okT_sumL {T : Nat → Int} {tl : Int} (htl : tl ≤ 40) : ∀ (n : Nat) (x : Tp), okT tl x → okT tl (rSumL T tl n x)
  | 0, _, h => h
  | n + 1, x, h => by
    unfold rSumL
    by_cases q : sgn T tl x = 43 ∨ sgn T tl x = 45 ∨ sgn T tl x = 42
    · rw [if_pos q]; exact okT_sumL htl n _ (okT_wrt (okT_unit htl (okT_adv h (T := T) (by omega))) _)
    · rw [if_neg q]; exact h
theorem okT_sum {T : Nat → Int} {tl : Int} {x : Tp} (htl : tl ≤ 40) (h : okT tl x) : okT tl (rSum T tl x) := okT_sumL htl _ _ (okT_unit htl h)
theorem okT_mid {T : Nat → Int} {tl : Int} {y : Tp} (htl : tl ≤ 40) (h : okT tl y) : okT tl (adv (if sgn T tl y = 60 ∨ sgn T tl y = 61 ∨ sgn T tl y = 62 then y else flt y)) := by
  by_cases q : sgn T tl y = 60 ∨ sgn T tl y = 61 ∨ sgn T tl y = 62
  · rw [if_pos q]; exact okT_adv h (T := T) (by omega)
  · rw [if_neg q]; exact okT_advF (okT_flt htl h).1 (okT_flt htl h).2
theorem okT_cmp {T : Nat → Int} {tl : Int} {x : Tp} (htl : tl ≤ 40) (h : okT tl x) : okT tl (rCmp T tl x) := okT_wrt (okT_sum htl (okT_mid htl (okT_sum htl h))) _
theorem okT_more {T : Nat → Int} {tl g : Int} {f : Tp → Tp} (hg : g ≠ -1) (hf : ∀ x, okT tl x → okT tl (f x)) : ∀ (n : Nat) (x : Tp), okT tl x → okT tl (rMore T tl g f n x)
  | 0, _, h => h
  | n + 1, x, h => by
    unfold rMore
    by_cases q : sgn T tl x = g
    · rw [if_pos q]; exact okT_more hg hf n _ (okT_wrt (hf _ (okT_adv h (T := T) (by omega))) _)
    · rw [if_neg q]; exact h
theorem okT_and {T : Nat → Int} {tl : Int} {f : Tp → Tp} (hf : ∀ x, okT tl x → okT tl (f x)) {x : Tp} (h : okT tl x) : okT tl (rAnd T tl f x) := okT_more (by decide) hf _ _ (hf x h)
theorem okT_or {T : Nat → Int} {tl : Int} {f : Tp → Tp} (hf : ∀ x, okT tl x → okT tl (f x)) {x : Tp} (h : okT tl x) : okT tl (rOr T tl f x) := okT_more (by decide) (fun x h => okT_and hf h) _ _ (okT_and hf h)
theorem okT_test {T : Nat → Int} {tl : Int} (htl : tl ≤ 40) : ∀ (d : Nat) (x : Tp), okT tl x → okT tl (rTest T tl d x)
  | 0, x, h => by
    unfold rTest
    by_cases q : sgn T tl x = 33 ∨ sgn T tl x = 40
    · rw [if_pos q]; exact (okT_flt htl h).1
    · rw [if_neg q]; exact okT_cmp htl h
  | d + 1, x, h => by
    unfold rTest
    by_cases q : sgn T tl x = 33
    · rw [if_pos q]; exact okT_wrt (okT_test htl d _ (okT_adv h (T := T) (by omega))) _
    · rw [if_neg q]
      by_cases q2 : sgn T tl x = 40
      · rw [if_pos q2]
        have h2 := okT_or (T := T) (okT_test (T := T) htl d) (okT_adv h (T := T) (by omega))
        by_cases q3 : sgn T tl (rOr T tl (rTest T tl d) (adv x)) = 41
        · rw [if_pos q3]; exact okT_adv h2 (T := T) (by omega)
        · rw [if_neg q3]; exact (okT_flt htl h2).1
      · rw [if_neg q2]; exact okT_cmp htl h
/-- the code's cells hold what is written -/
def cdT (C : Nat → Int) (x : Tp) : Prop := ∀ j : Nat, j < x.2.2.length → C j = x.2.2.getD j 0
theorem cdT_wrt {C : Nat → Int} {x : Tp} {v : Int} (h : cdT C x) (hl : x.2.2.length < 40) : cdT (va_up C x.2.2.length v) (wrt v x) := by
  intro j hj
  have e : (wrt v x).2.2 = x.2.2 ++ [v] := if_pos hl
  rw [e] at hj ⊢
  rw [List.length_append] at hj
  by_cases q : j = x.2.2.length
  · subst q
    rw [va_up_self, List.getD_eq_getElem?_getD, List.getElem?_append_right (Nat.le_refl _), Nat.sub_self]
    rfl
  · have hj2 : j < x.2.2.length := by
      have : ([v] : List Int).length = 1 := rfl
      omega
    rw [va_up_ne _ _ q, List.getD_eq_getElem?_getD, List.getElem?_append_left hj2, ← List.getD_eq_getElem?_getD, h j hj2]
theorem wrt_len {x : Tp} {v : Int} (hl : x.2.2.length < 40) : ((wrt v x).2.2.length : Int) = (x.2.2.length : Int) + 1 := by
  have e : (wrt v x).2.2 = x.2.2 ++ [v] := if_pos hl
  rw [e, List.length_append]
  rfl
theorem wrt_full {x : Tp} {v : Int} (hl : ¬ x.2.2.length < 40) : wrt v x = x := by
  unfold wrt
  rw [if_neg hl]
theorem rTest_0f {T : Nat → Int} {tl : Int} {x : Tp} (h : sgn T tl x = 33 ∨ sgn T tl x = 40) : rTest T tl 0 x = flt x := if_pos h
theorem rTest_0c {T : Nat → Int} {tl : Int} {x : Tp} (h : ¬ (sgn T tl x = 33 ∨ sgn T tl x = 40)) : rTest T tl 0 x = rCmp T tl x := if_neg h
theorem rTest_not {T : Nat → Int} {tl : Int} {d : Nat} {x : Tp} (h : sgn T tl x = 33) : rTest T tl (d + 1) x = wrt (-33) (rTest T tl d (adv x)) := if_pos h
theorem rTest_p1 {T : Nat → Int} {tl : Int} {d : Nat} {x : Tp} (h : sgn T tl x = 40) (h2 : sgn T tl (rOr T tl (rTest T tl d) (adv x)) = 41) : rTest T tl (d + 1) x = adv (rOr T tl (rTest T tl d) (adv x)) := by
  show (if _ then _ else _) = _
  rw [if_neg (by omega), if_pos h, if_pos h2]
theorem rTest_p2 {T : Nat → Int} {tl : Int} {d : Nat} {x : Tp} (h : sgn T tl x = 40) (h2 : ¬ sgn T tl (rOr T tl (rTest T tl d) (adv x)) = 41) : rTest T tl (d + 1) x = flt (rOr T tl (rTest T tl d) (adv x)) := by
  show (if _ then _ else _) = _
  rw [if_neg (by omega), if_pos h, if_neg h2]
theorem rTest_c {T : Nat → Int} {tl : Int} {d : Nat} {x : Tp} (h : ¬ (sgn T tl x = 33 ∨ sgn T tl x = 40)) : rTest T tl (d + 1) x = rCmp T tl x := by
  show (if _ then _ else _) = _
  rw [if_neg (by omega), if_neg (by omega)]
theorem rCmp_1 {T : Nat → Int} {tl : Int} {x : Tp} (h : sgn T tl (rSum T tl x) = 60 ∨ sgn T tl (rSum T tl x) = 61 ∨ sgn T tl (rSum T tl x) = 62) : rCmp T tl x = wrt (-(sgn T tl (rSum T tl x))) (rSum T tl (adv (rSum T tl x))) := by
  unfold rCmp
  dsimp only
  rw [if_pos h]
theorem rCmp_2 {T : Nat → Int} {tl : Int} {x : Tp} (h : ¬ (sgn T tl (rSum T tl x) = 60 ∨ sgn T tl (rSum T tl x) = 61 ∨ sgn T tl (rSum T tl x) = 62)) : rCmp T tl x = wrt (-(sgn T tl (rSum T tl x))) (rSum T tl (adv (flt (rSum T tl x)))) := by
  unfold rCmp
  dsimp only
  rw [if_neg h]
