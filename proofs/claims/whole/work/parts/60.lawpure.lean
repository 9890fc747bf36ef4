/-! ===== the law: texts that agree; what is written in a text without a FAULT ===== -/
theorem sgn_cg {T T' : Nat → Int} {tl : Int} (h : ∀ j : Nat, (j : Int) < tl → T j = T' j) : sgn T tl = sgn T' tl := by
  funext x
  unfold sgn
  by_cases q : x.2.1 < 0 ∧ 0 ≤ x.1 ∧ x.1 < tl ∧ x.1 < 40
  · rw [if_pos q, if_pos q, h x.1.toNat (by omega)]
  · rw [if_neg q, if_neg q]
theorem rUnit_cg {T T' : Nat → Int} {tl : Int} (h : sgn T tl = sgn T' tl) : rUnit T tl = rUnit T' tl := by
  funext x
  unfold rUnit
  rw [h]
theorem rSumL_cg {T T' : Nat → Int} {tl : Int} (h : sgn T tl = sgn T' tl) : ∀ n : Nat, rSumL T tl n = rSumL T' tl n
  | 0 => rfl
  | n + 1 => by
    funext x
    unfold rSumL
    rw [h, rUnit_cg h, rSumL_cg h n]
theorem rSum_cg {T T' : Nat → Int} {tl : Int} (h : sgn T tl = sgn T' tl) : rSum T tl = rSum T' tl := by
  funext x
  unfold rSum
  rw [rUnit_cg h, rSumL_cg h]
theorem rCmp_cg {T T' : Nat → Int} {tl : Int} (h : sgn T tl = sgn T' tl) : rCmp T tl = rCmp T' tl := by
  funext x
  unfold rCmp
  rw [h, rSum_cg h]
theorem rMore_cg {T T' : Nat → Int} {tl g : Int} (h : sgn T tl = sgn T' tl) {f f' : Tp → Tp} (hf : f = f') : ∀ n : Nat, rMore T tl g f n = rMore T' tl g f' n
  | 0 => rfl
  | n + 1 => by
    funext x
    unfold rMore
    rw [h, hf, rMore_cg h rfl n]
theorem rAnd_cg {T T' : Nat → Int} {tl : Int} (h : sgn T tl = sgn T' tl) {f f' : Tp → Tp} (hf : f = f') : rAnd T tl f = rAnd T' tl f' := by
  funext x
  unfold rAnd
  rw [rMore_cg h hf, hf]
theorem rOr_cg {T T' : Nat → Int} {tl : Int} (h : sgn T tl = sgn T' tl) {f f' : Tp → Tp} (hf : f = f') : rOr T tl f = rOr T' tl f' := by
  funext x
  unfold rOr
  rw [rAnd_cg h hf, rMore_cg h rfl]
theorem rTest_cg {T T' : Nat → Int} {tl : Int} (h : sgn T tl = sgn T' tl) : ∀ d : Nat, rTest T tl d = rTest T' tl d
  | 0 => by
    funext x
    unfold rTest
    rw [h, rCmp_cg h]
  | d + 1 => by
    funext x
    unfold rTest
    rw [h, rCmp_cg h, rTest_cg h d, rOr_cg h rfl]
theorem rAll_cg {T T' : Nat → Int} {tl : Int} (h : ∀ j : Nat, (j : Int) < tl → T j = T' j) : rAll T tl = rAll T' tl := by
  have e := sgn_cg h
  unfold rAll
  rw [e, rTest_cg e, rOr_cg e rfl]
/-- without a FAULT all that is written is a small number or a sign's -/
def enP (x : Tp) : Prop := x.2.1 < 0 → ∀ v ∈ x.2.2, -200 ≤ v ∧ v ≤ 99
theorem en_adv {x : Tp} (h : enP x) : enP (adv x) := h
theorem en_wrt {x : Tp} {v : Int} (h : enP x) (hv : x.2.1 < 0 → -200 ≤ v ∧ v ≤ 99) : enP (wrt v x) := by
  intro q w hw
  have q1 : x.2.1 < 0 := q
  have hw2 : w ∈ (if x.2.2.length < 40 then x.2.2 ++ [v] else x.2.2) := hw
  by_cases z : x.2.2.length < 40
  · rw [if_pos z, List.mem_append, List.mem_singleton] at hw2
    rcases hw2 with hw2 | hw2
    · exact h q1 w hw2
    · rw [hw2]; exact hv q1
  · rw [if_neg z] at hw2
    exact h q1 w hw2
theorem en_flt {tl : Int} {x : Tp} (ht : tl ≤ 40) (h : okT tl x) : enP (flt x) := fun q => by
  have := (okT_flt ht h).2
  omega
theorem en_unit {T : Nat → Int} {tl : Int} {x : Tp} (ht : tl ≤ 40) (hok : okT tl x) (h : enP x) : enP (rUnit T tl x) := by
  unfold rUnit
  split
  · next q => exact en_wrt (en_adv h) (fun _ => by omega)
  · split
    · next q =>
      split
      · next q2 => exact en_wrt (en_adv (en_adv h)) (fun _ => by omega)
      · exact en_wrt (en_adv h) (fun _ => by omega)
    · exact en_flt ht hok
theorem en_sumL {T : Nat → Int} {tl : Int} (ht : tl ≤ 40) : ∀ (n : Nat) (x : Tp), okT tl x → enP x → enP (rSumL T tl n x)
  | 0, _, _, h => h
  | n + 1, x, hok, h => by
    unfold rSumL
    split
    · next q =>
      have h2 := okT_adv hok (T := T) (by omega)
      exact en_sumL ht n _ (okT_wrt (okT_unit ht h2) _) (en_wrt (en_unit ht h2 (en_adv h)) (fun _ => by omega))
    · exact h
theorem en_sum {T : Nat → Int} {tl : Int} {x : Tp} (ht : tl ≤ 40) (hok : okT tl x) (h : enP x) : enP (rSum T tl x) := en_sumL ht _ _ (okT_unit ht hok) (en_unit ht hok h)
theorem en_cmp {T : Nat → Int} {tl : Int} {x : Tp} (ht : tl ≤ 40) (hok : okT tl x) (h : enP x) : enP (rCmp T tl x) := by
  have k1 := okT_sum (T := T) ht hok
  have k2 := en_sum (T := T) ht hok h
  by_cases q : sgn T tl (rSum T tl x) = 60 ∨ sgn T tl (rSum T tl x) = 61 ∨ sgn T tl (rSum T tl x) = 62
  · rw [rCmp_1 q]
    exact en_wrt (en_sum ht (okT_adv k1 (T := T) (by omega)) (en_adv k2)) (fun _ => by omega)
  · rw [rCmp_2 q]
    intro z
    have e : (rSum T tl (adv (flt (rSum T tl x)))).2.1 = (adv (flt (rSum T tl x))).2.1 := rSum_f (by
      show ¬ (flt (rSum T tl x)).2.1 < 0
      have := (okT_flt ht k1).2
      omega)
    have z2 : (rSum T tl (adv (flt (rSum T tl x)))).2.1 < 0 := z
    rw [e] at z2
    have z3 : (flt (rSum T tl x)).2.1 < 0 := z2
    have := (okT_flt ht k1).2
    omega
theorem en_more {T : Nat → Int} {tl g : Int} {f : Tp → Tp} (hg : 0 < g ∧ g < 200) (hf : ∀ x, okT tl x → okT tl (f x)) (hf2 : ∀ x, okT tl x → enP x → enP (f x)) : ∀ (n : Nat) (x : Tp), okT tl x → enP x → enP (rMore T tl g f n x)
  | 0, _, _, h => h
  | n + 1, x, hok, h => by
    unfold rMore
    split
    · have h2 := okT_adv hok (T := T) (by omega)
      exact en_more hg hf hf2 n _ (okT_wrt (hf _ h2) _) (en_wrt (hf2 _ h2 (en_adv h)) (fun _ => by omega))
    · exact h
theorem en_and {T : Nat → Int} {tl : Int} {f : Tp → Tp} (hf : ∀ x, okT tl x → okT tl (f x)) (hf2 : ∀ x, okT tl x → enP x → enP (f x)) {x : Tp} (hok : okT tl x) (h : enP x) : enP (rAnd T tl f x) := en_more (by decide) hf hf2 _ _ (hf x hok) (hf2 x hok h)
theorem en_or {T : Nat → Int} {tl : Int} {f : Tp → Tp} (hf : ∀ x, okT tl x → okT tl (f x)) (hf2 : ∀ x, okT tl x → enP x → enP (f x)) {x : Tp} (hok : okT tl x) (h : enP x) : enP (rOr T tl f x) := en_more (by decide) (fun x h => okT_and hf h) (fun x h1 h2 => en_and hf hf2 h1 h2) _ _ (okT_and hf hok) (en_and hf hf2 hok h)
theorem en_test {T : Nat → Int} {tl : Int} (ht : tl ≤ 40) : ∀ (d : Nat) (x : Tp), okT tl x → enP x → enP (rTest T tl d x)
  | 0, x, hok, h => by
    unfold rTest
    split
    · exact en_flt ht hok
    · exact en_cmp ht hok h
  | d + 1, x, hok, h => by
    unfold rTest
    split
    · next q => exact en_wrt (en_test ht d _ (okT_adv hok (T := T) (by omega)) (en_adv h)) (fun _ => by decide)
    · split
      · next q =>
        have h2 := okT_adv hok (T := T) (by omega)
        have h3 := okT_or (T := T) (f := rTest T tl d) (fun x h => okT_test ht d x h) h2
        have h4 := en_or (T := T) (f := rTest T tl d) (fun x h => okT_test ht d x h) (fun x h1 h2 => en_test ht d x h1 h2) h2 (en_adv h)
        split
        · exact en_adv h4
        · exact en_flt ht h3
      · exact en_cmp ht hok h
theorem en_all {T : Nat → Int} {tl : Int} (h : 0 ≤ tl ∧ tl ≤ 40) (hf : (rAll T tl).2.1 < 0) : ∀ j : Nat, j < (rAll T tl).2.2.length → -200 ≤ (rAll T tl).2.2.getD j 0 ∧ (rAll T tl).2.2.getD j 0 ≤ 99 := by
  obtain ⟨e, w⟩ := ra_3 h hf
  rw [e]
  have k := en_or (T := T) (f := rTest T tl 4) (fun x hx => okT_test h.2 4 x hx) (fun x h1 h2 => en_test h.2 4 x h1 h2) (okT_9 h.1) (fun _ v hv => absurd hv List.not_mem_nil)
  intro j hj
  refine k w _ ?_
  rw [List.getD_eq_getElem?_getD, List.getElem?_eq_getElem hj]
  exact List.getElem_mem hj
/-! pools: one of so many taken out, changed, put back -/
def fm (f : Nat → va_W) (n : Nat) : va_W := (List.range n).flatMap f
theorem fm_0 (f : Nat → va_W) : fm f 0 = [] := rfl
theorem fm_s (f : Nat → va_W) (n : Nat) : fm f (n + 1) = fm f n ++ f n := by
  unfold fm
  rw [List.range_succ, List.flatMap_append]
  simp
theorem fm_cg {f g : Nat → va_W} : ∀ {n : Nat}, (∀ j, j < n → f j = g j) → fm f n = fm g n
  | 0, _ => rfl
  | n + 1, h => by rw [fm_s, fm_s, fm_cg (fun j hj => h j (by omega)), h n (by omega)]
theorem fm_op {f : Nat → va_W} {i : Nat} : ∀ {n : Nat}, i < n → ∃ rest : va_W, (fm f n).Perm (f i ++ rest) ∧ ∀ g : Nat → va_W, (∀ j, j ≠ i → g j = f j) → (fm g n).Perm (g i ++ rest)
  | 0, h => absurd h (Nat.not_lt_zero _)
  | n + 1, h => by
    by_cases q : i = n
    · subst q
      refine ⟨fm f i, ?_, fun g hg => ?_⟩
      · rw [fm_s]; exact List.perm_append_comm
      · rw [fm_s, fm_cg (f := g) (g := f) (fun j hj => hg j (by omega))]; exact List.perm_append_comm
    · obtain ⟨rest, h1, h2⟩ := fm_op (f := f) (i := i) (n := n) (by omega)
      refine ⟨rest ++ f n, ?_, fun g hg => ?_⟩
      · rw [fm_s, ← List.append_assoc]; exact h1.append_right _
      · rw [fm_s, ← List.append_assoc, hg n (by omega)]; exact (h2 g hg).append_right _
theorem fm_mem {f : Nat → va_W} {i n : Nat} (h : i < n) {q : Nat × va_E} (hq : q ∈ f i) : q ∈ fm f n := by
  unfold fm
  exact List.mem_flatMap.mpr ⟨i, List.mem_range.mpr h, hq⟩
/-- set at one place -/
def ups {α : Type} (f : Nat → α) (k : Nat) (v : α) : Nat → α := fun j => if j = k then v else f j
theorem ups_s {α : Type} (f : Nat → α) (k : Nat) (v : α) : ups f k v k = v := if_pos rfl
theorem ups_n {α : Type} (f : Nat → α) {k j : Nat} (v : α) (h : j ≠ k) : ups f k v j = f j := if_neg h
