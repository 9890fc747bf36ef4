/-! ===== the reference reads a text and works it out at once: what that has to do with the class's code ===== -/
def evI (vo : Int → Int) (x : Int) (L : List Int64) : List Int64 := if 0 ≤ x then lI x :: L else if x = -33 then (lI 1 - ppV L) :: ppT L else if isL (-x) then lI (vo (-x)) :: L else joZ (-x) (ppV (ppT L)) (ppV L) :: ppT (ppT L)
def evs (vo : Int → Int) (L : List Int) : List Int64 := L.foldl (fun st x => evI vo x st) []
theorem evs_ap (vo : Int → Int) (L : List Int) (v : Int) : evs vo (L ++ [v]) = evI vo v (evs vo L) := by unfold evs; rw [List.foldl_append]; rfl
theorem evI_len (vo : Int → Int) (x : Int) (L : List Int64) : (evI vo x L).length ≤ L.length + 1 := by
  have h1 := ppT_len L
  have h2 := ppT_len (ppT L)
  unfold evI
  split
  · exact Nat.le_refl _
  · split
    · show (ppT L).length + 1 ≤ _; omega
    · split
      · exact Nat.le_refl _
      · show (ppT (ppT L)).length + 1 ≤ _; omega
theorem evE_I {cn : Nat} {vo vo2 : Int → Int} {x : Int} {L : List Int64} (hv : ∀ z, isL z → vo z = vo2 z) (h : L.length < cn) : evE cn vo x L = evI vo2 x L := by
  have h1 := ppT_len L
  have h2 := ppT_len (ppT L)
  have hp : ∀ (v : Int64) (M : List Int64), M.length < cn → psh cn v M = v :: M := fun v M hM => by unfold psh; rw [if_pos hM]
  unfold evE evI
  by_cases q1 : 0 ≤ x
  · rw [if_pos q1, if_pos q1, hp _ _ h]
  · rw [if_neg q1, if_neg q1]
    by_cases q2 : x = -33
    · rw [if_pos q2, if_pos q2, hp _ _ (by omega)]
    · rw [if_neg q2, if_neg q2]
      by_cases q3 : isL (-x)
      · rw [if_pos q3, if_pos q3, hp _ _ h, hv _ q3]
      · rw [if_neg q3, if_neg q3, hp _ _ (by omega)]
theorem evL_s {C : Nat → Int} {cn : Nat} {vo vo2 : Int → Int} {M : List Int} (hv : ∀ z, isL z → vo z = vo2 z) (hn : cn = M.length) (hC : ∀ j : Nat, j < cn → C j = M.getD j 0) : ∀ i : Nat, i ≤ cn → evL C cn vo i = evs vo2 (M.take i) ∧ (evL C cn vo i).length ≤ i
  | 0, _ => ⟨by rw [List.take_zero]; rfl, Nat.le_refl 0⟩
  | i + 1, h => by
    obtain ⟨h1, h2⟩ := evL_s (vo2 := vo2) hv hn hC i (by omega)
    have e : M.take (i + 1) = M.take i ++ [M.getD i 0] := by
      have hi : i < M.length := by omega
      rw [List.take_succ_eq_append_getElem hi, List.getD_eq_getElem?_getD, List.getElem?_eq_getElem hi]
      rfl
    have e2 : evL C cn vo (i + 1) = evI vo2 (C i) (evL C cn vo i) := evE_I hv (by omega)
    refine ⟨?_, ?_⟩
    · rw [e2, e, evs_ap, h1, hC i (by omega)]
    · rw [e2]
      have := evI_len vo2 (C i) (evL C cn vo i)
      omega
def mvo (LE : Nat → Int) (z : Int) : Int := LE z.toNat
/-- where the reference stands -/
def tA (x : Tp) : Int := if x.2.1 < 0 then x.1 else x.2.1
theorem tA_w {x : Tp} (h : x.2.1 < 0) : tA x = x.1 := if_pos h
theorem tA_n {x : Tp} (h : ¬ x.2.1 < 0) : tA x = x.2.1 := if_neg h
theorem tA_b {zs : Int} {x : Tp} (h : okT zs x) (hz : zs ≤ 40) : 0 ≤ tA x ∧ tA x < 100 := by
  unfold okT at h
  unfold tA
  split
  · have := h.1 (by assumption); omega
  · omega
theorem tA_wrt (v : Int) (x : Tp) : tA (wrt v x) = tA x := rfl
theorem tA_flt {zs : Int} {x : Tp} (h : okT zs x) (hz : zs ≤ 40) : tA (flt x) = tA x ∧ bz ((flt x).2.1 < 0) = 0 := by
  have h2 := okT_flt hz h
  refine ⟨?_, bz_f (by omega)⟩
  rw [tA_n (by omega)]
  show (if x.2.1 < 0 then x.1 else x.2.1) = _
  rfl
def sgM (T : Nat → Int) (zs ta : Int) : Int := if zs ≤ ta then -1 else T ta.toNat
theorem sgM_b {T : Nat → Int} {zs ta : Int} (h : txT T) : -1 ≤ sgM T zs ta ∧ sgM T zs ta ≤ 255 := by
  unfold sgM
  split
  · decide
  · have := h ta.toNat; omega
theorem sgM_w {T : Nat → Int} {zs : Int} {x : Tp} (hw : x.2.1 < 0) (hok : okT zs x) (hz : zs ≤ 40) : sgM T zs x.1 = sgn T zs x := by
  have h := hok.1 hw
  unfold sgM sgn
  by_cases q : zs ≤ x.1
  · rw [if_pos q, if_neg (by omega)]
  · rw [if_neg q, if_pos (by omega)]
theorem sgM_t {T : Nat → Int} {zs : Int} {x : Tp} (hw : x.2.1 < 0) (hok : okT zs x) (hz : zs ≤ 40) : sgM T zs (tA x) = sgn T zs x := by rw [tA_w hw]; exact sgM_w hw hok hz
theorem sgn_f {T : Nat → Int} {zs : Int} {x : Tp} (h : ¬ x.2.1 < 0) : sgn T zs x = -1 := by
  unfold sgn
  rw [if_neg (by omega)]
/-- one goes on: so far at least; so much less is written than read -/
def gm (a d : Int) (x y : Tp) : Prop := y.2.1 < 0 → x.2.1 < 0 ∧ x.1 + a ≤ y.1 ∧ x.1 - (x.2.2.length : Int) + d ≤ y.1 - (y.2.2.length : Int)
theorem gm_t {a d a2 d2 : Int} {x y z : Tp} (h : gm a d x y) (h2 : gm a2 d2 y z) : gm (a + a2) (d + d2) x z := by
  intro hz
  have h3 := h2 hz
  have h4 := h h3.1
  exact ⟨h4.1, by omega, by omega⟩
theorem gm_w {a d a2 d2 : Int} {x y : Tp} (h : gm a d x y) (ha : a2 ≤ a) (hd : d2 ≤ d) : gm a2 d2 x y := by
  intro hz
  have h3 := h hz
  exact ⟨h3.1, by omega, by omega⟩
theorem gm_r (x : Tp) : gm 0 0 x x := fun h => ⟨h, by omega, by omega⟩
theorem gm_adv (x : Tp) : gm 1 1 x (adv x) := fun h => ⟨h, Int.le_refl _, by show _ ≤ x.1 + 1 - (x.2.2.length : Int); omega⟩
theorem wrt_l (v : Int) (x : Tp) : ((wrt v x).2.2.length : Int) ≤ (x.2.2.length : Int) + 1 := by
  show ((if x.2.2.length < 40 then x.2.2 ++ [v] else x.2.2).length : Int) ≤ _
  split
  · rw [List.length_append]
    have : ([v] : List Int).length = 1 := rfl
    omega
  · omega
theorem gm_wrt (v : Int) (x : Tp) : gm 0 (-1) x (wrt v x) := fun h => by
  have := wrt_l v x
  exact ⟨h, by show x.1 + 0 ≤ x.1; omega, by show _ ≤ x.1 - ((wrt v x).2.2.length : Int); omega⟩
theorem gm_flt {zs a d : Int} {x : Tp} (h : okT zs x) (hz : zs ≤ 40) : gm a d x (flt x) := fun q => by
  have := (okT_flt hz h).2
  omega
theorem gm_unit {T : Nat → Int} {zs : Int} {x : Tp} (hz : zs ≤ 40) (h : okT zs x) : gm 1 0 x (rUnit T zs x) := by
  unfold rUnit
  split
  · exact gm_t (gm_adv x) (gm_wrt _ _)
  · split
    · split
      · exact gm_w (gm_t (gm_t (gm_adv x) (gm_adv _)) (gm_wrt _ _)) (by decide) (by decide)
      · exact gm_t (gm_adv x) (gm_wrt _ _)
    · exact gm_flt h hz
theorem gm_sumL {T : Nat → Int} {zs : Int} (hz : zs ≤ 40) : ∀ (n : Nat) (x : Tp), okT zs x → gm 0 0 x (rSumL T zs n x)
  | 0, x, _ => gm_r x
  | n + 1, x, h => by
    unfold rSumL
    split
    · have h2 := okT_adv h (T := T) (by omega)
      exact gm_w (gm_t (gm_t (gm_t (gm_adv x) (gm_unit hz h2)) (gm_wrt _ _)) (gm_sumL hz n _ (okT_wrt (okT_unit hz h2) _))) (by decide) (by decide)
    · exact gm_r x
theorem gm_sum {T : Nat → Int} {zs : Int} {x : Tp} (hz : zs ≤ 40) (h : okT zs x) : gm 1 0 x (rSum T zs x) := gm_t (gm_unit hz h) (gm_sumL hz _ _ (okT_unit hz h))
theorem gm_cmp {T : Nat → Int} {zs : Int} {x : Tp} (hz : zs ≤ 40) (h : okT zs x) : gm 1 0 x (rCmp T zs x) := by
  have h1 := gm_sum (T := T) hz h
  have k1 := okT_sum (T := T) hz h
  by_cases q : sgn T zs (rSum T zs x) = 60 ∨ sgn T zs (rSum T zs x) = 61 ∨ sgn T zs (rSum T zs x) = 62
  · rw [rCmp_1 q]
    exact gm_w (gm_t (gm_t (gm_t h1 (gm_adv _)) (gm_sum hz (okT_adv k1 (T := T) (by omega)))) (gm_wrt _ _)) (by decide) (by decide)
  · rw [rCmp_2 q]
    have k2 := okT_flt hz k1
    exact gm_w (gm_t (gm_t (gm_t (gm_t h1 (gm_flt (a := 0) (d := 0) k1 hz)) (gm_adv _)) (gm_sum hz (okT_advF k2.1 k2.2))) (gm_wrt _ _)) (by decide) (by decide)
theorem gm_more {T : Nat → Int} {zs g : Int} {f : Tp → Tp} (hg : g ≠ -1) (hf : ∀ x, okT zs x → okT zs (f x)) (hf2 : ∀ x, okT zs x → gm 1 0 x (f x)) : ∀ (n : Nat) (x : Tp), okT zs x → gm 0 0 x (rMore T zs g f n x)
  | 0, x, _ => gm_r x
  | n + 1, x, h => by
    unfold rMore
    split
    · have h2 := okT_adv h (T := T) (by omega)
      exact gm_w (gm_t (gm_t (gm_t (gm_adv x) (hf2 _ h2)) (gm_wrt _ _)) (gm_more hg hf hf2 n _ (okT_wrt (hf _ h2) _))) (by decide) (by decide)
    · exact gm_r x
theorem gm_and {T : Nat → Int} {zs : Int} {f : Tp → Tp} (hf : ∀ x, okT zs x → okT zs (f x)) (hf2 : ∀ x, okT zs x → gm 1 0 x (f x)) {x : Tp} (h : okT zs x) : gm 1 0 x (rAnd T zs f x) := gm_t (hf2 x h) (gm_more (by decide) hf hf2 _ _ (hf x h))
theorem gm_or {T : Nat → Int} {zs : Int} {f : Tp → Tp} (hf : ∀ x, okT zs x → okT zs (f x)) (hf2 : ∀ x, okT zs x → gm 1 0 x (f x)) {x : Tp} (h : okT zs x) : gm 1 0 x (rOr T zs f x) := gm_t (gm_and hf hf2 h) (gm_more (by decide) (fun x h => okT_and hf h) (fun x h => gm_and hf hf2 h) _ _ (okT_and hf h))
theorem gm_test {T : Nat → Int} {zs : Int} (hz : zs ≤ 40) : ∀ (d : Nat) (x : Tp), okT zs x → gm 1 0 x (rTest T zs d x)
  | 0, x, h => by
    unfold rTest
    split
    · exact gm_flt h hz
    · exact gm_cmp hz h
  | d + 1, x, h => by
    unfold rTest
    split
    · have h2 := okT_adv h (T := T) (by omega)
      exact gm_w (gm_t (gm_t (gm_adv x) (gm_test hz d _ h2)) (gm_wrt _ _)) (by decide) (by decide)
    · split
      · have h2 := okT_adv h (T := T) (by omega)
        have h3 := gm_or (T := T) (f := rTest T zs d) (fun x h => okT_test hz d x h) (fun x h => gm_test hz d x h) h2
        have h4 := okT_or (T := T) (f := rTest T zs d) (fun x h => okT_test hz d x h) h2
        split
        · exact gm_w (gm_t (gm_t (gm_adv x) h3) (gm_adv _)) (by decide) (by decide)
        · exact gm_w (gm_t (gm_t (gm_adv x) h3) (gm_flt (a := 0) (d := 0) h4 hz)) (by decide) (by decide)
      · exact gm_cmp hz h
/-- what is written stands behind -/
theorem evs_w {vo : Int → Int} {x : Tp} {v : Int} (h : x.2.2.length < 40) : evs vo (wrt v x).2.2 = evI vo v (evs vo x.2.2) := by
  show evs vo (if x.2.2.length < 40 then x.2.2 ++ [v] else x.2.2) = _
  rw [if_pos h, evs_ap]
theorem evI_L {vo : Int → Int} {c : Int} {L : List Int64} (h : isL c) : evI vo (-c) L = lI (vo c) :: L := by
  unfold evI
  rw [if_neg (by omega), if_neg (by omega), show - -c = c from by omega, if_pos h]
theorem evI_D {vo : Int → Int} {v : Int} {L : List Int64} (h : 0 ≤ v) : evI vo v L = lI v :: L := if_pos h
theorem evI_B {vo : Int → Int} {c : Int} {f g : Int64} {L : List Int64} (h : 0 < c ∧ c ≠ 33 ∧ ¬ isL c) : evI vo (-c) (g :: f :: L) = joZ c f g :: L := by
  unfold evI
  rw [if_neg (by omega), if_neg (by omega), show - -c = c from by omega, if_neg h.2.2]
  rfl
/-- what holds of x, and of what has been read behind it -/
def mvP (zs : Int) (LE : Nat → Int) (x y : Tp) (v : Int64) : Prop := y.2.1 < 0 → evs (mvo LE) y.2.2 = v :: evs (mvo LE) x.2.2
theorem mU_1 {T : Nat → Int} {zs : Int} {x : Tp} (hw : x.2.1 < 0) (h : isL (sgn T zs x)) : tA (rUnit T zs x) = x.1 + 1 ∧ bz ((rUnit T zs x).2.1 < 0) = 1 := by
  unfold rUnit
  rw [if_pos h]
  exact ⟨if_pos hw, bz_t hw⟩
theorem mU_2 {T : Nat → Int} {zs : Int} {x : Tp} (hw : x.2.1 < 0) (h : ¬ isL (sgn T zs x)) (h2 : isD (sgn T zs x)) (h3 : ¬ isD (sgn T zs (adv x))) : tA (rUnit T zs x) = x.1 + 1 ∧ bz ((rUnit T zs x).2.1 < 0) = 1 := by
  unfold rUnit
  rw [if_neg h, if_pos h2, if_neg h3]
  exact ⟨if_pos hw, bz_t hw⟩
theorem mU_3 {T : Nat → Int} {zs : Int} {x : Tp} (hw : x.2.1 < 0) (h : ¬ isL (sgn T zs x)) (h2 : isD (sgn T zs x)) (h3 : isD (sgn T zs (adv x))) : tA (rUnit T zs x) = x.1 + 1 + 1 ∧ bz ((rUnit T zs x).2.1 < 0) = 1 := by
  unfold rUnit
  rw [if_neg h, if_pos h2, if_pos h3]
  exact ⟨if_pos hw, bz_t hw⟩
theorem mU_4 {T : Nat → Int} {zs : Int} {x : Tp} (hw : x.2.1 < 0) (hok : okT zs x) (hz : zs ≤ 40) (h : ¬ isL (sgn T zs x)) (h2 : ¬ isD (sgn T zs x)) : tA (rUnit T zs x) = x.1 ∧ bz ((rUnit T zs x).2.1 < 0) = 0 := by
  unfold rUnit
  rw [if_neg h, if_neg h2]
  have := tA_flt hok hz
  rwa [tA_w hw] at this
theorem mU_v {T LE : Nat → Int} {zs : Int} {x : Tp} (hl : x.2.2.length < 40) : (isL (sgn T zs x) → mvP zs LE x (rUnit T zs x) (lI (LE (sgn T zs x).toNat))) ∧ (¬ isL (sgn T zs x) → isD (sgn T zs x) → ¬ isD (sgn T zs (adv x)) → mvP zs LE x (rUnit T zs x) (lI (sgn T zs x - 48))) ∧ (¬ isL (sgn T zs x) → isD (sgn T zs x) → isD (sgn T zs (adv x)) → mvP zs LE x (rUnit T zs x) (lI (10 * (sgn T zs x - 48) + sgn T zs (adv x) - 48))) := by
  refine ⟨fun h _ => ?_, fun h h2 h3 _ => ?_, fun h h2 h3 _ => ?_⟩
  · unfold rUnit
    rw [if_pos h, evs_w (x := adv x) hl, evI_L h]
    rfl
  · unfold rUnit
    rw [if_neg h, if_pos h2, if_neg h3, evs_w (x := adv x) hl, evI_D (by omega)]
    rfl
  · unfold rUnit
    rw [if_neg h, if_pos h2, if_pos h3, evs_w (x := adv (adv x)) hl, evI_D (by omega)]
    rfl
theorem rs_1 {T : Nat → Int} {zs : Int} {n : Nat} {y : Tp} (h : sgn T zs y = 43 ∨ sgn T zs y = 45 ∨ sgn T zs y = 42) (hn : 1 ≤ n) : rSumL T zs n y = rSumL T zs (n - 1) (wrt (-(sgn T zs y)) (rUnit T zs (adv y))) := by
  obtain ⟨m, rfl⟩ : ∃ m, n = m + 1 := ⟨n - 1, by omega⟩
  show (if _ then _ else _) = _
  rw [if_pos h]
  rfl
theorem rs_0 {T : Nat → Int} {zs : Int} {y : Tp} (h : ¬ (sgn T zs y = 43 ∨ sgn T zs y = 45 ∨ sgn T zs y = 42)) : ∀ n : Nat, rSumL T zs n y = y
  | 0 => rfl
  | n + 1 => if_neg h
theorem rm_1 {T : Nat → Int} {zs g : Int} {f : Tp → Tp} {n : Nat} {y : Tp} (h : sgn T zs y = g) (hn : 1 ≤ n) : rMore T zs g f n y = rMore T zs g f (n - 1) (wrt (-g) (f (adv y))) := by
  obtain ⟨m, rfl⟩ : ∃ m, n = m + 1 := ⟨n - 1, by omega⟩
  show (if _ then _ else _) = _
  rw [if_pos h]
  rfl
theorem rm_0 {T : Nat → Int} {zs g : Int} {f : Tp → Tp} {y : Tp} (h : ¬ sgn T zs y = g) : ∀ n : Nat, rMore T zs g f n y = y
  | 0 => rfl
  | n + 1 => if_neg h
/-- less is written than read -/
theorem gm_len {a d : Int} {x y : Tp} (h : gm a d x y) (hd : 0 ≤ d) (hx : (x.2.2.length : Int) ≤ x.1) (hy : y.2.1 < 0) : (y.2.2.length : Int) ≤ y.1 := by
  have := h hy
  omega
theorem ms_v {LE : Nat → Int} {zs c : Int} {x y z : Tp} {w w2 w3 : Int64} (hz : z.2.1 < 0 → (z.2.2.length : Int) < 40) (hc : 0 < c ∧ c ≠ 33 ∧ ¬ isL c) (h : mvP zs LE x y w) (h2 : mvP zs LE (adv y) z w2) (hg : gm 0 0 y z) (e : joZ c w w2 = w3) : mvP zs LE x (wrt (-c) z) w3 := by
  intro q
  have q1 : z.2.1 < 0 := q
  have q2 := (hg q1).1
  have hl := hz q1
  have h3 := h q2
  have h4 := h2 q1
  rw [evs_w (by omega), h4]
  show evI (mvo LE) (-c) (w2 :: evs (mvo LE) y.2.2) = _
  rw [h3, evI_B hc, e]
theorem mnot_v {LE : Nat → Int} {zs b : Int} {x z : Tp} (hz : z.2.1 < 0 → (z.2.2.length : Int) < 40) (h : mvP zs LE (adv x) z (lI b)) : mvP zs LE x (wrt (-33) z) (lI (1 - b)) := by
  intro q
  have q1 : z.2.1 < 0 := q
  have hl := hz q1
  rw [evs_w (by omega), h q1]
  show (lI 1 - lI b) :: _ = _
  rw [lI_sub]
  rfl
theorem jo_and {b c v : Int} (hb : b = 0 ∨ b = 1) (hc : c = 0 ∨ c = 1) (h : v = if b ≠ 0 ∧ c ≠ 0 then 1 else 0) : joZ 38 (lI b) (lI c) = lI v := by
  subst h
  rcases hb with rfl | rfl <;> rcases hc with rfl | rfl <;> decide
theorem jo_or {b c v : Int} (hb : b = 0 ∨ b = 1) (hc : c = 0 ∨ c = 1) (h : v = if b ≠ 0 ∨ c ≠ 0 then 1 else 0) : joZ 124 (lI b) (lI c) = lI v := by
  subst h
  rcases hb with rfl | rfl <;> rcases hc with rfl | rfl <;> decide
theorem rUnit_f {T : Nat → Int} {zs : Int} {x : Tp} (h : ¬ x.2.1 < 0) : (rUnit T zs x).2.1 = x.2.1 := by
  unfold rUnit
  rw [sgn_f h, if_neg (by decide), if_neg (by decide)]
  exact if_neg h
theorem rSum_f {T : Nat → Int} {zs : Int} {x : Tp} (h : ¬ x.2.1 < 0) : (rSum T zs x).2.1 = x.2.1 := by
  unfold rSum
  have h2 := rUnit_f (T := T) (zs := zs) h
  rw [rs_0 (by rw [sgn_f (by omega)]; decide), h2]
/-- a comparison that fails -/
theorem mc_f {T : Nat → Int} {zs : Int} {x : Tp} (hz : zs ≤ 40) (hok : okT zs x) (h : ¬ (rSum T zs x).2.1 < 0 ∨ ¬ (sgn T zs (rSum T zs x) = 60 ∨ sgn T zs (rSum T zs x) = 61 ∨ sgn T zs (rSum T zs x) = 62)) : tA (rCmp T zs x) = tA (rSum T zs x) ∧ bz ((rCmp T zs x).2.1 < 0) = 0 := by
  have hs : ¬ (sgn T zs (rSum T zs x) = 60 ∨ sgn T zs (rSum T zs x) = 61 ∨ sgn T zs (rSum T zs x) = 62) := by
    rcases h with h | h
    · rw [sgn_f h]; decide
    · exact h
  have k1 := okT_sum (T := T) hz hok
  have k2 := okT_flt hz k1
  have e : (rCmp T zs x).2.1 = (flt (rSum T zs x)).2.1 := by
    rw [rCmp_2 hs]
    exact rSum_f (x := adv (flt (rSum T zs x))) (by show ¬ (flt (rSum T zs x)).2.1 < 0; omega)
  refine ⟨?_, bz_f (by omega)⟩
  rw [tA_n (by omega), e]
  rfl
theorem jo_60 (f g : Int64) : joZ 60 f g = if f < g then lI 1 else lI 0 := rfl
theorem jo_61 (f g : Int64) : joZ 61 f g = if f = g then lI 1 else lI 0 := rfl
theorem jo_62 (f g : Int64) : joZ 62 f g = if g < f then lI 1 else lI 0 := rfl
