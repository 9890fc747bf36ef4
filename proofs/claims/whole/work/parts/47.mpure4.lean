/-! ===== the reference: texts kept, what holds, many, the drawer ===== -/
abbrev rAY (T : Nat → Int) (tl : Int) : Tp := rOr T tl (rTest T tl 4) tp9
theorem okT_9 {tl : Int} (h : 0 ≤ tl) : okT tl tp9 := ⟨fun _ => ⟨Int.le_refl 0, h⟩, Nat.zero_le _, by decide, by decide⟩
theorem okT_Y {T : Nat → Int} {tl : Int} (h : 0 ≤ tl ∧ tl ≤ 40) : okT tl (rAY T tl) := okT_or (fun x hx => okT_test h.2 4 x hx) (okT_9 h.1)
theorem ra_1 {T : Nat → Int} {tl : Int} (hx : txT T) (h : 0 ≤ tl ∧ tl ≤ 40) (hn : ¬ ((rAY T tl).2.1 < 0 ∧ tA (rAY T tl) = tl)) : (rAll T tl).2.1 = tA (rAY T tl) ∧ 0 ≤ (rAll T tl).2.1 := by
  have hk := okT_Y (T := T) h
  have hb := tA_b hk h.2
  have e : (rAll T tl).2.1 = tA (rAY T tl) := by
    show (if sgn T tl (rAY T tl) = -1 then rAY T tl else flt (rAY T tl)).2.1 = _
    by_cases w : (rAY T tl).2.1 < 0
    · have h1 := hk.1 w
      have h2 : ¬ (rAY T tl).1 = tl := fun q => hn ⟨w, by rw [tA_w w]; exact q⟩
      by_cases q : sgn T tl (rAY T tl) = -1
      · have h3 : sgn T tl (rAY T tl) = T (rAY T tl).1.toNat := if_pos ⟨w, h1.1, by omega, by omega⟩
        have := hx (rAY T tl).1.toNat
        omega
      · rw [if_neg q, tA_w w]
        exact if_pos w
    · rw [sgn_f w, if_pos rfl, tA_n w]
  exact ⟨e, by omega⟩
theorem ra_2 {T : Nat → Int} {tl : Int} (w : (rAY T tl).2.1 < 0) (h : tA (rAY T tl) = tl) : rAll T tl = rAY T tl := by
  show (if sgn T tl (rAY T tl) = -1 then rAY T tl else flt (rAY T tl)) = _
  rw [tA_w w] at h
  have e : sgn T tl (rAY T tl) = -1 := if_neg (by omega)
  rw [if_pos e]
theorem ra_3 {T : Nat → Int} {tl : Int} (h : 0 ≤ tl ∧ tl ≤ 40) (hf : (rAll T tl).2.1 < 0) : rAll T tl = rAY T tl ∧ (rAY T tl).2.1 < 0 := by
  have hk := okT_Y (T := T) h
  by_cases q : sgn T tl (rAY T tl) = -1
  · have e : rAll T tl = rAY T tl := by
      show (if sgn T tl (rAY T tl) = -1 then rAY T tl else flt (rAY T tl)) = _
      rw [if_pos q]
    exact ⟨e, e ▸ hf⟩
  · have e : rAll T tl = flt (rAY T tl) := by
      show (if sgn T tl (rAY T tl) = -1 then rAY T tl else flt (rAY T tl)) = _
      rw [if_neg q]
    have := (okT_flt h.2 hk).2
    rw [e] at hf
    omega
/-- the text of a rule, as it is kept -/
def rtT (RT : Nat → Int) (ru : Int) (j : Nat) : Int := RT ((40 * ru).toNat + j)
/-- a rule of the class has the code of its text -/
def ruE (RT RS : Nat → Int) (ru : Int) (C : Nat → Int) (cn : Nat) : Prop := 0 ≤ RS ru.toNat ∧ RS ru.toNat ≤ 40 ∧ (rAll (rtT RT ru) (RS ru.toNat)).2.1 < 0 ∧ cn = (rAll (rtT RT ru) (RS ru.toNat)).2.2.length ∧ ∀ j : Nat, j < cn → C j = (rAll (rtT RT ru) (RS ru.toNat)).2.2.getD j 0
def leU (LE : Nat → Int) (kd n k r : Int) : Nat → Int := va_up (va_up (va_up (va_up (va_up (va_up LE 114 r) 119 (moZ kd n - r)) 115 (moZ kd n)) 110 n) 107 k) 112 kd
theorem leU_e (LE : Nat → Int) (kd n k r : Int) (z : Int) (h : isL z) : voZ z kd n k r = mvo (leU LE kd n k r) z := by
  rcases h with h | h | h | h | h | h <;> subst h <;> rfl
theorem leU_b {LE : Nat → Int} {kd n k r : Int} (hv : okP kd n k) (hk : rI k) (hr : 0 ≤ r ∧ r ≤ moZ kd n) (hk2 : 0 ≤ k ∧ k ≤ 100) (h : ∀ j : Nat, 0 ≤ LE j ∧ LE j ≤ 100) : ∀ j : Nat, 0 ≤ leU LE kd n k r j ∧ leU LE kd n k r j ≤ 100 := by
  have hm := moZ_b hv
  unfold okP at hv
  intro j
  have up : ∀ (F : Nat → Int) (i : Nat) (v : Int), (0 ≤ F j ∧ F j ≤ 100) → (0 ≤ v ∧ v ≤ 100) → 0 ≤ va_up F i v j ∧ va_up F i v j ≤ 100 := fun F i v h1 h2 => by
    by_cases q : j = i
    · subst q; rw [va_up_self]; exact h2
    · rw [va_up_ne _ _ q]; exact h1
  unfold leU
  exact up _ _ _ (up _ _ _ (up _ _ _ (up _ _ _ (up _ _ _ (up _ _ _ (h j) (by omega)) (by omega)) (by omega)) (by omega)) hk2) (by omega)
theorem hl_v {RT RS C LE : Nat → Int} {ru kd n k r v : Int} {cn : Nat} (hr : ruE RT RS ru C cn) (hv : v = 0 ∨ v = 1) (h : (rAY (rtT RT ru) (RS ru.toNat)).2.1 < 0 → evs (mvo (leU LE kd n k r)) (rAY (rtT RT ru) (RS ru.toNat)).2.2 = [lI v]) : v = bz (ppV (evL C cn (fun z => voZ z kd n k r) cn) = lI 1) := by
  obtain ⟨h1, h2, h3, h4, h5⟩ := hr
  obtain ⟨e, w⟩ := ra_3 ⟨h1, h2⟩ h3
  rw [e] at h4 h5
  have h6 := (evL_s (vo := fun z => voZ z kd n k r) (fun z hz => leU_e LE kd n k r z hz) h4 h5 cn (Nat.le_refl _)).1
  rw [h6, h4, List.take_length, h w]
  show v = bz (lI v = lI 1)
  rcases hv with rfl | rfl <;> decide
theorem rt_0 (RT TM : Nat → Int) (nr : Int) : RT = fun j : Nat => if 40 * nr ≤ (j : Int) ∧ (j : Int) < 40 * nr + 0 then TM ((j : Int) - 40 * nr).toNat else RT j := by
  funext j
  rw [if_neg (by omega)]
def rtU (RT TM : Nat → Int) (nr i : Int) : Nat → Int := fun j : Nat => if 40 * nr ≤ (j : Int) ∧ (j : Int) < 40 * nr + i then TM ((j : Int) - 40 * nr).toNat else RT j
theorem rt_1 {RT TM R2 : Nat → Int} {nr i : Int} (hi : 0 ≤ i ∧ 0 ≤ nr) (h : R2 = rtU RT TM nr i) : va_up R2 (40 * nr + i).toNat (TM i.toNat) = rtU RT TM nr (i + 1) := by
  funext j
  unfold rtU
  by_cases q : j = (40 * nr + i).toNat
  · subst q
    rw [va_up_self, if_pos (by omega)]
    congr 1
    omega
  · rw [va_up_ne _ _ q, h]
    unfold rtU
    by_cases q2 : 40 * nr ≤ (j : Int) ∧ (j : Int) < 40 * nr + i
    · rw [if_pos q2, if_pos (by omega)]
    · rw [if_neg q2, if_neg (by omega)]
theorem mhb_1 {C : Nat → Int} {cn : Nat} {kd n k i z x : Int} {f : Nat → Int} (hi : 0 ≤ i) (hs : scE kd n z (hbS C cn kd n k f i.toNat)) (hx : scE kd n x (f i.toNat)) (h1 : ppV (evL C cn (fun z => voZ z kd n k i) cn) = lI 1) : scE kd n (z + x) (hbS C cn kd n k f (i + 1).toNat) := by
  rw [show (i + 1).toNat = i.toNat + 1 from by omega]
  show scE kd n (z + x) (hbS C cn kd n k f i.toNat + (if f i.toNat ≠ 0 ∧ ppV (evL C cn (fun z => voZ z kd n k (i.toNat : Int)) cn) = lI 1 then f i.toNat else 0))
  rw [show ((i.toNat : Nat) : Int) = i from by omega]
  by_cases q : f i.toNat = 0
  · rw [if_neg (fun y => y.1 q), ← q]
    exact sc_add hs hx
  · rw [if_pos ⟨q, h1⟩]
    exact sc_add hs hx
theorem mhb_0 {C : Nat → Int} {cn : Nat} {kd n k i z : Int} {f : Nat → Int} (hi : 0 ≤ i) (hs : scE kd n z (hbS C cn kd n k f i.toNat)) (h1 : ¬ ppV (evL C cn (fun z => voZ z kd n k i) cn) = lI 1) : scE kd n (z + 0) (hbS C cn kd n k f (i + 1).toNat) := by
  rw [show (i + 1).toNat = i.toNat + 1 from by omega]
  show scE kd n (z + 0) (hbS C cn kd n k f i.toNat + (if f i.toNat ≠ 0 ∧ ppV (evL C cn (fun z => voZ z kd n k (i.toNat : Int)) cn) = lI 1 then f i.toNat else 0))
  rw [show ((i.toNat : Nat) : Int) = i from by omega, if_neg (fun y => h1 y.2), Int.add_zero, Int.add_zero]
  exact hs
theorem mny {a b : Int} (hb : 0 < b) : (b - a).tdiv (gcI a b) = pO a b 1 - pO a b 0 := by
  have hg := gcI_pos (a := a) (b := b) (by omega)
  obtain ⟨x, hx⟩ := gcI_dl a b
  obtain ⟨y, hy⟩ := gcI_dr a b
  rw [← pO_1 hb, ← pO_0 hb]
  generalize gcI a b = g at *
  rw [hx, hy, ← Int.mul_sub, Int.mul_tdiv_cancel_left _ (by omega), Int.mul_tdiv_cancel_left _ (by omega), Int.mul_tdiv_cancel_left _ (by omega)]
theorem va_up_id {F : Nat → Int} {k : Nat} {v : Int} (h : F k = v) : va_up F k v = F := by
  funext j
  by_cases q : j = k
  · subst q; rw [va_up_self, h]
  · rw [va_up_ne _ _ q]
/-- the sittings in the reference -/
def msT (ns : Int) (SP SR SM : Nat → Int) : Prop := ∀ i : Nat, (i : Int) < ns → rI (SP i) ∧ (0 ≤ SR i ∧ SR i ≤ 12) ∧ (SM i = 0 ∨ SM i = 1)
theorem ms_b {x ns : Int} {sp sr st : Nat → Int} (hn : 0 ≤ ns ∧ ns ≤ 30) (h : msT ns sp sr st) : (0 ≤ sgS x sp ns.toNat ∧ sgS x sp ns.toNat ≤ 30) ∧ (0 ≤ stS x sp st ns.toNat ∧ stS x sp st ns.toNat ≤ sgS x sp ns.toNat) ∧ 0 ≤ srS x sp sr st ns.toNat ∧ srS x sp sr st ns.toNat ≤ 360 := by
  have h1 := su_bd (f := fun i => if sp i = x then 1 else 0) (c := 1) (n := ns.toNat) (fun j _ => by split <;> omega)
  have h2 := su_nn (f := fun i => if st i ≠ 0 ∧ sp i = x then (1 : Int) else 0) (n := ns.toNat) (fun j _ => by split <;> omega)
  have h3 := su_le (f := fun i => if st i ≠ 0 ∧ sp i = x then (1 : Int) else 0) (g := fun i => if sp i = x then 1 else 0) (n := ns.toNat) (fun j _ => by split <;> split <;> omega)
  have h4 := su_bd (f := fun i => if st i ≠ 0 ∧ sp i = x then sr i else 0) (c := 12) (n := ns.toNat) (fun j hj => by have := (h j (by omega)).2.1; split <;> omega)
  unfold sgS stS srS
  exact ⟨⟨h1.1, by omega⟩, ⟨h2, h3⟩, h4.1, by omega⟩
def tdS (SM : Nat → Int) (n : Nat) : Int := su (fun i => if SM i ≠ 0 then 1 else 0) n
/-- bytes, as the reference shifts -/
theorem sh_c (x : BitVec 64) (m : Nat) (h : m ≤ 56) : x.sshiftRight m &&& 255#64 = x >>> m &&& 255#64 := by
  apply BitVec.eq_of_getLsbD_eq
  intro i hi
  have e : ∀ j : Fin 64, (255#64).getLsbD j.1 = decide (j.1 < 8) := by decide
  rw [BitVec.getLsbD_and, BitVec.getLsbD_and, e ⟨i, hi⟩]
  by_cases q : i < 8
  · rw [BitVec.getLsbD_sshiftRight, BitVec.getLsbD_ushiftRight]
    rw [if_pos (by omega : m + i < 64), decide_eq_false (by omega : ¬ 64 ≤ i)]
    simp
  · simp [q]
theorem by8_s (bb : Int64) {i : Int} (hi : 0 ≤ i ∧ i < 8) : bb >>> ((iI (8 * i)).toInt64 &&& 63) &&& lI 255 = (bb.toUInt64 >>> ((iI (8 * i)).toInt64.toUInt64 &&& Int64.toUInt64 63)).toInt64 &&& lI 255 := by
  have e : i = 0 ∨ i = 1 ∨ i = 2 ∨ i = 3 ∨ i = 4 ∨ i = 5 ∨ i = 6 ∨ i = 7 := by omega
  apply Int64.toBitVec_inj.mp
  rcases e with h | h | h | h | h | h | h | h <;> subst h
  · exact sh_c bb.toBitVec 0 (by decide)
  · exact sh_c bb.toBitVec 8 (by decide)
  · exact sh_c bb.toBitVec 16 (by decide)
  · exact sh_c bb.toBitVec 24 (by decide)
  · exact sh_c bb.toBitVec 32 (by decide)
  · exact sh_c bb.toBitVec 40 (by decide)
  · exact sh_c bb.toBitVec 48 (by decide)
  · exact sh_c bb.toBitVec 56 (by decide)
