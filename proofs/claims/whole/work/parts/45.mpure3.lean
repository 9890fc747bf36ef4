/-! ===== the reference: lines, looking well, gains ===== -/
theorem il_1 {v b q : Int} (h : b.tmod 1000 = 0) : v ≤ q * b.tdiv 1000 ↔ 1000 * v ≤ b * q := by
  have e := Int.mul_tdiv_add_tmod b 1000
  rw [h, Int.add_zero] at e
  have e2 : b * q = 1000 * (q * b.tdiv 1000) := by
    rw [show b * q = (1000 * b.tdiv 1000) * q from by rw [e]]
    ac_rfl
  rw [e2]
  omega
theorem ij_1 {v b q : Int} (h : b.tmod 1000 = 0) : v = q * b.tdiv 1000 ↔ 1000 * v = b * q := by
  have e := Int.mul_tdiv_add_tmod b 1000
  rw [h, Int.add_zero] at e
  have e2 : b * q = 1000 * (q * b.tdiv 1000) := by
    rw [show b * q = (1000 * b.tdiv 1000) * q from by rw [e]]
    ac_rfl
  rw [e2]
  omega
theorem il_2 {v b q : Int} : v * 1000 ≤ q * b ↔ 1000 * v ≤ b * q := by rw [Int.mul_comm q b]; omega
theorem ij_2 {v b q : Int} : v * 1000 = q * b ↔ 1000 * v = b * q := by rw [Int.mul_comm q b]; omega
theorem il_b {q x : Int} (hq : 0 ≤ q ∧ q ≤ 1000) (hx : 0 ≤ x) : 0 ≤ q * x ∧ q * x ≤ 1000 * x := ⟨Int.mul_nonneg hq.1 hx, Int.mul_le_mul_of_nonneg_right hq.2 hx⟩
theorem td_1000 {b : Int} (hb : 1 ≤ b) : 0 ≤ b.tdiv 1000 ∧ 1000 * b.tdiv 1000 ≤ b ∧ b.tmod 1000 = b % 1000 := by
  rw [Int.tdiv_eq_ediv_of_nonneg (by omega), Int.tmod_eq_emod_of_nonneg (by omega)]
  omega
/-- what a line needs of the lower number and the ends -/
def lfP (bl : Int) (F : Nat → Int) : Prop := 1 ≤ bl ∧ bl ≤ 27720000000000000 ∧ (bl % 1000 = 0 ∨ bl ≤ 100) ∧ ∀ i : Nat, 0 ≤ tlS F i ∧ tlS F i ≤ bl
theorem lf_p {kd n k a : Int} {F : Nat → Int} (hv : okP kd n k) (ha : 0 ≤ a ∧ a ≤ 10) (h : scF kd n F (csZ kd n k a)) : lfP (mbZ kd n) F := by
  have hb := mb_b hv
  exact ⟨hb.1, hb.2.1, hb.2.2.2.2.2.2.2, fun i => sc_b hv (sc_tl h i) (tl_b hv ha i)⟩
theorem ln_1 {f : Nat → Bool} {li : Int} {X : Nat} (h0 : 0 < li) (hs : X = lnF f li.toNat) (h : f (li - 1).toNat = true) : X = lnF f (li + (-1)).toNat := by
  rw [hs, show li.toNat = (li - 1).toNat + 1 from by omega, show (li + (-1)).toNat = (li - 1).toNat from by omega]
  show (if f (li - 1).toNat = true then _ else _) = _
  rw [if_pos h]
theorem ln_0 {f : Nat → Bool} {li : Int} {X : Nat} (h0 : 0 < li) (hs : X = lnF f li.toNat) (h : ¬ f (li - 1).toNat = true) : li = (X : Int) := by
  rw [hs, show li.toNat = (li - 1).toNat + 1 from by omega]
  show _ = ((if f (li - 1).toNat = true then _ else _ : Nat) : Int)
  rw [if_neg h]
  omega
theorem sc_ln {kd n k : Int} {F f : Nat → Int} (hv : okP kd n k) (h : scF kd n F f) (q : Int) (X : Nat) : lnF (fun i => decide (1000 * tlS F i ≤ mbZ kd n * q)) X = lnF (fun i => decide (1000 * tlS f i ≤ alZ kd n * q)) X := by
  refine ln_congr (fun i => ?_) X
  refine decide_eq_decide.mpr ?_
  rw [Int.mul_comm (mbZ kd n) q, Int.mul_comm (alZ kd n) q]
  exact sc_le hv (sc_mul 1000 (sc_tl h i)) (sc_mul q (sc_mb hv))
theorem cs_kk (kd n a : Int) (j : Nat) : csZ kd n (n.tdiv 2) a j = csZ kd n (kkZ kd n) a j ∨ kd = 4 := by
  unfold kkZ
  by_cases h : kd = 1
  · rw [if_pos h]; exact Or.inl rfl
  · rw [if_neg h]
    by_cases h4 : kd = 4
    · exact Or.inr h4
    · refine Or.inl ?_
      unfold csZ
      rw [if_neg h, if_neg h, if_neg h4, if_neg h4]
theorem kk_ok2 {kd n : Int} (hk : 0 ≤ kd ∧ kd ≤ 3) (hn : fwN kd ≤ n ∧ n ≤ mwN kd) : okP kd n (n.tdiv 2) ∧ rI (n.tdiv 2) ∧ 1 ≤ n ∧ n ≤ 12 ∧ moZ kd n = n := by
  have h := kk_ok hk hn
  have h2 := td2 (n := n) (by omega)
  refine ⟨?_, by omega, h.2.2.1, h.2.2.2, ?_⟩
  · have h3 := h.1
    unfold okP kkZ at h3
    unfold okP
    by_cases q : kd = 1
    · rw [if_pos q] at h3; exact h3
    · omega
  · unfold moZ
    rw [if_neg (by omega)]
theorem kk_cs {kd n a : Int} {F : Nat → Int} (hk : 0 ≤ kd ∧ kd ≤ 3) (h : scF kd n F (csZ kd n (n.tdiv 2) a)) : scF kd n F (csZ kd n (kkZ kd n) a) := by
  intro j hj
  rcases cs_kk kd n a j with e | e
  · rw [← e]; exact h j hj
  · omega
theorem rch {kd n k x y t : Int} (hv : okP kd n k) (h : scE kd n x y) : (mbZ kd n * t ≤ 1000 * x) ↔ (alZ kd n * t ≤ 1000 * y) := by
  rw [Int.mul_comm (mbZ kd n) t, Int.mul_comm (alZ kd n) t]
  exact sc_le hv (sc_mul t (sc_mb hv)) (sc_mul 1000 h)
theorem to_m {kd n k a : Int} {F : Nat → Int} (hv : okP kd n k) (ha : 0 ≤ a ∧ a ≤ 10) (h : scF kd n F (csZ kd n k a)) : 0 ≤ toS F ∧ toS F ≤ 12 * mbZ kd n := by
  have h1 := sc_to h
  have h2 := to_b hv ha
  exact ⟨(sc_le hv (sc_0 kd n) h1).mpr h2.1, (sc_le hv h1 (sc_mul 12 (sc_mb hv))).mpr h2.2⟩
theorem al_10 {n k : Int} (hv : okP 1 n k) : 10 * (alZ 1 n).tdiv 10 = alZ 1 n := by
  unfold okP at hv
  have e : n = 2 ∨ n = 3 ∨ n = 4 ∨ n = 5 ∨ n = 6 ∨ n = 7 ∨ n = 8 ∨ n = 9 ∨ n = 10 ∨ n = 11 ∨ n = 12 := by omega
  rcases e with h | h | h | h | h | h | h | h | h | h | h <;> subst h <;> decide +kernel
theorem gn_e {kd n k a q x y : Int} (hv : okP kd n k) (h1 : kd = 1) (h : scE kd n x y) : pO (10 * x - n * a * mbZ kd n) (10 * mbZ kd n) q = pO (y - (alZ kd n).tdiv 10 * a * n) (alZ kd n) q := by
  subst h1
  have hm := mb_b hv
  have ha := al_b hv
  rw [sc_pO hv (sc_sub (sc_mul 10 h) (sc_mul (n * a) (sc_mb hv))) (sc_mul 10 (sc_mb hv)) (by omega) (by omega)]
  have e : 10 * y - n * a * alZ 1 n = 10 * (y - (alZ 1 n).tdiv 10 * a * n) := by
    rw [Int.mul_sub]
    congr 1
    rw [show 10 * ((alZ 1 n).tdiv 10 * a * n) = n * a * (10 * (alZ 1 n).tdiv 10) from by ac_rfl, al_10 hv]
  rw [e, pO_mul (by decide) (by omega)]
theorem gn_r {n a b : Int} (hn : 1 ≤ n ∧ n ≤ 12) (ha : 0 ≤ a ∧ a ≤ 10) (hb : 1 ≤ b) : 0 ≤ n * a ∧ n * a ≤ 120 ∧ 0 ≤ n * a * b ∧ n * a * b ≤ 120 * b := by
  have h1 : 0 ≤ n * a := Int.mul_nonneg (by omega) ha.1
  have h2 : n * a ≤ 12 * 10 := Int.mul_le_mul hn.2 ha.2 ha.1 (by decide)
  exact ⟨h1, h2, Int.mul_nonneg h1 (by omega), Int.mul_le_mul_of_nonneg_right h2 (by omega)⟩
theorem bl_e {kd n k x y c d e f q : Int} (hv : okP kd n k) (h1 : scE kd n c d) (h2 : scE kd n e f) (hb : 0 < y * e + x * c) (hd : 0 < x * d + y * f) : pO (y * e) (y * e + x * c) q = pO (y * f) (x * d + y * f) q := by
  rw [Int.add_comm (x * d)] at hd ⊢
  exact sc_pO hv (sc_mul y h2) (sc_add (sc_mul y h2) (sc_mul x h1)) hb hd q
theorem bl_z {kd n k x y c d e f : Int} (hv : okP kd n k) (h1 : scE kd n c d) (h2 : scE kd n e f) : y * e + x * c = 0 ↔ x * d + y * f = 0 := by
  rw [Int.add_comm (x * d)]
  exact sc_z hv (sc_add (sc_mul y h2) (sc_mul x h1))
/-! looking well: right less the others, by how many are right -/
def mcI (i : Int) (r : Nat) : Nat := (12 + 2 * (r : Int) - i).toNat
def spI (i : Int) (A : Nat → Int) : Prop := ∀ t : Nat, (∀ r : Nat, (r : Int) ≤ i → (t : Int) ≠ 12 + 2 * (r : Int) - i) → A t = 0
theorem spI_ts {A : Nat → Int} {a i : Int} (h : spI i A) : spI (i + 1) (tsT A a 25) := by
  intro t ht
  unfold tsT
  have h1 : 1 ≤ t → A (t - 1) = 0 := fun q => h (t - 1) (fun r hr e => ht (r + 1) (by omega) (by omega))
  have h2 : A (t + 1) = 0 := h (t + 1) (fun r hr e => ht r (by omega) (by omega))
  rw [h2, Int.zero_mul, ite_self, Int.add_zero]
  by_cases q : 1 ≤ t ∧ t ≤ 25
  · rw [if_pos q, h1 q.1, Int.zero_mul]
  · rw [if_neg q]
theorem spI_ct {A : Nat → Int} {d i : Int} (h : spI i A) : spI i (ctT A d) := by
  intro t ht
  unfold ctT
  rw [h t ht, ite_self]
theorem su_pc {A : Nat → Int} {i : Int} (hi : 0 ≤ i ∧ i ≤ 12) (h : spI i A) : su A 25 = su (fun r => A (mcI i r)) (i + 1).toNat := by
  have e1 : ∀ t : Nat, t < 25 → A t = su (fun r => if t = mcI i r then A (mcI i r) else 0) (i + 1).toNat := by
    intro t ht
    by_cases q : ∃ r0 : Nat, (r0 : Int) ≤ i ∧ (t : Int) = 12 + 2 * (r0 : Int) - i
    · obtain ⟨r0, hr, e⟩ := q
      have e2 : ∀ r : Nat, r < (i + 1).toNat → (if t = mcI i r then A (mcI i r) else 0) = if r = r0 then A t else 0 := by
        intro r _
        unfold mcI
        by_cases z : r = r0
        · subst z
          rw [if_pos (by omega), if_pos rfl]
          congr 1
          omega
        · rw [if_neg (by omega), if_neg z]
      rw [su_congr e2, su_pt, if_pos (by omega)]
    · have h0 : A t = 0 := h t (fun r hr e => q ⟨r, hr, e⟩)
      rw [h0]
      refine (su_z (fun r hr => ?_)).symm
      by_cases z : t = mcI i r
      · rw [if_pos z, ← z, h0]
      · rw [if_neg z]
  rw [su_congr e1, su_swap]
  refine su_congr (fun r hr => ?_)
  show su (fun t => if t = mcI i r then A (mcI i r) else 0) 25 = _
  rw [su_pt, if_pos (by unfold mcI; omega)]
def mstZ (A : Nat → Int) (d i : Int) (r : Nat) : Int := if d ≤ 2 * (r : Int) - i then A (mcI i r) else 0
theorem sp_mst {A : Nat → Int} {d i : Int} (hi : 0 ≤ i ∧ i ≤ 12) (hd : 1 ≤ d ∧ d ≤ 12) (h : spI i A) : spS A d = su (mstZ A d i) (i + 1).toNat := by
  have h1 := spS_ct (A := A) hd
  have h2 := su_pc hi h
  have h3 := su_pc (A := ctT A d) hi (spI_ct (d := d) h)
  have h4 : su (fun r => A (mcI i r)) (i + 1).toNat = su (fun r => ctT A d (mcI i r)) (i + 1).toNat + su (mstZ A d i) (i + 1).toNat := by
    rw [← su_add]
    refine su_congr (fun r hr => ?_)
    show A (mcI i r) = (if ((mcI i r : Nat) : Int) < 12 + d then A (mcI i r) else 0) + (if d ≤ 2 * (r : Int) - i then A (mcI i r) else 0)
    have e : ((mcI i r : Nat) : Int) = 12 + 2 * (r : Int) - i := by unfold mcI; omega
    rw [e]
    by_cases q : d ≤ 2 * (r : Int) - i
    · rw [if_pos q, if_neg (by omega)]; omega
    · rw [if_neg q, if_pos (by omega)]; omega
  omega
/-- the reference's row after i cups -/
def mgP (A G : Nat → Int) (i : Int) : Prop := (∀ r : Nat, (r : Int) ≤ i → G r = A (mcI i r)) ∧ ∀ r : Nat, i < (r : Int) → r < 13 → G r = 0
theorem mg_0 {st d a : Int} {G : Nat → Int} (h : ∀ j : Nat, (j : Int) < 13 → G j = 0) : mgP (lkS st d a (0 : Int).toNat).1 (va_up G 0 1) 0 ∧ spI 0 (lkS st d a (0 : Int).toNat).1 := by
  refine ⟨⟨fun r hr => ?_, fun r hr h2 => ?_⟩, fun t ht => ?_⟩
  · have : r = 0 := by omega
    subst this
    rw [va_up_self]
    rfl
  · rw [va_up_ne _ _ (by omega)]; exact h r (by omega)
  · show (if t = 12 then (1 : Int) else 0) = 0
    rw [if_neg (fun e => ht 0 (by omega) (by omega))]
/-- one row on, from the top down -/
theorem mg_s {A G F : Nat → Int} {a i r : Int} (hi : 1 ≤ i ∧ i ≤ 12) (hr : 0 ≤ r ∧ r ≤ i) (hG : mgP A G (i - 1)) (hs : spI (i - 1) A) (h1 : ∀ t : Nat, r < (t : Int) → (t : Int) ≤ i → F t = tsT A a 25 (mcI i t)) (h2 : ∀ t : Nat, (t : Int) ≤ r → F t = G t) (h3 : ∀ t : Nat, i < (t : Int) → t < 13 → F t = 0) {x : Int} (hx : x = F r.toNat * (10 - a) + (if 0 < r then F (r - 1).toNat * a else 0)) : (∀ t : Nat, r + (-1) < (t : Int) → (t : Int) ≤ i → va_up F r.toNat x t = tsT A a 25 (mcI i t)) ∧ (∀ t : Nat, (t : Int) ≤ r + (-1) → va_up F r.toNat x t = G t) ∧ (∀ t : Nat, i < (t : Int) → t < 13 → va_up F r.toNat x t = 0) := by
  refine ⟨fun t ht ht2 => ?_, fun t ht => ?_, fun t ht ht2 => ?_⟩
  · by_cases q : t = r.toNat
    · subst q
      rw [va_up_self, hx, h2 r.toNat (by omega)]
      unfold tsT
      have e1 : (if mcI i r.toNat + 1 < 25 then A (mcI i r.toNat + 1) * (10 - a) else 0) = G r.toNat * (10 - a) := by
        by_cases z : r ≤ i - 1
        · rw [if_pos (by unfold mcI; omega), hG.1 r.toNat (by omega)]
          congr 2
          unfold mcI
          omega
        · rw [hG.2 r.toNat (by omega) (by omega), Int.zero_mul]
          have e0 : A (mcI i r.toNat + 1) = 0 := hs _ (fun t ht e => by unfold mcI at e; omega)
          rw [e0, Int.zero_mul, ite_self]
      have e2 : (if 1 ≤ mcI i r.toNat ∧ mcI i r.toNat ≤ 25 then A (mcI i r.toNat - 1) * a else 0) = if 0 < r then F (r - 1).toNat * a else 0 := by
        by_cases z : 0 < r
        · rw [if_pos z, if_pos (by unfold mcI; omega), h2 (r - 1).toNat (by omega), hG.1 (r - 1).toNat (by omega)]
          congr 2
          unfold mcI
          omega
        · rw [if_neg z]
          by_cases y : 1 ≤ mcI i r.toNat
          · have e0 : A (mcI i r.toNat - 1) = 0 := hs _ (fun t ht e => by unfold mcI at e y; omega)
            rw [e0, Int.zero_mul, ite_self]
          · rw [if_neg (by omega)]
      rw [e1, e2, Int.add_comm]
    · rw [va_up_ne _ _ q]; exact h1 t (by omega) ht2
  · rw [va_up_ne _ _ (by omega)]; exact h2 t (by omega)
  · rw [va_up_ne _ _ (by omega)]; exact h3 t ht ht2
theorem mg_1 {st d a i sm n : Int} {F : Nat → Int} (hi : 1 ≤ i ∧ i ≤ n ∧ n ≤ 12) (hb : bitZ st (i - 1) ≠ 1) (hs : spI (i - 1) (lkS st d a (i - 1).toNat).1) (hm : sm = (lkS st d a (i - 1).toNat).2 * 10 ^ (n - (i - 1)).toNat) (h1 : ∀ t : Nat, -1 < (t : Int) → (t : Int) ≤ i → F t = tsT (lkS st d a (i - 1).toNat).1 a 25 (mcI i t)) (h3 : ∀ t : Nat, i < (t : Int) → t < 13 → F t = 0) : mgP (lkS st d a i.toNat).1 F i ∧ spI i (lkS st d a i.toNat).1 ∧ sm = (lkS st d a i.toNat).2 * 10 ^ (n - i).toNat := by
  have e : lkS st d a i.toNat = (tsT (lkS st d a (i - 1).toNat).1 a 25, (lkS st d a (i - 1).toNat).2 * 10) := by
    rw [show i.toNat = (i - 1).toNat + 1 from by omega]
    show (if bitZ st ((i - 1).toNat : Int) = 1 then _ else _) = _
    rw [show (((i - 1).toNat : Nat) : Int) = i - 1 from by omega, if_neg hb]
  rw [e]
  refine ⟨⟨fun r hr => h1 r (by omega) hr, h3⟩, ?_, ?_⟩
  · have := spI_ts (a := a) hs
    rwa [show i - 1 + 1 = i from by omega] at this
  · show sm = (lkS st d a (i - 1).toNat).2 * 10 * 10 ^ (n - i).toNat
    rw [hm, show (n - (i - 1)).toNat = (n - i).toNat + 1 from by omega, Int.pow_succ]
    ac_rfl
/-- those who stop are taken out -/
theorem mg_c {A F F0' : Nat → Int} {d i r : Int} (hr : 0 ≤ r) (h1 : ∀ t : Nat, (t : Int) < r → F t = ctT A d (mcI i t)) (h2 : ∀ t : Nat, r ≤ (t : Int) → F t = F0' t) {x : Int} (hx : x = ctT A d (mcI i r.toNat)) : (∀ t : Nat, (t : Int) < r + 1 → va_up F r.toNat x t = ctT A d (mcI i t)) ∧ (∀ t : Nat, r + 1 ≤ (t : Int) → va_up F r.toNat x t = F0' t) := by
  refine ⟨fun t ht => ?_, fun t ht => ?_⟩
  · by_cases q : t = r.toNat
    · rw [q, va_up_self, hx]
    · rw [va_up_ne _ _ q]; exact h1 t (by omega)
  · rw [va_up_ne _ _ (by omega)]; exact h2 t (by omega)
theorem mg_n {A F F0' : Nat → Int} {d i r : Int} (hr : 0 ≤ r) (h1 : ∀ t : Nat, (t : Int) < r → F t = ctT A d (mcI i t)) (h2 : ∀ t : Nat, r ≤ (t : Int) → F t = F0' t) (hx : F0' r.toNat = ctT A d (mcI i r.toNat)) : (∀ t : Nat, (t : Int) < r + 1 → F t = ctT A d (mcI i t)) ∧ (∀ t : Nat, r + 1 ≤ (t : Int) → F t = F0' t) := by
  refine ⟨fun t ht => ?_, fun t ht => h2 t (by omega)⟩
  by_cases q : t = r.toNat
  · rw [q, h2 r.toNat (by omega), hx]
  · exact h1 t (by omega)
theorem mst_1 {A : Nat → Int} {d i r z sm w x : Int} (hr : 0 ≤ r) (h : z = sm + su (mstZ A d i) r.toNat * w) (hc : d ≤ 2 * r - i) (hx : x = A (mcI i r.toNat)) : z + x * w = sm + su (mstZ A d i) (r + 1).toNat * w := by
  rw [show (r + 1).toNat = r.toNat + 1 from by omega]
  show _ = sm + (su (mstZ A d i) r.toNat + mstZ A d i r.toNat) * w
  unfold mstZ
  rw [show ((r.toNat : Nat) : Int) = r from by omega, if_pos hc, Int.add_mul, ← hx]
  unfold mstZ at h
  omega
theorem mst_0 {A : Nat → Int} {d i r z sm w : Int} (hr : 0 ≤ r) (h : z = sm + su (mstZ A d i) r.toNat * w) (hc : 2 * r - i < d) : z = sm + su (mstZ A d i) (r + 1).toNat * w := by
  rw [show (r + 1).toNat = r.toNat + 1 from by omega]
  show _ = sm + (su (mstZ A d i) r.toNat + mstZ A d i r.toNat) * w
  have e : mstZ A d i r.toNat = 0 := by unfold mstZ; rw [show ((r.toNat : Nat) : Int) = r from by omega, if_neg (by omega)]
  rw [e, Int.add_zero]
  exact h
theorem mg_2 {st d a i sm z n : Int} {F : Nat → Int} (hi : 1 ≤ i ∧ i ≤ n ∧ n ≤ 12) (hd : 1 ≤ d ∧ d ≤ 12) (hb : bitZ st (i - 1) = 1) (hs : spI (i - 1) (lkS st d a (i - 1).toNat).1) (hm : sm = (lkS st d a (i - 1).toNat).2 * 10 ^ (n - (i - 1)).toNat) (hz : z = sm + su (mstZ (tsT (lkS st d a (i - 1).toNat).1 a 25) d i) (i + 1).toNat * 10 ^ (n - i).toNat) (h1 : ∀ t : Nat, (t : Int) < i + 1 → F t = ctT (tsT (lkS st d a (i - 1).toNat).1 a 25) d (mcI i t)) (h3 : ∀ t : Nat, i < (t : Int) → t < 13 → F t = 0) : mgP (lkS st d a i.toNat).1 F i ∧ spI i (lkS st d a i.toNat).1 ∧ z = (lkS st d a i.toNat).2 * 10 ^ (n - i).toNat := by
  have e : lkS st d a i.toNat = (ctT (tsT (lkS st d a (i - 1).toNat).1 a 25) d, (lkS st d a (i - 1).toNat).2 * 10 + spS (tsT (lkS st d a (i - 1).toNat).1 a 25) d) := by
    rw [show i.toNat = (i - 1).toNat + 1 from by omega]
    show (if bitZ st ((i - 1).toNat : Int) = 1 then _ else _) = _
    rw [show (((i - 1).toNat : Nat) : Int) = i - 1 from by omega, if_pos hb]
  have hs2 := spI_ts (a := a) hs
  rw [show i - 1 + 1 = i from by omega] at hs2
  rw [e]
  refine ⟨⟨fun r hr => h1 r (by omega), h3⟩, spI_ct hs2, ?_⟩
  show z = ((lkS st d a (i - 1).toNat).2 * 10 + spS _ d) * 10 ^ (n - i).toNat
  rw [hz, hm, sp_mst (by omega) hd hs2, show (n - (i - 1)).toNat = (n - i).toNat + 1 from by omega, Int.pow_succ, Int.add_mul]
  congr 1
  ac_rfl
theorem mpw_b {n : Int} (h : 1 ≤ n ∧ n ≤ 12) : 1 ≤ (10 : Int) ^ n.toNat ∧ (10 : Int) ^ n.toNat ≤ 27720000000000000 ∧ ((10 : Int) ^ n.toNat % 1000 = 0 ∨ (10 : Int) ^ n.toNat ≤ 100) := by
  have e : n = 1 ∨ n = 2 ∨ n = 3 ∨ n = 4 ∨ n = 5 ∨ n = 6 ∨ n = 7 ∨ n = 8 ∨ n = 9 ∨ n = 10 ∨ n = 11 ∨ n = 12 := by omega
  rcases e with h | h | h | h | h | h | h | h | h | h | h | h <;> subst h <;> decide +kernel
