/-! ===== pure: bits, looking well ===== -/
theorem s_l : ∀ n, n < 32 → ((nI n &&& 31).toBitVec.smod 32).toNat = n := by decide
def bitZ (s c : Int) : Int := ((s.toNat / 2 ^ c.toNat % 2 : Nat) : Int)
theorem bitZ_01 (s c : Int) : bitZ s c = 0 ∨ bitZ s c = 1 := by unfold bitZ; omega
theorem iI_nat {z : Int} (h : 0 ≤ z) : iI z = nI z.toNat := by
  rw [iI_N]
  congr 1
  omega
theorem iI_31 (c : Int) : (iI c &&& 31) = (iI c &&& iI 31) := by
  rw [show iI 31 = (31 : Int32) from by decide]
theorem sh_eq {s c : Int} (hs : 0 ≤ s ∧ s < 2147483648) (hc : 0 ≤ c ∧ c < 32) : iI s >>> (iI c &&& 31) = iI ((s.toNat / 2 ^ c.toNat : Nat) : Int) := by
  rw [iI_nat hs.1, iI_nat hc.1, pk_shrN (by omega) _ c.toNat (s_l _ (by omega)), iI_N]
theorem bit_sh {s c : Int} (hs : 0 ≤ s ∧ s < 2147483648) (hc : 0 ≤ c ∧ c < 32) : (iI s >>> (iI c &&& 31)) &&& iI 1 = iI (bitZ s c) := by
  have h1 : s.toNat / 2 ^ c.toNat ≤ s.toNat := Nat.div_le_self _ _
  rw [sh_eq hs hc, ← iI_N, pk_andN (by omega) 1 (by decide)]
  unfold bitZ
  rw [iI_N]
def tsT (A : Nat → Int) (a : Int) (i r : Nat) : Int := (if 1 ≤ r ∧ r ≤ i then A (r - 1) * a else 0) + (if r + 1 < i then A (r + 1) * (10 - a) else 0)
def ctT (A : Nat → Int) (d : Int) (r : Nat) : Int := if (r : Int) < 12 + d then A r else 0
def spS (A : Nat → Int) (d : Int) : Int := su (fun j => A ((12 + d).toNat + j)) (13 - d).toNat
/-- the walk: what lies ahead, how often stopped -/
def lkS (set d a : Int) : Nat → (Nat → Int) × Int
  | 0 => (fun r => if r = 12 then 1 else 0, 0)
  | i + 1 => let w := lkS set d a i
    if bitZ set i = 1 then (ctT (tsT w.1 a 25) d, w.2 * 10 + spS (tsT w.1 a 25) d) else (tsT w.1 a 25, w.2 * 10)
theorem ts_step {A F : Nat → Int} {a i : Int} (hi : 0 ≤ i) (h : ∀ r : Nat, r < 25 → F r = tsT A a i.toNat r) {F1 : Nat → Int} (h1 : ∀ r : Nat, r < 25 → F1 r = F r + if (r : Int) = i + 1 then A i.toNat * a else 0) {F2 : Nat → Int} (h2 : ∀ r : Nat, r < 25 → F2 r = F1 r + if (r : Int) = i - 1 then A i.toNat * (10 - a) else 0) : ∀ r : Nat, r < 25 → F2 r = tsT A a (i + 1).toNat r := by
  intro r hr
  rw [h2 r hr, h1 r hr, h r hr]
  unfold tsT
  rw [show (i + 1).toNat = i.toNat + 1 from by omega]
  by_cases q1 : (r : Int) = i + 1
  · rw [if_pos q1, if_neg (by omega : ¬ ((r : Int) = i - 1)), if_neg (by omega : ¬ (1 ≤ r ∧ r ≤ i.toNat)), if_neg (by omega : ¬ (r + 1 < i.toNat)), if_pos (by omega : 1 ≤ r ∧ r ≤ i.toNat + 1), if_neg (by omega : ¬ (r + 1 < i.toNat + 1)), show r - 1 = i.toNat from by omega]
    omega
  · rw [if_neg q1]
    by_cases q2 : (r : Int) = i - 1
    · rw [if_pos q2, if_neg (by omega : ¬ (r + 1 < i.toNat)), if_pos (by omega : r + 1 < i.toNat + 1), show i.toNat = r + 1 from by omega]
      by_cases q3 : 1 ≤ r
      · rw [if_pos (by omega : 1 ≤ r ∧ r ≤ r + 1), if_pos (by omega : 1 ≤ r ∧ r ≤ r + 1 + 1)]
        omega
      · rw [if_neg (by omega : ¬ (1 ≤ r ∧ r ≤ r + 1)), if_neg (by omega : ¬ (1 ≤ r ∧ r ≤ r + 1 + 1))]
        omega
    · rw [if_neg q2]
      have e1 : (1 ≤ r ∧ r ≤ i.toNat) ↔ (1 ≤ r ∧ r ≤ i.toNat + 1) := by omega
      have e2 : (r + 1 < i.toNat) ↔ (r + 1 < i.toNat + 1) := by omega
      simp only [e1, e2]
      omega
theorem up_in {F : Nat → Int} {z x : Int} (hz : 0 ≤ z) : ∀ r : Nat, va_up F z.toNat (F z.toNat + x) r = F r + if (r : Int) = z then x else 0 := by
  intro r
  by_cases q : r = z.toNat
  · subst q
    rw [va_up_self, if_pos (by omega)]
  · rw [va_up_ne _ _ q, if_neg (by omega)]
    omega
theorem up_no {F : Nat → Int} {z x : Int} {nn : Nat} (hz : z < 0 ∨ (nn : Int) ≤ z) : ∀ r : Nat, r < nn → F r = F r + if (r : Int) = z then x else 0 := by
  intro r hr
  rw [if_neg (by omega)]
  omega
theorem tsT_congr {A B : Nat → Int} {a : Int} (h : ∀ r : Nat, r < 25 → A r = B r) : ∀ r : Nat, r < 25 → tsT A a 25 r = tsT B a 25 r := by
  intro r hr
  unfold tsT
  by_cases q1 : 1 ≤ r ∧ r ≤ 25
  · rw [if_pos q1, if_pos q1, h (r - 1) (by omega)]
    by_cases q2 : r + 1 < 25
    · rw [if_pos q2, if_pos q2, h (r + 1) (by omega)]
    · rw [if_neg q2, if_neg q2]
  · rw [if_neg q1, if_neg q1]
    by_cases q2 : r + 1 < 25
    · rw [if_pos q2, if_pos q2, h (r + 1) (by omega)]
    · rw [if_neg q2, if_neg q2]
theorem spS_congr {A B : Nat → Int} {d : Int} (hd : 1 ≤ d ∧ d ≤ 12) (h : ∀ r : Nat, r < 25 → A r = B r) : spS A d = spS B d := su_congr (fun j hj => h _ (by omega))
theorem ctT_congr {A B : Nat → Int} {d : Int} (h : ∀ r : Nat, r < 25 → A r = B r) : ∀ r : Nat, r < 25 → ctT A d r = ctT B d r := by
  intro r hr
  unfold ctT
  rw [h r hr]
theorem lk_s0 {st d a i sm : Int} (hi : 0 ≤ i) (hs : sm = (lkS st d a i.toNat).2) (hb : bitZ st i ≠ 1) : sm * 10 = (lkS st d a (i + 1).toNat).2 := by
  rw [show (i + 1).toNat = i.toNat + 1 from by omega]
  show _ = (if bitZ st (i.toNat : Int) = 1 then _ else _ : (Nat → Int) × Int).2
  rw [show ((i.toNat : Nat) : Int) = i from by omega, if_neg hb, hs]
theorem lk_s1 {st d a i sm : Int} {A A1 : Nat → Int} (hi : 0 ≤ i) (hd : 1 ≤ d ∧ d ≤ 12) (hs : sm = (lkS st d a i.toNat).2) (hF : ∀ r : Nat, r < 25 → A r = (lkS st d a i.toNat).1 r) (h1 : ∀ r : Nat, r < 25 → A1 r = tsT A a 25 r) (hb : bitZ st i = 1) : sm * 10 + spS A1 d = (lkS st d a (i + 1).toNat).2 := by
  rw [show (i + 1).toNat = i.toNat + 1 from by omega]
  show _ = (if bitZ st (i.toNat : Int) = 1 then _ else _ : (Nat → Int) × Int).2
  rw [show ((i.toNat : Nat) : Int) = i from by omega, if_pos hb, hs, spS_congr hd (fun r hr => (h1 r hr).trans (tsT_congr hF r hr))]
theorem lk_f0 {st d a i : Int} {A A1 : Nat → Int} (hi : 0 ≤ i) (hF : ∀ r : Nat, r < 25 → A r = (lkS st d a i.toNat).1 r) (h1 : ∀ r : Nat, r < 25 → A1 r = tsT A a 25 r) (hb : bitZ st i ≠ 1) : ∀ r : Nat, r < 25 → A1 r = (lkS st d a (i + 1).toNat).1 r := by
  intro r hr
  rw [show (i + 1).toNat = i.toNat + 1 from by omega]
  show _ = (if bitZ st (i.toNat : Int) = 1 then _ else _ : (Nat → Int) × Int).1 r
  rw [show ((i.toNat : Nat) : Int) = i from by omega, if_neg hb, h1 r hr]
  exact tsT_congr hF r hr
theorem lk_f1 {st d a i : Int} {A A1 A2 : Nat → Int} (hi : 0 ≤ i) (hF : ∀ r : Nat, r < 25 → A r = (lkS st d a i.toNat).1 r) (h1 : ∀ r : Nat, r < 25 → A1 r = tsT A a 25 r) (h2 : ∀ r : Nat, r < 25 → A2 r = ctT A1 d r) (hb : bitZ st i = 1) : ∀ r : Nat, r < 25 → A2 r = (lkS st d a (i + 1).toNat).1 r := by
  intro r hr
  rw [show (i + 1).toNat = i.toNat + 1 from by omega]
  show _ = (if bitZ st (i.toNat : Int) = 1 then _ else _ : (Nat → Int) × Int).1 r
  rw [show ((i.toNat : Nat) : Int) = i from by omega, if_pos hb, h2 r hr]
  exact ctT_congr (fun r hr => (h1 r hr).trans (tsT_congr hF r hr)) r hr
