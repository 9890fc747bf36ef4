/-! ===== the reference: how often each end comes ===== -/
theorem mz_1 {F : Nat → Int} {i : Int} (hi : 0 ≤ i) (h : ∀ j : Nat, (j : Int) < i → F j = 0) : ∀ j : Nat, (j : Int) < i + 1 → va_up F i.toNat 0 j = 0 := by
  intro j hj
  by_cases q : j = i.toNat
  · rw [q, va_up_self]
  · rw [va_up_ne _ _ q]; exact h j (by omega)
theorem mcp_1 {F E : Nat → Int} {i : Int} (hi : 0 ≤ i) (h : ∀ j : Nat, (j : Int) < i → F j = E j) : ∀ j : Nat, (j : Int) < i + 1 → va_up F i.toNat (E i.toNat) j = E j := by
  intro j hj
  by_cases q : j = i.toNat
  · rw [q, va_up_self]
  · rw [va_up_ne _ _ q]; exact h j (by omega)
theorem mea_1 {F : Nat → Int} {n x y i : Int} (hi : 0 ≤ i) (h : ∀ j : Nat, (j : Int) < i → F j = if (j : Int) ≤ n then eaC n x y j else 0) (hn : i ≤ n) : ∀ j : Nat, (j : Int) < i + 1 → va_up F i.toNat (wayF n i * x ^ i.toNat * (y - x) ^ (n - i).toNat) j = if (j : Int) ≤ n then eaC n x y j else 0 := by
  intro j hj
  by_cases q : j = i.toNat
  · subst q
    rw [va_up_self, if_pos (by omega)]
    unfold eaC
    rw [show ((i.toNat : Nat) : Int) = i from by omega]
  · rw [va_up_ne _ _ q]; exact h j (by omega)
theorem mea_0 {F : Nat → Int} {n x y i : Int} (hi : 0 ≤ i) (h : ∀ j : Nat, (j : Int) < i → F j = if (j : Int) ≤ n then eaC n x y j else 0) (hn : n < i) : ∀ j : Nat, (j : Int) < i + 1 → va_up F i.toNat 0 j = if (j : Int) ≤ n then eaC n x y j else 0 := by
  intro j hj
  by_cases q : j = i.toNat
  · subst q
    rw [va_up_self, if_neg (by omega)]
  · rw [va_up_ne _ _ q]; exact h j (by omega)
/-! FIXED -/
def mhO (n k g b h : Int) : Int := if k ≤ g + b then wayF g h * wayF b (k - h) else wayF (k - g) (h - g) * wayF (n - k - b) (k - (g + b) - (h - g))
def mhI (n k h : Int) : Int := if n - 2 * (k - h) < 0 then 0 else n - 2 * (k - h)
def mhS (n k g b : Int) (j : Nat) (H : Nat) : Int := su (fun h => if mhI n k h = j then mhO n k g b h else 0) H
theorem mho_b (n k g b h : Int) : 0 ≤ mhO n k g b h ∧ mhO n k g b h ≤ 924 * 924 := by
  have hm : ∀ w x y z : Int, 0 ≤ wayF w x * wayF y z ∧ wayF w x * wayF y z ≤ 924 * 924 := fun w x y z => by
    have h1 := wayF_b w x
    have h2 := wayF_b y z
    exact ⟨Int.mul_nonneg h1.1 h2.1, Int.mul_le_mul h1.2 h2.2 h2.1 (by decide)⟩
  unfold mhO
  split
  · exact hm _ _ _ _
  · exact hm _ _ _ _
theorem mhi_b {n k h : Int} (hn : n ≤ 12) (hh : h ≤ k) : 0 ≤ mhI n k h ∧ mhI n k h ≤ 12 := by
  unfold mhI
  split <;> omega
theorem mse_e {n k a g b : Int} (hg : 0 ≤ g ∧ g ≤ k) (hb : 0 ≤ b ∧ b ≤ n - k) : wayF k g * a ^ g.toNat * (10 - a) ^ (k - g).toNat * wayF (n - k) b * (10 - a) ^ b.toNat * a ^ (n - k - b).toNat = seZ n k a g b := by
  unfold seZ
  rw [show (g + n - k - b).toNat = g.toNat + (n - k - b).toNat from by omega, show (n - (g + n - k - b)).toNat = (k - g).toNat + b.toNat from by omega, Int.pow_add, Int.pow_add]
  ac_rfl
theorem mse_r {x y : Int} (h : 0 ≤ x ∧ x * y < 9223372036854775808) (hy : 1 ≤ y) : 0 ≤ x ∧ x < 9223372036854775808 := by
  have := Int.mul_le_mul_of_nonneg_left hy h.1
  omega
theorem mad_1 {n k g b : Int} (h : k ≤ g + b) : wayF (g + b) k = adL n k g b := by
  unfold adL
  simp only [if_pos h]
theorem mad_0 {n k g b : Int} (h : ¬ k ≤ g + b) : wayF (n - (g + b)) (k - (g + b)) = adL n k g b := by
  unfold adL
  simp only [if_neg h]
  rw [show k - g + (n - k - b) = n - (g + b) from by omega, show k - g - b = k - (g + b) from by omega]
theorem mh_1 {n k g b h q : Int} {F3 F4 : Nat → Int} (hh : 0 ≤ h) (hm : 0 ≤ mhI n k h) (h4 : ∀ j : Nat, j < 13 → F4 j = F3 j + q * mhS n k g b j h.toNat) : ∀ j : Nat, j < 13 → va_up F4 (mhI n k h).toNat (F4 (mhI n k h).toNat + q * mhO n k g b h) j = F3 j + q * mhS n k g b j (h + 1).toNat := by
  intro j hj
  rw [show (h + 1).toNat = h.toNat + 1 from by omega]
  show _ = F3 j + q * (mhS n k g b j h.toNat + if mhI n k (h.toNat : Nat) = j then mhO n k g b (h.toNat : Nat) else 0)
  rw [show ((h.toNat : Nat) : Int) = h from by omega]
  by_cases q1 : j = (mhI n k h).toNat
  · subst q1
    rw [va_up_self, if_pos (by omega), Int.mul_add, h4 _ hj]
    omega
  · rw [va_up_ne _ _ q1, if_neg (by omega), h4 j hj]
    simp
theorem wayF_n {n k : Int} (h : wayF n k ≠ 0) : 0 ≤ k ∧ k ≤ n := by
  by_cases q : k < 0 ∨ n < k
  · exact absurd (wayF_z q) h
  · omega
theorem mh_ad {n k g b : Int} (hk : 1 ≤ k ∧ k < n) (hg : 0 ≤ g ∧ g ≤ k) (hb : 0 ≤ b ∧ b ≤ n - k) (j : Nat) : mhS n k g b j (k + 1).toNat = adC n k g b j (adD k g b + 1).toNat := by
  unfold mhS adC
  by_cases q : k ≤ g + b
  · have e : adD k g b = k := by unfold adD; rw [if_pos q]
    rw [e]
    refine su_congr (fun h hh => ?_)
    have e1 : mhO n k g b h = adW n k g b h := by unfold mhO adW; simp only [if_pos q]
    have e2 : adR n k g b h = n - 2 * (k - h) := by unfold adR; rw [if_pos q]; omega
    rw [e1, e2]
    by_cases z : n - 2 * (k - (h : Int)) < 0
    · have e3 : adW n k g b h = 0 := by
        unfold adW
        simp only [if_pos q]
        by_cases z2 : wayF b (k - h) = 0
        · rw [z2, Int.mul_zero]
        · have := wayF_n z2; omega
      rw [e3, ite_self, ite_self]
    · rw [show mhI n k h = n - 2 * (k - h) from if_neg z]
  · have e : adD k g b = k - g - b := by unfold adD; rw [if_neg q]
    rw [e]
    have s1 := su_split (fun h : Nat => if mhI n k h = (j : Int) then mhO n k g b h else 0) g.toNat (k + 1 - g).toNat
    rw [show g.toNat + (k + 1 - g).toNat = (k + 1).toNat from by omega] at s1
    rw [s1, su_z (n := g.toNat) (fun h hh => ?_), Int.zero_add]
    · have s2 := su_split (fun i : Nat => if mhI n k ((g.toNat + i : Nat) : Int) = (j : Int) then mhO n k g b ((g.toNat + i : Nat) : Int) else 0) (k - g - b + 1).toNat b.toNat
      rw [show (k - g - b + 1).toNat + b.toNat = (k + 1 - g).toNat from by omega] at s2
      rw [s2, su_z (n := b.toNat) (fun h hh => ?_), Int.add_zero]
      · refine su_congr (fun t ht => ?_)
        have e1 : mhO n k g b ((g.toNat + t : Nat) : Int) = adW n k g b t := by
          unfold mhO adW
          simp only [if_neg q]
          rw [show ((g.toNat + t : Nat) : Int) - g = t from by omega, show k - (g + b) - (t : Int) = k - g - b - t from by omega]
        have e2 : adR n k g b t = n - 2 * (k - ((g.toNat + t : Nat) : Int)) := by unfold adR; rw [if_neg q]; omega
        rw [e1, e2]
        by_cases z : n - 2 * (k - ((g.toNat + t : Nat) : Int)) < 0
        · have e3 : adW n k g b t = 0 := by
            unfold adW
            simp only [if_neg q]
            by_cases z2 : wayF (n - k - b) (k - g - b - t) = 0
            · rw [z2, Int.mul_zero]
            · have := wayF_n z2; omega
          rw [e3, ite_self, ite_self]
        · rw [show mhI n k ((g.toNat + t : Nat) : Int) = n - 2 * (k - ((g.toNat + t : Nat) : Int)) from if_neg z]
      · have e3 : mhO n k g b ((g.toNat + ((k - g - b + 1).toNat + h) : Nat) : Int) = 0 := by
          unfold mhO
          rw [if_neg q, wayF_z (n := n - k - b) (by omega), Int.mul_zero]
        show (if _ then mhO n k g b ((g.toNat + ((k - g - b + 1).toNat + h) : Nat) : Int) else 0) = 0
        rw [e3, ite_self]
    · have e3 : mhO n k g b h = 0 := by
        unfold mhO
        rw [if_neg q, wayF_z (n := k - g) (by omega), Int.zero_mul]
      rw [e3, ite_self]
theorem ev_dvd : ∀ n : Fin 13, ∀ x : Fin 13, x.1 ≤ n.1 → ∀ y : Fin 13, y.1 ≤ x.1 → evenT n.1 % wayF (x.1 : Int) (y.1 : Int) = 0 := by decide +kernel
theorem ad_dvd {n k g b : Int} (hn : n ≤ 12) (hk : 1 ≤ k ∧ k < n) (hg : 0 ≤ g ∧ g ≤ k) (hb : 0 ≤ b ∧ b ≤ n - k) : adL n k g b ∣ evenT n.toNat := by
  have hw : ∀ x y : Int, 0 ≤ y → y ≤ x → x ≤ n → wayF x y ∣ evenT n.toNat := fun x y h1 h2 h3 => by
    have h := ev_dvd ⟨n.toNat, by omega⟩ ⟨x.toNat, by omega⟩ (by show x.toNat ≤ n.toNat; omega) ⟨y.toNat, by omega⟩ (by show y.toNat ≤ x.toNat; omega)
    dsimp only at h
    rw [show ((x.toNat : Nat) : Int) = x from by omega, show ((y.toNat : Nat) : Int) = y from by omega] at h
    exact Int.dvd_of_emod_eq_zero h
  by_cases q : k ≤ g + b
  · rw [← mad_1 q]; exact hw _ _ (by omega) q (by omega)
  · rw [← mad_0 q]; exact hw _ _ (by omega) (by omega) (by omega)
theorem mh_w {s u e L : Int} (h : L ∣ e) (hL : 0 < L) : s * (u * e).tdiv L = u * (s * e).tdiv L := by
  obtain ⟨c, rfl⟩ := h
  rw [show u * (L * c) = L * (u * c) from by ac_rfl, show s * (L * c) = L * (s * c) from by ac_rfl, Int.mul_tdiv_cancel_left _ (by omega), Int.mul_tdiv_cancel_left _ (by omega)]
  ac_rfl
theorem mh_e {n k a g b u : Int} {F3 F4 : Nat → Int} (hn : n ≤ 12) (hk : 1 ≤ k ∧ k < n) (hg : 0 ≤ g ∧ g ≤ k) (hb : 0 ≤ b ∧ b ≤ n - k) (h4 : ∀ j : Nat, j < 13 → F4 j = F3 j + seZ n k a g b * (u * evenT n.toNat).tdiv (adL n k g b) * mhS n k g b j (k + 1).toNat) : ∀ j : Nat, j < 13 → F4 j = F3 j + u * fxT n k a g b j := by
  intro j hj
  have h1 := adL_1 hn hk hg hb
  rw [h4 j hj, mh_ad hk hg hb, mh_w (ad_dvd hn hk hg hb) (by omega)]
  unfold fxT
  rw [Int.mul_assoc]
theorem mfx_0 {n k a g b u : Int} {F2 F3 : Nat → Int} (hb : 0 ≤ b) (hz : seZ n k a g b = 0) (h : ∀ j : Nat, j < 13 → F3 j = F2 j + u * fxR n k a g j b.toNat) : ∀ j : Nat, j < 13 → F3 j = F2 j + u * fxR n k a g j (b + 1).toNat := by
  intro j hj
  rw [show (b + 1).toNat = b.toNat + 1 from by omega]
  show _ = F2 j + u * (fxR n k a g j b.toNat + fxT n k a g (b.toNat : Int) j)
  rw [show ((b.toNat : Nat) : Int) = b from by omega, h j hj]
  unfold fxT
  rw [hz]
  simp
theorem mfx_1 {n k a g b u : Int} {F2 F3 F4 : Nat → Int} (hb : 0 ≤ b) (h : ∀ j : Nat, j < 13 → F3 j = F2 j + u * fxR n k a g j b.toNat) (h4 : ∀ j : Nat, j < 13 → F4 j = F3 j + u * fxT n k a g b j) : ∀ j : Nat, j < 13 → F4 j = F2 j + u * fxR n k a g j (b + 1).toNat := by
  intro j hj
  rw [show (b + 1).toNat = b.toNat + 1 from by omega]
  show _ = F2 j + u * (fxR n k a g j b.toNat + fxT n k a g (b.toNat : Int) j)
  rw [show ((b.toNat : Nat) : Int) = b from by omega, h4 j hj, h j hj, Int.mul_add]
  omega
theorem mfx_2 {n k a g u : Int} {F2 F3 : Nat → Int} (hg : 0 ≤ g) (h : ∀ j : Nat, j < 13 → F2 j = u * fxC n k a j g.toNat) (h3 : ∀ j : Nat, j < 13 → F3 j = F2 j + u * fxR n k a g j (n - k + 1).toNat) : ∀ j : Nat, j < 13 → F3 j = u * fxC n k a j (g + 1).toNat := by
  intro j hj
  rw [show (g + 1).toNat = g.toNat + 1 from by omega]
  show _ = u * (fxC n k a j g.toNat + fxR n k a (g.toNat : Int) j (n - k + 1).toNat)
  rw [show ((g.toNat : Nat) : Int) = g from by omega, h3 j hj, h j hj, Int.mul_add]
/-! blocks -/
def mcv (B F : Nat → Int) (r : Nat) (X : Nat) : Int := su (fun x => if x ≤ r then B x * F (r - x) else 0) X
theorem su_pt {c : Int} {i0 : Nat} : ∀ {n : Nat}, su (fun i => if i = i0 then c else 0) n = if i0 < n then c else 0
  | 0 => by show (0 : Int) = _; rw [if_neg (by omega)]
  | n + 1 => by
    show su (fun i => if i = i0 then c else 0) n + (if n = i0 then c else 0) = _
    rw [su_pt (n := n)]
    by_cases q : n = i0
    · rw [if_pos q, if_neg (by omega), if_pos (by omega)]; omega
    · rw [if_neg q]
      by_cases q2 : i0 < n
      · rw [if_pos q2, if_pos (by omega)]; omega
      · rw [if_neg q2, if_neg (by omega)]; omega
theorem su_swap (f : Nat → Nat → Int) (m : Nat) : ∀ n : Nat, su (fun i => su (fun j => f i j) m) n = su (fun j => su (fun i => f i j) n) m
  | 0 => (su_z (fun j _ => rfl)).symm
  | n + 1 => by
    show su (fun i => su (fun j => f i j) m) n + su (fun j => f n j) m = _
    rw [su_swap f m n, ← su_add]
    rfl
theorem mcv_c (F B : Nat → Int) {r : Nat} (hr : r < 13) : cvC F B r 13 = mcv B F r 5 := by
  unfold cvC cvI mcv
  rw [su_swap]
  refine su_congr (fun j hj => ?_)
  unfold cvT
  by_cases q : j ≤ r
  · rw [if_pos q]
    have e : ∀ i : Nat, i < 13 → (if i + j = r then F i * B j else 0) = if i = r - j then B j * F (r - j) else 0 := fun i _ => by
      by_cases z : i = r - j
      · rw [if_pos (by omega), if_pos z, z, Int.mul_comm]
      · rw [if_neg (by omega), if_neg z]
    rw [su_congr e, su_pt, if_pos (by omega)]
  · rw [if_neg q]
    exact su_z (fun i _ => if_neg (by omega))
theorem mcv_F {B F F' : Nat → Int} {r : Nat} (hr : r < 13) (h : ∀ j : Nat, j < 13 → F j = F' j) (X : Nat) : mcv B F r X = mcv B F' r X := by
  refine su_congr (fun x _ => ?_)
  by_cases q : x ≤ r
  · rw [if_pos q, if_pos q, h _ (by omega)]
  · rw [if_neg q, if_neg q]
theorem mcv_1 {B F : Nat → Int} (h : ∀ j : Nat, j < 13 → F j = if j < 5 then B j else 0) : ∀ j : Nat, j < 13 → F j = cvN B (1 : Int).toNat j := by
  intro j hj
  show _ = cvC (cvN B 0) B j 13
  rw [mcv_c _ _ hj, h j hj]
  unfold mcv
  have e : ∀ x : Nat, x < 5 → (if x ≤ j then B x * cvN B 0 (j - x) else 0) = if x = j then B j else 0 := fun x _ => by
    show (if x ≤ j then B x * (if j - x = 0 then 1 else 0) else 0) = _
    by_cases z : x = j
    · subst z; rw [if_pos (Nat.le_refl _), if_pos (Nat.sub_self _), if_pos rfl, Int.mul_one]
    · rw [if_neg z]
      by_cases z2 : x ≤ j
      · rw [if_pos z2, if_neg (by omega), Int.mul_zero]
      · rw [if_neg z2]
  rw [su_congr e, su_pt]
theorem mcv_2 {B F2 F3 : Nat → Int} {t : Int} (ht : 1 ≤ t) (h : ∀ j : Nat, j < 13 → F2 j = cvN B t.toNat j) (h3 : ∀ j : Nat, j < 13 → F3 j = mcv B F2 j 5) : ∀ j : Nat, j < 13 → F3 j = cvN B (t + 1).toNat j := by
  intro j hj
  rw [show (t + 1).toNat = t.toNat + 1 from by omega, h3 j hj]
  show _ = cvC (cvN B t.toNat) B j 13
  rw [mcv_c _ _ hj, mcv_F hj h]
theorem mcv_z {B F : Nat → Int} {z x r : Int} (hx : 0 ≤ x ∧ x ≤ 5 ∧ (x = 5 ∨ r < x) ∧ 0 ≤ r) (h : z = mcv B F r.toNat x.toNat) : z = mcv B F r.toNat 5 := by
  have s := su_split (fun x => if x ≤ r.toNat then B x * F (r.toNat - x) else 0) x.toNat (5 - x.toNat)
  rw [show x.toNat + (5 - x.toNat) = 5 from by omega] at s
  rw [h]
  unfold mcv
  rw [s, su_z (n := 5 - x.toNat) (fun j hj => if_neg (by omega)), Int.add_zero]
theorem mcv_3 {B F2 F3 : Nat → Int} {z r : Int} (hr : 0 ≤ r) (h : ∀ j : Nat, j < 13 → r < (j : Int) → F3 j = mcv B F2 j 5) (hz : z = mcv B F2 r.toNat 5) : ∀ j : Nat, j < 13 → r + (-1) < (j : Int) → va_up F3 r.toNat z j = mcv B F2 j 5 := by
  intro j hj h2
  by_cases q : j = r.toNat
  · rw [q, va_up_self, hz]
  · rw [va_up_ne _ _ q]; exact h j hj (by omega)
theorem mcv_4 {F2 F3 : Nat → Int} {z r : Int} (hr : 0 ≤ r) (h : ∀ j : Nat, (j : Int) ≤ r → F3 j = F2 j) : ∀ j : Nat, (j : Int) ≤ r + (-1) → va_up F3 r.toNat z j = F2 j := by
  intro j h2
  rw [va_up_ne _ _ (by omega)]; exact h j (by omega)
theorem mcv_5 {B F2 F3 S1 E : Nat → Int} {z x r : Int} (hx : 0 ≤ x ∧ x < 5 ∧ x ≤ r) (hz : z = mcv B F2 r.toNat x.toNat) (hS : S1 x.toNat = E x.toNat) (hB : ∀ j : Nat, j < 13 → E j = if j < 5 then B j else 0) (hF : F3 (r - x).toNat = F2 (r - x).toNat) : z + S1 x.toNat * F3 (r - x).toNat = mcv B F2 r.toNat (x + 1).toNat := by
  rw [show (x + 1).toNat = x.toNat + 1 from by omega]
  show _ = mcv B F2 r.toNat x.toNat + (if x.toNat ≤ r.toNat then B x.toNat * F2 (r.toNat - x.toNat) else 0)
  rw [if_pos (by omega), hz, hS, hB x.toNat (by omega), if_pos (by omega), hF, show (r - x).toNat = r.toNat - x.toNat from by omega]
/-! all kinds -/
theorem mu_t : ∀ n : Fin 13, uZ 1 (n.1 : Int) * evenT n.1 = 27720 ∧ 1 ≤ uZ 1 (n.1 : Int) ∧ uZ 1 (n.1 : Int) ≤ 27720 := by decide +kernel
theorem mu_1 {n : Int} (h : 0 ≤ n ∧ n ≤ 12) : uZ 1 n * evenT n.toNat = 27720 := by
  have := (mu_t ⟨n.toNat, by omega⟩).1
  rwa [show ((n.toNat : Nat) : Int) = n from by omega] at this
theorem mu_2 {n : Int} (h : 0 ≤ n ∧ n ≤ 12) : 1 ≤ uZ 1 n ∧ uZ 1 n ≤ 27720 := by
  have := (mu_t ⟨n.toNat, by omega⟩).2
  rwa [show ((n.toNat : Nat) : Int) = n from by omega] at this
theorem mB_t : ∀ k : Fin 4, 1 ≤ k.1 → ∀ a : Fin 11, ∀ j : Fin 13, 5 ≤ j.1 → fxC 4 (k.1 : Int) (a.1 : Int) j.1 (k.1 + 1) = 0 := by decide +kernel
theorem mB_4 {k a : Int} {F : Nat → Int} (hk : 1 ≤ k ∧ k ≤ 3) (ha : 0 ≤ a ∧ a ≤ 10) (h : ∀ j : Nat, j < 13 → F j = 1 * fxC 4 k a j (k + 1).toNat) : ∀ j : Nat, j < 13 → F j = if j < 5 then (fun j => fxC 4 k a j (k + 1).toNat) j else 0 := by
  intro j hj
  rw [h j hj, Int.one_mul]
  by_cases q : j < 5
  · rw [if_pos q]
  · rw [if_neg q]
    have := mB_t ⟨k.toNat, by omega⟩ (by show 1 ≤ k.toNat; omega) ⟨a.toNat, by omega⟩ ⟨j, hj⟩ (by show 5 ≤ j; omega)
    dsimp only at this
    rwa [show ((k.toNat : Nat) : Int) = k from by omega, show ((a.toNat : Nat) : Int) = a from by omega, show k.toNat + 1 = (k + 1).toNat from by omega] at this
theorem mf_0 {n k a : Int} {F : Nat → Int} (h : ∀ j : Nat, j < 13 → F j = if (j : Int) ≤ n then eaC n a 10 j else 0) : scF 0 n F (csZ 0 n k a) := by
  intro j hj
  show 1 * F j = 1 * csZ 0 n k a j
  rw [h j hj]
  rfl
theorem mf_2 {n k a : Int} {F : Nat → Int} (hn : 1 ≤ n ∧ n ≤ 6) (h : ∀ j : Nat, j < 13 → F j = if (j : Int) ≤ n then eaC n a 10 j else 0) : scF 2 n F (csZ 2 n k a) := by
  intro j hj
  show 20 ^ n.toNat * F j = 1 * (if (j : Int) ≤ n then eaC n (2 * a * a + 2 * a * (10 - a)) 200 j else 0)
  rw [h j hj]
  by_cases q : (j : Int) ≤ n
  · rw [if_pos q, if_pos q]
    unfold eaC
    have e1 : 2 * a * a + 2 * a * (10 - a) = 20 * a := by rw [Int.mul_sub]; omega
    rw [e1, show 200 - 20 * a = 20 * (10 - a) from by omega, Int.mul_pow, Int.mul_pow, show n.toNat = j + (n - j).toNat from by omega, Int.pow_add]
    rw [Int.one_mul]
    ac_rfl
  · rw [if_neg q, if_neg q]
    simp
theorem mf_3 {n k a : Int} {F : Nat → Int} (ha : 0 ≤ a ∧ a ≤ 10) (h : ∀ j : Nat, j < 13 → F j = if (j : Int) ≤ n then eaC n (3 * a * a * a + 3 * (10 - a) * (10 - a) * (10 - a) + 10 * a * (10 - a)) 3000 j else 0) : scF 3 n F (csZ 3 n k a) := by
  intro j hj
  have e : 3 * a * a * a + 3 * (10 - a) * (10 - a) * (10 - a) + 10 * a * (10 - a) = 3 * (a * a * a + (10 - a) * (10 - a) * (10 - a)) + a * (10 - a) * (10 - a) + a * a * (10 - a) := by
    have h2 : a = 0 ∨ a = 1 ∨ a = 2 ∨ a = 3 ∨ a = 4 ∨ a = 5 ∨ a = 6 ∨ a = 7 ∨ a = 8 ∨ a = 9 ∨ a = 10 := by omega
    rcases h2 with h | h | h | h | h | h | h | h | h | h | h <;> rw [h] <;> decide
  show 1 * F j = 1 * csZ 3 n k a j
  rw [h j hj, e]
  rfl
theorem mf_1 {n k a : Int} {F : Nat → Int} (h : ∀ j : Nat, j < 13 → F j = uZ 1 n * fxC n k a j (k + 1).toNat) : scF 1 n F (csZ 1 n k a) := by
  intro j hj
  show 1 * F j = uZ 1 n * csZ 1 n k a j
  rw [h j hj, Int.one_mul]
  rfl
theorem mf_4 {n k a : Int} {F : Nat → Int} (h : ∀ j : Nat, j < 13 → F j = cvN (fun j => fxC 4 k a j (k + 1).toNat) n.toNat j) : scF 4 n F (csZ 4 n k a) := by
  intro j hj
  show 1 * F j = 1 * csZ 4 n k a j
  rw [h j hj]
  rfl
