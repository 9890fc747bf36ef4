/-! ===== the reference: lots ===== -/
theorem cdL_c (kd x : Int) : (kd = 1 ∧ cdL kd x = x) ∨ (kd ≠ 1 ∧ cdL kd x = -3) := by
  unfold cdL
  split <;> omega
theorem cdL_h (kd : Int) (H : Prop) [Decidable H] : (kd ≠ 1 ∧ cdL kd (if H then 0 else -1) = -3) ∨ (kd = 1 ∧ H ∧ cdL kd (if H then 0 else -1) = 0) ∨ (kd = 1 ∧ ¬ H ∧ cdL kd (if H then 0 else -1) = -1) := by
  unfold cdL
  by_cases q : kd = 1
  · rw [if_pos q]
    by_cases h : H
    · rw [if_pos h]; exact Or.inr (Or.inl ⟨q, h, rfl⟩)
    · rw [if_neg h]; exact Or.inr (Or.inr ⟨q, h, rfl⟩)
  · rw [if_neg q]; exact Or.inl ⟨q, rfl⟩
def hvZ (v : Int) : Int := ((v.toNat / 2 : Nat) : Int)
theorem hv_e {v : Int} (h : 0 ≤ v ∧ v < 2147483648) : iI v >>> (iI 1 &&& 31) = iI (hvZ v) := sh_eq h (by decide)
theorem pcn_0 : ∀ f : Nat, pcn f 0 = 0
  | 0 => rfl
  | f + 1 => by
    show 0 % 2 + pcn f (0 / 2) = 0
    rw [show 0 / 2 = 0 from rfl, pcn_0 f]
theorem bt_1 {z v X : Int} {f : Nat} (h : z + (pcn f v.toNat : Int) = X) (hv : 0 < v) (hf : v.toNat < 2 ^ f) : z + anZ v 1 + (pcn (f - 1) (hvZ v).toNat : Int) = X ∧ (hvZ v).toNat < 2 ^ (f - 1) ∧ 0 ≤ hvZ v ∧ hvZ v < v := by
  cases f with
  | zero => rw [Nat.pow_zero] at hf; omega
  | succ f =>
    have e1 : anZ v 1 = ((v.toNat % 2 : Nat) : Int) := by
      unfold anZ
      rw [show (1 : Int).toNat = 1 from rfl, Nat.and_one_is_mod]
    have e2 : (hvZ v).toNat = v.toNat / 2 := by unfold hvZ; omega
    have e3 : pcn (f + 1) v.toNat = v.toNat % 2 + pcn f (v.toNat / 2) := rfl
    rw [Nat.pow_succ] at hf
    rw [e3] at h
    refine ⟨?_, ?_, ?_, ?_⟩
    · rw [e1, e2, Nat.add_sub_cancel]; omega
    · rw [e2, Nat.add_sub_cancel]; omega
    · unfold hvZ; omega
    · unfold hvZ; omega
/-- how many of the sets below are lots -/
def cnL (k : Int) (x : Nat) : Int := su (fun i => if pcZ i = k then 1 else 0) x
theorem cn_1 {k x z : Int} (hx : 0 ≤ x) (h : z = cnL k x.toNat) (hp : pcZ x = k) : z + 1 = cnL k (x + 1).toNat := su_t hx h (by show (if pcZ ((x.toNat : Nat) : Int) = k then (1 : Int) else 0) = 1; rw [show ((x.toNat : Nat) : Int) = x from by omega, if_pos hp])
theorem cn_0 {k x z : Int} (hx : 0 ≤ x) (h : z = cnL k x.toNat) (hp : ¬ pcZ x = k) : z + 0 = cnL k (x + 1).toNat := by
  rw [Int.add_zero]
  exact su_f hx h (by show (if pcZ ((x.toNat : Nat) : Int) = k then (1 : Int) else 0) = 0; rw [show ((x.toNat : Nat) : Int) = x from by omega, if_neg hp])
theorem cnL_s (k : Int) (x : Nat) : cnL k (x + 1) = cnL k x + (if pcZ x = k then 1 else 0) := rfl
theorem cnL_nn (k : Int) (x : Nat) : 0 ≤ cnL k x := su_nn (fun j _ => by split <;> omega)
theorem cnL_le (k : Int) (x : Nat) : cnL k x ≤ x := by
  have := (su_bd (f := fun i : Nat => if pcZ i = k then (1 : Int) else 0) (c := 1) (n := x) (fun j _ => by split <;> omega)).2
  unfold cnL
  omega
theorem cnL_mono (k : Int) : ∀ {x y : Nat}, x ≤ y → cnL k x ≤ cnL k y := by
  intro x y h
  exact su_up (f := fun i : Nat => if pcZ i = k then (1 : Int) else 0) (fun j => by split <;> omega) h
def lkC (n k : Int) : Nat → Nat → Int → Int → Bool
  | 0, _, c, _ => decide (c = wayF n k)
  | m + 1, x, c, t => if pcZ x = k then decide (t = x) && decide ((nuS x n.toNat).2 = c) && decide (nbS n.toNat 0 k c = x) && lkC n k m (x + 1) (c + 1) (nxZ t) else lkC n k m (x + 1) c t
theorem lk_d2 : ∀ n : Fin 10, ∀ k : Fin 9, 1 ≤ k.1 → k.1 < n.1 → lkC (n.1 : Int) (k.1 : Int) (2 ^ n.1) 0 0 (p2 k.1 - 1) = true := by decide +kernel
theorem lk_d10 : ∀ k : Fin 10, 1 ≤ k.1 → lkC 10 (k.1 : Int) (2 ^ 10) 0 0 (p2 k.1 - 1) = true := by decide +kernel
theorem lk_d11 : ∀ k : Fin 11, 1 ≤ k.1 → lkC 11 (k.1 : Int) (2 ^ 11) 0 0 (p2 k.1 - 1) = true := by decide +kernel
theorem lk_d12 : ∀ k : Fin 12, 1 ≤ k.1 → lkC 12 (k.1 : Int) (2 ^ 12) 0 0 (p2 k.1 - 1) = true := by decide +kernel
theorem lk_in {n k : Int} : ∀ {m x : Nat} {c t : Int}, lkC n k m x c t = true → c = cnL k x → t = ntI k c.toNat → (∀ y : Nat, x ≤ y → y < x + m → pcZ y = k → ntI k (cnL k y).toNat = y ∧ (nuS y n.toNat).2 = cnL k y ∧ nbS n.toNat 0 k (cnL k y) = y) ∧ cnL k (x + m) = wayF n k
  | 0, x, c, t, h, hc, _ => ⟨fun y h1 h2 => by omega, by rw [Nat.add_zero, ← hc]; exact of_decide_eq_true h⟩
  | m + 1, x, c, t, h, hc, ht => by
    have hc0 : 0 ≤ c := by rw [hc]; exact cnL_nn k x
    unfold lkC at h
    by_cases q : pcZ x = k
    · rw [if_pos q, Bool.and_eq_true, Bool.and_eq_true, Bool.and_eq_true, decide_eq_true_eq, decide_eq_true_eq, decide_eq_true_eq] at h
      obtain ⟨⟨⟨h1, h2⟩, h3⟩, h4⟩ := h
      have r := lk_in (n := n) (k := k) h4 (by rw [cnL_s, if_pos q, hc]) (by rw [ht, show (c + 1).toNat = c.toNat + 1 from by omega]; rfl)
      rw [show x + 1 + m = x + (m + 1) from by omega] at r
      refine ⟨fun y h5 h6 h7 => ?_, r.2⟩
      by_cases z : y = x
      · subst z
        rw [← hc]
        exact ⟨by rw [← ht]; exact h1, h2, h3⟩
      · exact r.1 y (by omega) h6 h7
    · rw [if_neg q] at h
      have r := lk_in (n := n) (k := k) h (by rw [cnL_s, if_neg q, Int.add_zero]; exact hc) ht
      rw [show x + 1 + m = x + (m + 1) from by omega] at r
      refine ⟨fun y h5 h6 h7 => ?_, r.2⟩
      by_cases z : y = x
      · subst z; exact absurd h7 q
      · exact r.1 y (by omega) h6 h7
theorem lk_f {n k : Int} (h : n ≤ 12 ∧ 1 ≤ k ∧ k < n) : (∀ y : Nat, y < 2 ^ n.toNat → pcZ y = k → ntI k (cnL k y).toNat = y ∧ (nuS y n.toNat).2 = cnL k y ∧ nbS n.toNat 0 k (cnL k y) = y) ∧ cnL k (2 ^ n.toNat) = wayF n k := by
  have hb : lkC n k (2 ^ n.toNat) 0 0 (p2 k - 1) = true := by
    have ek : ((k.toNat : Nat) : Int) = k := by omega
    have en : ((n.toNat : Nat) : Int) = n := by omega
    by_cases q : n ≤ 9
    · have := lk_d2 ⟨n.toNat, by omega⟩ ⟨k.toNat, by omega⟩ (by show 1 ≤ k.toNat; omega) (by show k.toNat < n.toNat; omega)
      dsimp only at this
      rwa [ek, en] at this
    · have e : n = 10 ∨ n = 11 ∨ n = 12 := by omega
      rcases e with e | e | e <;> subst e
      · have := lk_d10 ⟨k.toNat, by omega⟩ (by show 1 ≤ k.toNat; omega)
        dsimp only at this
        rwa [ek] at this
      · have := lk_d11 ⟨k.toNat, by omega⟩ (by show 1 ≤ k.toNat; omega)
        dsimp only at this
        rwa [ek] at this
      · have := lk_d12 ⟨k.toNat, by omega⟩ (by show 1 ≤ k.toNat; omega)
        dsimp only at this
        rwa [ek] at this
  have r := lk_in (n := n) (k := k) hb rfl rfl
  rw [Nat.zero_add] at r
  exact ⟨fun y h1 h2 => r.1 y (Nat.zero_le _) h1 h2, r.2⟩
/-- counted over all sets: the lots that have it -/
def cgS (g : Int → Bool) (k : Int) (x : Nat) : Int := su (fun i => if pcZ i = k ∧ g i = true then 1 else 0) x
theorem cg_1 {g : Int → Bool} {k x z : Int} (hx : 0 ≤ x) (h : z = cgS g k x.toNat) (hp : pcZ x = k) (hg : g x = true) : z + 1 = cgS g k (x + 1).toNat := su_t hx h (by show (if pcZ ((x.toNat : Nat) : Int) = k ∧ g ((x.toNat : Nat) : Int) = true then (1 : Int) else 0) = 1; rw [show ((x.toNat : Nat) : Int) = x from by omega, if_pos ⟨hp, hg⟩])
theorem cg_0 {g : Int → Bool} {k x z : Int} (hx : 0 ≤ x) (h : z = cgS g k x.toNat) (hp : ¬ (pcZ x = k ∧ g x = true)) : z + 0 = cgS g k (x + 1).toNat := by
  rw [Int.add_zero]
  exact su_f hx h (by show (if pcZ ((x.toNat : Nat) : Int) = k ∧ g ((x.toNat : Nat) : Int) = true then (1 : Int) else 0) = 0; rw [show ((x.toNat : Nat) : Int) = x from by omega, if_neg hp])
theorem cg_ct {n k : Int} (h : n ≤ 12 ∧ 1 ≤ k ∧ k < n) (g : Int → Bool) : ∀ m : Nat, m ≤ 2 ^ n.toNat → cgS g k m = ctN g k (cnL k m).toNat
  | 0, _ => rfl
  | m + 1, hm => by
    have ih := cg_ct h g m (by omega)
    have hn := cnL_nn k m
    show cgS g k m + (if pcZ m = k ∧ g m = true then 1 else 0) = _
    rw [cnL_s]
    by_cases q : pcZ m = k
    · have e := ((lk_f h).1 m (by omega) q).1
      rw [if_pos q, show (cnL k m + 1).toNat = (cnL k m).toNat + 1 from by omega]
      show _ = if g (ntI k (cnL k m).toNat) = true then ctN g k (cnL k m).toNat + 1 else ctN g k (cnL k m).toNat
      rw [e, ih]
      by_cases z : g m = true
      · rw [if_pos ⟨q, z⟩, if_pos z]
      · rw [if_neg (fun y => z y.2), if_neg z, Int.add_zero]
    · rw [if_neg (fun y => q y.1), if_neg q, Int.add_zero, Int.add_zero, ih]
theorem cg_all {n k : Int} (h : n ≤ 12 ∧ 1 ≤ k ∧ k < n) (g : Int → Bool) : cgS g k (p2 n).toNat = ctN g k (wayF n k).toNat := by
  have e : (p2 n).toNat = 2 ^ n.toNat := by unfold p2; omega
  rw [e, cg_ct h g _ (Nat.le_refl _), (lk_f h).2]
theorem p2_N (n : Int) : (p2 n).toNat = 2 ^ n.toNat := by unfold p2; omega
/-- a lot's number -/
theorem rk_e {n k t : Int} (h : n ≤ 12 ∧ 1 ≤ k ∧ k < n) (ht : 0 ≤ t ∧ t < p2 n ∧ pcZ t = k) : cnL k t.toNat = (nuS t n.toNat).2 := by
  have e := p2_N n
  have r := ((lk_f h).1 t.toNat (by omega) (by rw [show ((t.toNat : Nat) : Int) = t from by omega]; exact ht.2.2)).2.1
  rw [show ((t.toNat : Nat) : Int) = t from by omega] at r
  exact r.symm
/-- the best so far -/
def mbB (n k : Int) : Nat → Int
  | 0 => -1
  | i + 1 => if pcZ i = k ∧ (mbB n k i < 0 ∨ ab (lnZ n k i) < ab (lnZ n k (mbB n k i))) then (i : Int) else mbB n k i
theorem mb_1 {n k x b : Int} (hx : 0 ≤ x) (h : b = mbB n k x.toNat) (hp : pcZ x = k) (hg : b < 0 ∨ ab (lnZ n k x) < ab (lnZ n k b)) : x = mbB n k (x + 1).toNat := by
  rw [show (x + 1).toNat = x.toNat + 1 from by omega]
  show _ = if pcZ ((x.toNat : Nat) : Int) = k ∧ (mbB n k x.toNat < 0 ∨ ab (lnZ n k ((x.toNat : Nat) : Int)) < ab (lnZ n k (mbB n k x.toNat))) then ((x.toNat : Nat) : Int) else mbB n k x.toNat
  rw [show ((x.toNat : Nat) : Int) = x from by omega, ← h, if_pos ⟨hp, hg⟩]
theorem mb_0 {n k x b : Int} (hx : 0 ≤ x) (h : b = mbB n k x.toNat) (hp : ¬ (pcZ x = k ∧ (b < 0 ∨ ab (lnZ n k x) < ab (lnZ n k b)))) : b = mbB n k (x + 1).toNat := by
  rw [show (x + 1).toNat = x.toNat + 1 from by omega]
  show _ = if pcZ ((x.toNat : Nat) : Int) = k ∧ (mbB n k x.toNat < 0 ∨ ab (lnZ n k ((x.toNat : Nat) : Int)) < ab (lnZ n k (mbB n k x.toNat))) then ((x.toNat : Nat) : Int) else mbB n k x.toNat
  rw [show ((x.toNat : Nat) : Int) = x from by omega, ← h, if_neg hp]
theorem mb_be {n k : Int} (h : n ≤ 12 ∧ 1 ≤ k ∧ k < n) : ∀ m : Nat, m ≤ 2 ^ n.toNat → (cnL k m = 0 ∧ mbB n k m = -1) ∨ (0 < cnL k m ∧ mbB n k m = beI n k (cnL k m).toNat ∧ 0 ≤ mbB n k m)
  | 0, _ => Or.inl ⟨rfl, rfl⟩
  | m + 1, hm => by
    have ih := mb_be h m (by omega)
    have hn := cnL_nn k m
    have e0 : mbB n k (m + 1) = if pcZ m = k ∧ (mbB n k m < 0 ∨ ab (lnZ n k m) < ab (lnZ n k (mbB n k m))) then (m : Int) else mbB n k m := rfl
    rw [cnL_s]
    by_cases q : pcZ m = k
    · have e := ((lk_f h).1 m (by omega) q).1
      refine Or.inr ?_
      rw [if_pos q, show (cnL k m + 1).toNat = (cnL k m).toNat + 1 from by omega]
      have e2 : beI n k ((cnL k m).toNat + 1) = if ab (lnZ n k m) < ab (lnZ n k (beI n k (cnL k m).toNat)) then (m : Int) else beI n k (cnL k m).toNat := by
        show (if ab (lnZ n k (ntI k (cnL k m).toNat)) < ab (lnZ n k (beI n k (cnL k m).toNat)) then ntI k (cnL k m).toNat else beI n k (cnL k m).toNat) = _
        rw [e]
      rw [e0, e2]
      rcases ih with ⟨i1, i2⟩ | ⟨i1, i2, i3⟩
      · rw [if_pos ⟨q, Or.inl (by omega)⟩]
        rw [i1] at e
        have e3 : beI n k (cnL k m).toNat = (m : Int) := by rw [i1]; exact e
        rw [e3]
        refine ⟨by omega, ?_, by omega⟩
        split <;> rfl
      · rw [← i2]
        by_cases z : ab (lnZ n k m) < ab (lnZ n k (mbB n k m))
        · rw [if_pos ⟨q, Or.inr z⟩, if_pos z]
          exact ⟨by omega, rfl, by omega⟩
        · rw [if_neg (fun y => by rcases y.2 with y | y <;> omega), if_neg z]
          exact ⟨by omega, rfl, i3⟩
    · rw [if_neg q, e0, if_neg (fun y => q y.1), Int.add_zero]
      exact ih
theorem wayF_p {n k : Int} (h : n ≤ 12 ∧ 1 ≤ k ∧ k < n) : 1 ≤ wayF n k := wayF_1' (by omega) (by omega) h.1
theorem mb_all {n k : Int} (h : n ≤ 12 ∧ 1 ≤ k ∧ k < n) : mbB n k (p2 n).toNat = beI n k (wayF n k).toNat := by
  have r := mb_be h _ (Nat.le_refl _)
  have w := wayF_p h
  rw [(lk_f h).2] at r
  rw [p2_N]
  rcases r with r | r
  · omega
  · exact r.2.1
/-- the lot of a number -/
theorem lt_ex {n k : Int} : ∀ {m : Nat} {c : Int}, 0 ≤ c → c < cnL k m → ∃ y : Nat, y < m ∧ pcZ y = k ∧ cnL k y = c
  | 0, c, h0, h => by
    have : cnL k 0 = 0 := rfl
    omega
  | m + 1, c, h0, h => by
    rw [cnL_s] at h
    by_cases q : c < cnL k m
    · obtain ⟨y, h1, h2⟩ := lt_ex (n := n) (k := k) h0 q
      exact ⟨y, by omega, h2⟩
    · by_cases z : pcZ m = k
      · rw [if_pos z] at h
        exact ⟨m, by omega, z, by omega⟩
      · rw [if_neg z] at h
        omega
theorem lt_nb {n k c : Int} (h : n ≤ 12 ∧ 1 ≤ k ∧ k < n) (hc : 0 ≤ c ∧ c < wayF n k) : 0 ≤ nbS n.toNat 0 k c ∧ nbS n.toNat 0 k c < p2 n ∧ pcZ (nbS n.toNat 0 k c) = k ∧ cnL k (nbS n.toNat 0 k c).toNat = c := by
  have hl := lk_f h
  obtain ⟨y, h1, h2, h3⟩ := lt_ex (n := n) (k := k) (m := 2 ^ n.toNat) hc.1 (by rw [hl.2]; exact hc.2)
  have e := (hl.1 y h1 h2).2.2
  rw [h3] at e
  have hp := p2_N n
  rw [e]
  exact ⟨by omega, by omega, h2, by rw [show ((y : Nat) : Int).toNat = y from by omega]; exact h3⟩
theorem lt_s {k x t c : Int} (hx : 0 ≤ x ∧ x < t) (hp : pcZ x = k) (ht : cnL k t.toNat = c) : cnL k x.toNat < c := by
  have h1 := cnL_mono k (x := x.toNat + 1) (y := t.toNat) (by omega)
  rw [cnL_s, show ((x.toNat : Nat) : Int) = x from by omega, if_pos hp] at h1
  omega
/-- leaning, place by place -/
theorem b4095 {i : Int} (h : 0 ≤ i ∧ i < 12) : bitZ 4095 i = 1 := by
  have e : i = 0 ∨ i = 1 ∨ i = 2 ∨ i = 3 ∨ i = 4 ∨ i = 5 ∨ i = 6 ∨ i = 7 ∨ i = 8 ∨ i = 9 ∨ i = 10 ∨ i = 11 := by omega
  rcases e with h | h | h | h | h | h | h | h | h | h | h | h <;> subst h <;> decide
theorem le_1 {t n k i z : Int} (hi : 0 ≤ i ∧ i < 12) (h : z = plS t i.toNat * n - k * plS 4095 i.toNat) (hb : bitZ t i = 1) : z + (i * n - i * k) = plS t (i + 1).toNat * n - k * plS 4095 (i + 1).toNat := by
  rw [show (i + 1).toNat = i.toNat + 1 from by omega]
  show _ = (plS t i.toNat + (if bitZ t ((i.toNat : Nat) : Int) = 1 then ((i.toNat : Nat) : Int) else 0)) * n - k * (plS 4095 i.toNat + (if bitZ 4095 ((i.toNat : Nat) : Int) = 1 then ((i.toNat : Nat) : Int) else 0))
  rw [show ((i.toNat : Nat) : Int) = i from by omega, if_pos hb, if_pos (b4095 hi), h, Int.add_mul, Int.mul_add, Int.mul_comm k i]
  omega
theorem le_0 {t n k i z : Int} (hi : 0 ≤ i ∧ i < 12) (h : z = plS t i.toNat * n - k * plS 4095 i.toNat) (hb : ¬ bitZ t i = 1) : z + -i * k = plS t (i + 1).toNat * n - k * plS 4095 (i + 1).toNat := by
  rw [show (i + 1).toNat = i.toNat + 1 from by omega]
  show _ = (plS t i.toNat + (if bitZ t ((i.toNat : Nat) : Int) = 1 then ((i.toNat : Nat) : Int) else 0)) * n - k * (plS 4095 i.toNat + (if bitZ 4095 ((i.toNat : Nat) : Int) = 1 then ((i.toNat : Nat) : Int) else 0))
  rw [show ((i.toNat : Nat) : Int) = i from by omega, if_neg hb, if_pos (b4095 hi), h, Int.mul_add, Int.add_zero, Int.mul_comm k i, Int.neg_mul]
  omega
theorem lot_go {x t ix : Int} {P Q : Prop} (h : x ≤ t) (h1 : x = t → P) (h2 : x = t → Q) (h3 : ¬ (P ∧ Q)) : x < t := by
  by_cases e : x = t
  · exact absurd ⟨h1 e, h2 e⟩ h3
  · omega
theorem lot_end {x t : Int} (h : x ≤ t) (h1 : x < t → False) : x = t := by
  by_cases e : x = t
  · exact e
  · exact absurd (h1 (by omega)) id
