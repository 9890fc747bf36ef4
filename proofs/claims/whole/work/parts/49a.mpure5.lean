/-! ===== the reference: lots ===== -/
theorem cdL_c (kd x : Int) : (kd = 1 ∧ cdL kd x = x) ∨ (kd ≠ 1 ∧ cdL kd x = -3) := by
  unfold cdL
  split <;> omega
theorem cdL_h (kd : Int) (H : Prop) [Decidable H] : (kd ≠ 1 ∧ cdL kd (if H then 0 else -1) = -3) ∨ (kd = 1 ∧ H ∧ cdL kd (if H then 0 else -1) = 0) ∨ (kd = 1 ∧ ¬ H ∧ cdL kd (if H then 0 else -1) = -1) := by
  unfold cdL
  by_cases q : kd = 1
  · rw [if_pos q]
    by_cases h : H
    · rw [if_pos h]; exact Or.inr (Or.inl ⟨q, h, rfl⟩)
    · rw [if_neg h]; exact Or.inr (Or.inr ⟨q, h, rfl⟩)
  · rw [if_neg q]; exact Or.inl ⟨q, rfl⟩
def hvZ (v : Int) : Int := ((v.toNat / 2 : Nat) : Int)
theorem hv_e {v : Int} (h : 0 ≤ v ∧ v < 2147483648) : iI v >>> (iI 1 &&& 31) = iI (hvZ v) := sh_eq h (by decide)
theorem pcn_0 : ∀ f : Nat, pcn f 0 = 0
  | 0 => rfl
  | f + 1 => by
    show 0 % 2 + pcn f (0 / 2) = 0
    rw [show 0 / 2 = 0 from rfl, pcn_0 f]
theorem bt_1 {z v X : Int} {f : Nat} (h : z + (pcn f v.toNat : Int) = X) (hv : 0 < v) (hf : v.toNat < 2 ^ f) : z + anZ v 1 + (pcn (f - 1) (hvZ v).toNat : Int) = X ∧ (hvZ v).toNat < 2 ^ (f - 1) ∧ 0 ≤ hvZ v ∧ hvZ v < v := by
  cases f with
  | zero => rw [Nat.pow_zero] at hf; omega
  | succ f =>
    have e1 : anZ v 1 = ((v.toNat % 2 : Nat) : Int) := by
      unfold anZ
      rw [show (1 : Int).toNat = 1 from rfl, Nat.and_one_is_mod]
    have e2 : (hvZ v).toNat = v.toNat / 2 := by unfold hvZ; omega
    have e3 : pcn (f + 1) v.toNat = v.toNat % 2 + pcn f (v.toNat / 2) := rfl
    rw [Nat.pow_succ] at hf
    rw [e3] at h
    refine ⟨?_, ?_, ?_, ?_⟩
    · rw [e1, e2, Nat.add_sub_cancel]; omega
    · rw [e2, Nat.add_sub_cancel]; omega
    · unfold hvZ; omega
    · unfold hvZ; omega
/-- how many of the sets below are lots -/
def cnL (k : Int) (x : Nat) : Int := su (fun i => if pcZ i = k then 1 else 0) x
theorem cn_1 {k x z : Int} (hx : 0 ≤ x) (h : z = cnL k x.toNat) (hp : pcZ x = k) : z + 1 = cnL k (x + 1).toNat := su_t hx h (by show (if pcZ ((x.toNat : Nat) : Int) = k then (1 : Int) else 0) = 1; rw [show ((x.toNat : Nat) : Int) = x from by omega, if_pos hp])
theorem cn_0 {k x z : Int} (hx : 0 ≤ x) (h : z = cnL k x.toNat) (hp : ¬ pcZ x = k) : z + 0 = cnL k (x + 1).toNat := by
  rw [Int.add_zero]
  exact su_f hx h (by show (if pcZ ((x.toNat : Nat) : Int) = k then (1 : Int) else 0) = 0; rw [show ((x.toNat : Nat) : Int) = x from by omega, if_neg hp])
theorem cnL_s (k : Int) (x : Nat) : cnL k (x + 1) = cnL k x + (if pcZ x = k then 1 else 0) := rfl
theorem cnL_nn (k : Int) (x : Nat) : 0 ≤ cnL k x := su_nn (fun j _ => by split <;> omega)
theorem cnL_le (k : Int) (x : Nat) : cnL k x ≤ x := by
  have := (su_bd (f := fun i : Nat => if pcZ i = k then (1 : Int) else 0) (c := 1) (n := x) (fun j _ => by split <;> omega)).2
  unfold cnL
  omega
theorem cnL_mono (k : Int) : ∀ {x y : Nat}, x ≤ y → cnL k x ≤ cnL k y := by
  intro x y h
  exact su_up (f := fun i : Nat => if pcZ i = k then (1 : Int) else 0) (fun j => by split <;> omega) h
def lkC (n k : Int) : Nat → Nat → Int → Int → Bool
  | 0, _, c, _ => decide (c = wayF n k)
  | m + 1, x, c, t => if pcZ x = k then decide (t = x) && decide ((nuS x n.toNat).2 = c) && decide (nbS n.toNat 0 k c = x) && lkC n k m (x + 1) (c + 1) (nxZ t) else lkC n k m (x + 1) c t
theorem lk_d2 : ∀ n : Fin 10, ∀ k : Fin 9, 1 ≤ k.1 → k.1 < n.1 → lkC (n.1 : Int) (k.1 : Int) (2 ^ n.1) 0 0 (p2 k.1 - 1) = true := by decide +kernel
theorem lk_d10 : ∀ k : Fin 10, 1 ≤ k.1 → lkC 10 (k.1 : Int) (2 ^ 10) 0 0 (p2 k.1 - 1) = true := by decide +kernel
theorem lk_d11 : ∀ k : Fin 11, 1 ≤ k.1 → lkC 11 (k.1 : Int) (2 ^ 11) 0 0 (p2 k.1 - 1) = true := by decide +kernel
theorem lk_d12 : ∀ k : Fin 12, 1 ≤ k.1 → lkC 12 (k.1 : Int) (2 ^ 12) 0 0 (p2 k.1 - 1) = true := by decide +kernel
theorem lk_in {n k : Int} : ∀ {m x : Nat} {c t : Int}, lkC n k m x c t = true → c = cnL k x → t = ntI k c.toNat → (∀ y : Nat, x ≤ y → y < x + m → pcZ y = k → ntI k (cnL k y).toNat = y ∧ (nuS y n.toNat).2 = cnL k y ∧ nbS n.toNat 0 k (cnL k y) = y) ∧ cnL k (x + m) = wayF n k
  | 0, x, c, t, h, hc, _ => ⟨fun y h1 h2 => by omega, by rw [Nat.add_zero, ← hc]; exact of_decide_eq_true h⟩
  | m + 1, x, c, t, h, hc, ht => by
    have hc0 : 0 ≤ c := by rw [hc]; exact cnL_nn k x
    unfold lkC at h
    by_cases q : pcZ x = k
    · rw [if_pos q, Bool.and_eq_true, Bool.and_eq_true, Bool.and_eq_true, decide_eq_true_eq, decide_eq_true_eq, decide_eq_true_eq] at h
      obtain ⟨⟨⟨h1, h2⟩, h3⟩, h4⟩ := h
      have r := lk_in (n := n) (k := k) h4 (by rw [cnL_s, if_pos q, hc]) (by rw [ht, show (c + 1).toNat = c.toNat + 1 from by omega]; rfl)
      rw [show x + 1 + m = x + (m + 1) from by omega] at r
      refine ⟨fun y h5 h6 h7 => ?_, r.2⟩
      by_cases z : y = x
      · subst z
        rw [← hc]
        exact ⟨by rw [← ht]; exact h1, h2, h3⟩
      · exact r.1 y (by omega) h6 h7
    · rw [if_neg q] at h
      have r := lk_in (n := n) (k := k) h (by rw [cnL_s, if_neg q, Int.add_zero]; exact hc) ht
      rw [show x + 1 + m = x + (m + 1) from by omega] at r
      refine ⟨fun y h5 h6 h7 => ?_, r.2⟩
      by_cases z : y = x
      · subst z; exact absurd h7 q
      · exact r.1 y (by omega) h6 h7
theorem lk_f {n k : Int} (h : n ≤ 12 ∧ 1 ≤ k ∧ k < n) : (∀ y : Nat, y < 2 ^ n.toNat → pcZ y = k → ntI k (cnL k y).toNat = y ∧ (nuS y n.toNat).2 = cnL k y ∧ nbS n.toNat 0 k (cnL k y) = y) ∧ cnL k (2 ^ n.toNat) = wayF n k := by
  have hb : lkC n k (2 ^ n.toNat) 0 0 (p2 k - 1) = true := by
    have ek : ((k.toNat : Nat) : Int) = k := by omega
    have en : ((n.toNat : Nat) : Int) = n := by omega
    by_cases q : n ≤ 9
    · have := lk_d2 ⟨n.toNat, by omega⟩ ⟨k.toNat, by omega⟩ (by show 1 ≤ k.toNat; omega) (by show k.toNat < n.toNat; omega)
      dsimp only at this
      rwa [ek, en] at this
    · have e : n = 10 ∨ n = 11 ∨ n = 12 := by omega
      rcases e with e | e | e <;> subst e
      · have := lk_d10 ⟨k.toNat, by omega⟩ (by show 1 ≤ k.toNat; omega)
        dsimp only at this
        rwa [ek] at this
      · have := lk_d11 ⟨k.toNat, by omega⟩ (by show 1 ≤ k.toNat; omega)
        dsimp only at this
        rwa [ek] at this
      · have := lk_d12 ⟨k.toNat, by omega⟩ (by show 1 ≤ k.toNat; omega)
        dsimp only at this
        rwa [ek] at this
  have r := lk_in (n := n) (k := k) hb rfl rfl
  rw [Nat.zero_add] at r
  exact ⟨fun y h1 h2 => r.1 y (Nat.zero_le _) h1 h2, r.2⟩
