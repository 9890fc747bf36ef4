/-- at least one of m claims is believed -/
def mnZ (h al q m : Int) : Int := pO (pO h al 1 ^ m.toNat - (pO h al 1 - pO h al 0) ^ m.toNat) (pO h al 1 ^ m.toNat) q
theorem mn_r {x y m : Int} (hm : 1 ≤ m ∧ m ≤ 4) (hy : 1 ≤ y ∧ y ≤ 4096) (hx : 0 ≤ x ∧ x ≤ y) : 1 ≤ y ^ m.toNat ∧ y ^ m.toNat ≤ 281474976710656 ∧ 0 ≤ y ^ m.toNat - (y - x) ^ m.toNat ∧ y ^ m.toNat - (y - x) ^ m.toNat ≤ y ^ m.toNat := by
  have p0 : ∀ j : Nat, 0 ≤ (y - x) ^ j := fun j => Int.pow_nonneg (by omega)
  have p1 : ∀ j : Nat, 1 ≤ y ^ j := fun j => by
    induction j with
    | zero => simp
    | succ j ih => rw [Int.pow_succ]; have := Int.mul_le_mul ih hy.1 (by decide) (by omega); omega
  have p2 : ∀ j : Nat, (y - x) ^ j ≤ y ^ j := fun j => by
    induction j with
    | zero => simp
    | succ j ih => rw [Int.pow_succ, Int.pow_succ]; exact Int.mul_le_mul ih (by omega) (by omega) (by have := p1 j; omega)
  have p3 : ∀ j : Nat, y ^ j ≤ 4096 ^ j := fun j => by
    induction j with
    | zero => simp
    | succ j ih => rw [Int.pow_succ, Int.pow_succ]; exact Int.mul_le_mul ih hy.2 (by omega) (Int.pow_nonneg (by decide))
  have e : m = 1 ∨ m = 2 ∨ m = 3 ∨ m = 4 := by omega
  have p4 : (4096 : Int) ^ m.toNat ≤ 281474976710656 := by rcases e with h | h | h | h <;> subst h <;> decide
  have h1 := p1 m.toNat
  have h2 := p2 m.toNat
  have h3 := p3 m.toNat
  have h4 := p0 m.toNat
  exact ⟨h1, by omega, by omega, by omega⟩
def kkZ (kd n : Int) : Int := if kd = 1 then n.tdiv 2 else 0
theorem td2 {n : Int} (h : 0 ≤ n) : 2 * n.tdiv 2 ≤ n ∧ n ≤ 2 * n.tdiv 2 + 1 := by
  rw [Int.tdiv_eq_ediv_of_nonneg h]
  omega
def fwN (kd : Int) : Int := if kd = 1 then 2 else 1
def mwN (kd : Int) : Int := if kd = 2 then 6 else if kd = 3 then 4 else if kd = 4 then 3 else 12
def mkN (kd n : Int) : Int := if kd = 4 then 3 else n - 1
theorem kk_ok {kd n : Int} (hk : 0 ≤ kd ∧ kd ≤ 3) (hn : fwN kd ≤ n ∧ n ≤ mwN kd) : okP kd n (kkZ kd n) ∧ rI (kkZ kd n) ∧ 1 ≤ n ∧ n ≤ 12 := by
  have e : kd = 0 ∨ kd = 1 ∨ kd = 2 ∨ kd = 3 := by omega
  unfold okP
  rcases e with h | h | h | h <;> subst h
  · have h1 : 1 ≤ n ∧ n ≤ 12 := hn
    exact ⟨Or.inl ⟨rfl, h1⟩, (by decide : rI 0), h1⟩
  · have h1 : 2 ≤ n ∧ n ≤ 12 := hn
    have h2 := td2 (n := n) (by omega)
    have h3 : kkZ 1 n = n.tdiv 2 := rfl
    rw [h3]
    exact ⟨Or.inr (Or.inl ⟨rfl, by omega, by omega, by omega, by omega⟩), by omega, by omega⟩
  · have h1 : 1 ≤ n ∧ n ≤ 6 := hn
    exact ⟨Or.inr (Or.inr (Or.inl ⟨rfl, h1⟩)), (by decide : rI 0), by omega⟩
  · have h1 : 1 ≤ n ∧ n ≤ 4 := hn
    exact ⟨Or.inr (Or.inr (Or.inr (Or.inl ⟨rfl, h1⟩))), (by decide : rI 0), by omega⟩



def fwS (kd p a q : Int) : Nat → Int
  | 0 => -9
  | m + 1 => if alZ kd (mwN kd - m) * q ≤ 1000 * tlS (csZ kd (mwN kd - m) (kkZ kd (mwN kd - m)) a) (lnF (fun i => decide (1000 * tlS (csZ kd (mwN kd - m) (kkZ kd (mwN kd - m)) 5) i ≤ alZ kd (mwN kd - m) * p)) (moZ kd (mwN kd - m) + 1).toNat) then mwN kd - m else fwS kd p a q m
/-- the least d so that p is kept -/
def kpS (n st p : Int) : Nat → Int
  | 0 => 13
  | m + 1 => if 1000 * (lkS st (12 - m) 5 n.toNat).2 ≤ 10 ^ n.toNat * p then 12 - m else kpS n st p m
theorem kp_0 {n st q d : Int} (hd : 1 ≤ d ∧ d ≤ 12) (hs : kpS n st q 12 = kpS n st q (13 - d).toNat) (h : ¬ (1000 * (lkS st d 5 n.toNat).2 ≤ 10 ^ n.toNat * q)) : kpS n st q 12 = kpS n st q (13 - (d + 1)).toNat := by
  rw [hs, show (13 - d).toNat = (13 - (d + 1)).toNat + 1 from by omega]
  show (if 1000 * (lkS st (12 - ((13 - (d + 1)).toNat : Nat)) 5 n.toNat).2 ≤ 10 ^ n.toNat * q then _ else _) = _
  rw [show (12 : Int) - ((13 - (d + 1)).toNat : Nat) = d from by omega, if_neg h]
theorem kp_1 {n st q d : Int} (hd : 1 ≤ d ∧ d ≤ 12) (hs : kpS n st q 12 = kpS n st q (13 - d).toNat) (h : 1000 * (lkS st d 5 n.toNat).2 ≤ 10 ^ n.toNat * q) : d = kpS n st q 12 := by
  rw [hs, show (13 - d).toNat = (13 - (d + 1)).toNat + 1 from by omega]
  show _ = if 1000 * (lkS st (12 - ((13 - (d + 1)).toNat : Nat)) 5 n.toNat).2 ≤ 10 ^ n.toNat * q then (12 : Int) - ((13 - (d + 1)).toNat : Nat) else _
  rw [show (12 : Int) - ((13 - (d + 1)).toNat : Nat) = d from by omega, if_pos h]
theorem be_b {x c : Int} (h : 0 ≤ x ∧ x ≤ 99) (hc : 0 ≤ c) : 0 ≤ x * c ∧ x * c ≤ 99 * c := ⟨Int.mul_nonneg h.1 hc, Int.mul_le_mul_of_nonneg_right h.2 hc⟩
theorem gn_b {kd n k a : Int} (hv : okP kd n k) (ha : 0 ≤ a ∧ a ≤ 10) : 0 ≤ (alZ kd n).tdiv 10 * a * n ∧ (alZ kd n).tdiv 10 * a * n ≤ 12 * alZ kd n := by
  have h1 := al_b hv
  have hn : 1 ≤ n ∧ n ≤ 12 := by unfold okP at hv; omega
  rw [Int.tdiv_eq_ediv_of_nonneg (by omega)]
  have h2 : 0 ≤ alZ kd n / 10 := by omega
  have h3 := Int.mul_nonneg h2 ha.1
  have h4 := Int.mul_le_mul_of_nonneg_left ha.2 h2
  have h5 := Int.mul_nonneg h3 (by omega : 0 ≤ n)
  have h6 := Int.mul_le_mul_of_nonneg_left hn.2 h3
  exact ⟨h5, by omega⟩
theorem kcm_ge {x y : Int} (h : ¬ kcm x y < 0) : y ≤ x := by
  unfold kcm at h
  split at h
  · omega
  · omega
theorem kcm_ge2 {x y : Int} (h : y ≤ x) : ¬ kcm x y < 0 := by
  unfold kcm
  rw [if_neg (by omega)]
  split <;> decide
theorem fw_0 {kd p a q n : Int} (hn : fwN kd ≤ n ∧ n ≤ mwN kd) (hs : fwS kd p a q (mwN kd + 1 - fwN kd).toNat = fwS kd p a q (mwN kd + 1 - n).toNat) (h : ¬ (alZ kd n * q ≤ 1000 * tlS (csZ kd n (kkZ kd n) a) (lnF (fun i => decide (1000 * tlS (csZ kd n (kkZ kd n) 5) i ≤ alZ kd n * p)) (moZ kd n + 1).toNat))) : fwS kd p a q (mwN kd + 1 - fwN kd).toNat = fwS kd p a q (mwN kd + 1 - (n + 1)).toNat := by
  rw [hs, show (mwN kd + 1 - n).toNat = (mwN kd + 1 - (n + 1)).toNat + 1 from by omega]
  unfold fwS
  rw [show mwN kd - ((mwN kd + 1 - (n + 1)).toNat : Nat) = n from by omega, if_neg h]
  generalize (mwN kd + 1 - (n + 1)).toNat = x
  cases x <;> rfl
theorem fw_1 {kd p a q n : Int} (hn : fwN kd ≤ n ∧ n ≤ mwN kd) (hs : fwS kd p a q (mwN kd + 1 - fwN kd).toNat = fwS kd p a q (mwN kd + 1 - n).toNat) (h : alZ kd n * q ≤ 1000 * tlS (csZ kd n (kkZ kd n) a) (lnF (fun i => decide (1000 * tlS (csZ kd n (kkZ kd n) 5) i ≤ alZ kd n * p)) (moZ kd n + 1).toNat)) : n = fwS kd p a q (mwN kd + 1 - fwN kd).toNat := by
  rw [hs, show (mwN kd + 1 - n).toNat = (mwN kd + 1 - (n + 1)).toNat + 1 from by omega]
  unfold fwS
  rw [show mwN kd - ((mwN kd + 1 - (n + 1)).toNat : Nat) = n from by omega, if_pos h]
theorem mx_0 (x : Nat) : (max (x : Int) 0).toNat = x := by omega
