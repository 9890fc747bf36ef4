/-- counted over all sets: the lots that have it -/
def cgS (g : Int → Bool) (k : Int) (x : Nat) : Int := su (fun i => if pcZ i = k ∧ g i = true then 1 else 0) x
theorem cg_1 {g : Int → Bool} {k x z : Int} (hx : 0 ≤ x) (h : z = cgS g k x.toNat) (hp : pcZ x = k) (hg : g x = true) : z + 1 = cgS g k (x + 1).toNat := su_t hx h (by show (if pcZ ((x.toNat : Nat) : Int) = k ∧ g ((x.toNat : Nat) : Int) = true then (1 : Int) else 0) = 1; rw [show ((x.toNat : Nat) : Int) = x from by omega, if_pos ⟨hp, hg⟩])
theorem cg_0 {g : Int → Bool} {k x z : Int} (hx : 0 ≤ x) (h : z = cgS g k x.toNat) (hp : ¬ (pcZ x = k ∧ g x = true)) : z + 0 = cgS g k (x + 1).toNat := by
  rw [Int.add_zero]
  exact su_f hx h (by show (if pcZ ((x.toNat : Nat) : Int) = k ∧ g ((x.toNat : Nat) : Int) = true then (1 : Int) else 0) = 0; rw [show ((x.toNat : Nat) : Int) = x from by omega, if_neg hp])
theorem cg_ct {n k : Int} (h : n ≤ 12 ∧ 1 ≤ k ∧ k < n) (g : Int → Bool) : ∀ m : Nat, m ≤ 2 ^ n.toNat → cgS g k m = ctN g k (cnL k m).toNat
  | 0, _ => rfl
  | m + 1, hm => by
    have ih := cg_ct h g m (by omega)
    have hn := cnL_nn k m
    show cgS g k m + (if pcZ m = k ∧ g m = true then 1 else 0) = _
    rw [cnL_s]
    by_cases q : pcZ m = k
    · have e := ((lk_f h).1 m (by omega) q).1
      rw [if_pos q, show (cnL k m + 1).toNat = (cnL k m).toNat + 1 from by omega]
      show _ = if g (ntI k (cnL k m).toNat) = true then ctN g k (cnL k m).toNat + 1 else ctN g k (cnL k m).toNat
      rw [e, ih]
      by_cases z : g m = true
      · rw [if_pos ⟨q, z⟩, if_pos z]
      · rw [if_neg (fun y => z y.2), if_neg z, Int.add_zero]
    · rw [if_neg (fun y => q y.1), if_neg q, Int.add_zero, Int.add_zero, ih]
theorem cg_all {n k : Int} (h : n ≤ 12 ∧ 1 ≤ k ∧ k < n) (g : Int → Bool) : cgS g k (p2 n).toNat = ctN g k (wayF n k).toNat := by
  have e : (p2 n).toNat = 2 ^ n.toNat := Int.toNat_natCast _
  rw [e, cg_ct h g _ (Nat.le_refl _), (lk_f h).2]
theorem p2_N (n : Int) : (p2 n).toNat = 2 ^ n.toNat := Int.toNat_natCast _
/-- a lot's number -/
theorem rk_e {n k t : Int} (h : n ≤ 12 ∧ 1 ≤ k ∧ k < n) (ht : 0 ≤ t ∧ t < p2 n ∧ pcZ t = k) : cnL k t.toNat = (nuS t n.toNat).2 := by
  have e := p2_N n
  have r := ((lk_f h).1 t.toNat (by omega) (by rw [show ((t.toNat : Nat) : Int) = t from by omega]; exact ht.2.2)).2.1
  rw [show ((t.toNat : Nat) : Int) = t from by omega] at r
  exact r.symm
/-- the best so far -/
def mbB (n k : Int) : Nat → Int
  | 0 => -1
  | i + 1 => if pcZ i = k ∧ (mbB n k i < 0 ∨ ab (lnZ n k i) < ab (lnZ n k (mbB n k i))) then (i : Int) else mbB n k i
theorem mb_1 {n k x b : Int} (hx : 0 ≤ x) (h : b = mbB n k x.toNat) (hp : pcZ x = k) (hg : b < 0 ∨ ab (lnZ n k x) < ab (lnZ n k b)) : x = mbB n k (x + 1).toNat := by
  rw [show (x + 1).toNat = x.toNat + 1 from by omega]
  show _ = if pcZ ((x.toNat : Nat) : Int) = k ∧ (mbB n k x.toNat < 0 ∨ ab (lnZ n k ((x.toNat : Nat) : Int)) < ab (lnZ n k (mbB n k x.toNat))) then ((x.toNat : Nat) : Int) else mbB n k x.toNat
  rw [show ((x.toNat : Nat) : Int) = x from by omega, ← h, if_pos ⟨hp, hg⟩]
theorem mb_0 {n k x b : Int} (hx : 0 ≤ x) (h : b = mbB n k x.toNat) (hp : ¬ (pcZ x = k ∧ (b < 0 ∨ ab (lnZ n k x) < ab (lnZ n k b)))) : b = mbB n k (x + 1).toNat := by
  rw [show (x + 1).toNat = x.toNat + 1 from by omega]
  show _ = if pcZ ((x.toNat : Nat) : Int) = k ∧ (mbB n k x.toNat < 0 ∨ ab (lnZ n k ((x.toNat : Nat) : Int)) < ab (lnZ n k (mbB n k x.toNat))) then ((x.toNat : Nat) : Int) else mbB n k x.toNat
  rw [show ((x.toNat : Nat) : Int) = x from by omega, ← h, if_neg hp]
theorem mb_be {n k : Int} (h : n ≤ 12 ∧ 1 ≤ k ∧ k < n) : ∀ m : Nat, m ≤ 2 ^ n.toNat → (cnL k m = 0 ∧ mbB n k m = -1) ∨ (0 < cnL k m ∧ mbB n k m = beI n k (cnL k m).toNat ∧ 0 ≤ mbB n k m)
  | 0, _ => Or.inl ⟨rfl, rfl⟩
  | m + 1, hm => by
    have ih := mb_be h m (by omega)
    have hn := cnL_nn k m
    have e0 : mbB n k (m + 1) = if pcZ m = k ∧ (mbB n k m < 0 ∨ ab (lnZ n k m) < ab (lnZ n k (mbB n k m))) then (m : Int) else mbB n k m := rfl
    rw [cnL_s]
    by_cases q : pcZ m = k
    · have e := ((lk_f h).1 m (by omega) q).1
      refine Or.inr ?_
      rw [if_pos q, show (cnL k m + 1).toNat = (cnL k m).toNat + 1 from by omega]
      have e2 : beI n k ((cnL k m).toNat + 1) = if ab (lnZ n k m) < ab (lnZ n k (beI n k (cnL k m).toNat)) then (m : Int) else beI n k (cnL k m).toNat := by
        show (if ab (lnZ n k (ntI k (cnL k m).toNat)) < ab (lnZ n k (beI n k (cnL k m).toNat)) then ntI k (cnL k m).toNat else beI n k (cnL k m).toNat) = _
        rw [e]
      rw [e0, e2]
      rcases ih with ⟨i1, i2⟩ | ⟨i1, i2, i3⟩
      · rw [if_pos ⟨q, Or.inl (by omega)⟩]
        rw [i1] at e
        have e3 : beI n k (cnL k m).toNat = (m : Int) := by rw [i1]; exact e
        rw [e3]
        refine ⟨by omega, ?_, by omega⟩
        split <;> rfl
      · rw [← i2]
        by_cases z : ab (lnZ n k m) < ab (lnZ n k (mbB n k m))
        · rw [if_pos ⟨q, Or.inr z⟩, if_pos z]
          exact ⟨by omega, rfl, by omega⟩
        · rw [if_neg (fun y => by rcases y.2 with y | y <;> omega), if_neg z]
          exact ⟨by omega, rfl, i3⟩
    · rw [if_neg q, e0, if_neg (fun y => q y.1), Int.add_zero]
      exact ih
theorem wayF_p {n k : Int} (h : n ≤ 12 ∧ 1 ≤ k ∧ k < n) : 1 ≤ wayF n k := wayF_1' (by omega) (by omega) h.1
theorem mb_all {n k : Int} (h : n ≤ 12 ∧ 1 ≤ k ∧ k < n) : mbB n k (p2 n).toNat = beI n k (wayF n k).toNat := by
  have r := mb_be h _ (Nat.le_refl _)
  have w := wayF_p h
  rw [(lk_f h).2] at r
  rw [p2_N]
  rcases r with r | r
  · omega
  · exact r.2.1
/-- the lot of a number -/
theorem lt_ex {k : Int} : ∀ {m : Nat} {c : Int}, 0 ≤ c → c < cnL k m → ∃ y : Nat, y < m ∧ pcZ y = k ∧ cnL k y = c
  | 0, c, h0, h => by
    have : cnL k 0 = 0 := rfl
    omega
  | m + 1, c, h0, h => by
    rw [cnL_s] at h
    by_cases q : c < cnL k m
    · obtain ⟨y, h1, h2⟩ := lt_ex (k := k) h0 q
      exact ⟨y, by omega, h2⟩
    · by_cases z : pcZ m = k
      · rw [if_pos z] at h
        exact ⟨m, by omega, z, by omega⟩
      · rw [if_neg z] at h
        omega
theorem lt_nb {n k c : Int} (h : n ≤ 12 ∧ 1 ≤ k ∧ k < n) (hc : 0 ≤ c ∧ c < wayF n k) : 0 ≤ nbS n.toNat 0 k c ∧ nbS n.toNat 0 k c < p2 n ∧ pcZ (nbS n.toNat 0 k c) = k ∧ cnL k (nbS n.toNat 0 k c).toNat = c := by
  have hl := lk_f h
  obtain ⟨y, h1, h2, h3⟩ := lt_ex (k := k) (m := 2 ^ n.toNat) hc.1 (by rw [hl.2]; exact hc.2)
  have e := (hl.1 y h1 h2).2.2
  rw [h3] at e
  have hp := p2_N n
  rw [e]
  exact ⟨by omega, by omega, h2, by rw [show ((y : Nat) : Int).toNat = y from by omega]; exact h3⟩
theorem lt_ss {k x t c : Int} (hx : 0 ≤ x ∧ x < t) (hp : pcZ x = k) (ht : cnL k t.toNat = c) : cnL k x.toNat < c := by
  have h1 := cnL_mono k (x := x.toNat + 1) (y := t.toNat) (by omega)
  rw [cnL_s, show ((x.toNat : Nat) : Int) = x from by omega, if_pos hp] at h1
  omega
/-- leaning, place by place -/
theorem b4095 {i : Int} (h : 0 ≤ i ∧ i < 12) : bitZ 4095 i = 1 := by
  have e : i = 0 ∨ i = 1 ∨ i = 2 ∨ i = 3 ∨ i = 4 ∨ i = 5 ∨ i = 6 ∨ i = 7 ∨ i = 8 ∨ i = 9 ∨ i = 10 ∨ i = 11 := by omega
  rcases e with h | h | h | h | h | h | h | h | h | h | h | h <;> subst h <;> decide
theorem le_1 {t n k i z : Int} (hi : 0 ≤ i ∧ i < 12) (h : z = plS t i.toNat * n - k * plS 4095 i.toNat) (hb : bitZ t i = 1) : z + (i * n - i * k) = plS t (i + 1).toNat * n - k * plS 4095 (i + 1).toNat := by
  rw [show (i + 1).toNat = i.toNat + 1 from by omega]
  show _ = (plS t i.toNat + (if bitZ t ((i.toNat : Nat) : Int) = 1 then ((i.toNat : Nat) : Int) else 0)) * n - k * (plS 4095 i.toNat + (if bitZ 4095 ((i.toNat : Nat) : Int) = 1 then ((i.toNat : Nat) : Int) else 0))
  rw [show ((i.toNat : Nat) : Int) = i from by omega, if_pos hb, if_pos (b4095 hi), h, Int.add_mul, Int.mul_add, Int.mul_comm k i]
  omega
theorem le_0 {t n k i z : Int} (hi : 0 ≤ i ∧ i < 12) (h : z = plS t i.toNat * n - k * plS 4095 i.toNat) (hb : ¬ bitZ t i = 1) : z + -i * k = plS t (i + 1).toNat * n - k * plS 4095 (i + 1).toNat := by
  rw [show (i + 1).toNat = i.toNat + 1 from by omega]
  show _ = (plS t i.toNat + (if bitZ t ((i.toNat : Nat) : Int) = 1 then ((i.toNat : Nat) : Int) else 0)) * n - k * (plS 4095 i.toNat + (if bitZ 4095 ((i.toNat : Nat) : Int) = 1 then ((i.toNat : Nat) : Int) else 0))
  rw [show ((i.toNat : Nat) : Int) = i from by omega, if_neg hb, if_pos (b4095 hi), h, Int.mul_add, Int.add_zero, Int.mul_comm k i, Int.neg_mul]
  omega
theorem lot_go {x t : Int} {P Q : Prop} (h : x ≤ t) (h1 : x = t → P) (h2 : x = t → Q) (h3 : ¬ (P ∧ Q)) : x < t := by
  by_cases e : x = t
  · exact absurd ⟨h1 e, h2 e⟩ h3
  · omega
theorem lot_end {x t : Int} (h : x ≤ t) (h1 : x < t → False) : x = t := by
  by_cases e : x = t
  · exact e
  · exact absurd (h1 (by omega)) id
