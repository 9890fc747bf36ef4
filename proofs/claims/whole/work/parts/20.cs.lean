/-! ===== pure: bounds of the counts (kept apart: proved below) ===== -/
def rfU (R : Nat → Int) (cd : Int) : Nat → Int := if cd = 0 then R else va_up R (-1 - cd).toNat (R (-1 - cd).toNat + 1)
def reL (cd v : Int) : Int := if cd = 0 then v else 4000000000000000000 - cd
def reI (cd v : Int) : Int := if cd = 0 then v else cd
theorem al_b {kd n k : Int} (hv : okP kd n k) : 1 ≤ alZ kd n ∧ alZ kd n ≤ 27720000000000000 := by
  unfold okP at hv
  have e : n = 1 ∨ n = 2 ∨ n = 3 ∨ n = 4 ∨ n = 5 ∨ n = 6 ∨ n = 7 ∨ n = 8 ∨ n = 9 ∨ n = 10 ∨ n = 11 ∨ n = 12 := by omega
  rcases hv with ⟨h, h2⟩ | ⟨h, h2⟩ | ⟨h, h2⟩ | ⟨h, h2⟩ | ⟨h, h2⟩ <;> subst h <;> rcases e with h | h | h | h | h | h | h | h | h | h | h | h <;> subst h <;> first | (exfalso; omega) | decide +kernel
theorem su_one {f : Nat → Int} (h : ∀ j, 0 ≤ f j) : ∀ {n i : Nat}, i < n → f i ≤ su f n
  | 0, _, hi => absurd hi (Nat.not_lt_zero _)
  | n + 1, i, hi => by
    show f i ≤ su f n + f n
    have h0 := su_nn (f := f) (n := n) (fun j _ => h j)
    have h1 := h n
    by_cases q : i = n
    · subst q; omega
    · have := su_one h (show i < n by omega); omega
theorem su_split (f : Nat → Int) (i : Nat) : ∀ d : Nat, su f (i + d) = su f i + su (fun j => f (i + j)) d
  | 0 => by show su f i = su f i + 0; omega
  | d + 1 => by
    show su f (i + d) + f (i + d) = su f i + (su (fun j => f (i + j)) d + f (i + d))
    rw [su_split f i d]
    omega
theorem cs_le {kd n k a : Int} (hv : okP kd n k) (ha : 0 ≤ a ∧ a ≤ 10) {j : Nat} (hj : j < 13) : csZ kd n k a j ≤ alZ kd n := by
  rw [← cs_sum hv ha]
  exact su_one (cs_nn hv ha) hj
theorem tl_b {kd n k a : Int} (hv : okP kd n k) (ha : 0 ≤ a ∧ a ≤ 10) (i : Nat) : 0 ≤ tlS (csZ kd n k a) i ∧ tlS (csZ kd n k a) i ≤ alZ kd n := by
  unfold tlS
  have h0 := su_nn (f := fun j => csZ kd n k a (i + j)) (n := 13 - i) (fun j _ => cs_nn hv ha _)
  refine ⟨h0, ?_⟩
  by_cases q : i ≤ 13
  · have h1 := su_split (csZ kd n k a) i (13 - i)
    rw [show i + (13 - i) = 13 from by omega, cs_sum hv ha] at h1
    have h2 := su_nn (f := csZ kd n k a) (n := i) (fun j _ => cs_nn hv ha _)
    omega
  · rw [show 13 - i = 0 from by omega]
    have := (al_b hv).1
    show (0 : Int) ≤ _
    omega
theorem su_le {f g : Nat → Int} : ∀ {n : Nat}, (∀ j, j < n → f j ≤ g j) → su f n ≤ su g n
  | 0, _ => Int.le_refl 0
  | n + 1, h => by
    show su f n + f n ≤ su g n + g n
    have h1 := su_le (f := f) (g := g) (n := n) (fun j hj => h j (by omega))
    have h2 := h n (by omega)
    omega
theorem to_b {kd n k a : Int} (hv : okP kd n k) (ha : 0 ≤ a ∧ a ≤ 10) : 0 ≤ toS (csZ kd n k a) ∧ toS (csZ kd n k a) ≤ 12 * alZ kd n := by
  unfold toS
  refine ⟨su_nn (fun j _ => Int.mul_nonneg (by omega) (cs_nn hv ha j)), ?_⟩
  rw [← cs_sum hv ha, ← su_mul]
  exact su_le (fun j hj => Int.mul_le_mul_of_nonneg_right (by omega) (cs_nn hv ha j))
theorem tlS_congr {F F' : Nat → Int} (h : ∀ j : Nat, j < 13 → F j = F' j) (i : Nat) : tlS F i = tlS F' i := su_congr (fun j hj => h _ (by omega))
theorem toS_congr {F F' : Nat → Int} (h : ∀ j : Nat, j < 13 → F j = F' j) : toS F = toS F' := su_congr (fun j hj => by rw [h j hj])
/-- refusals of a plan's methods: (part), a, right up to a bound -/
def cdO (q a r mo : Int) : Int := if q ≠ 0 ∧ q ≠ 1 then -2 else if a < 0 ∨ r < 0 then -4 else if 10 < a ∨ mo < r then -6 else 0
def cdQ (q : Int) : Int := if q ≠ 0 ∧ q ≠ 1 then -2 else -1
def cdR (r mo : Int) : Int := if r < 0 then -4 else if mo < r then -6 else 0
/-- what a rule believes: the cases of the ends -/
def hbS (C : Nat → Int) (cn : Nat) (kd n k : Int) (f : Nat → Int) : Nat → Int
  | 0 => 0
  | i + 1 => hbS C cn kd n k f i + (if f i ≠ 0 ∧ ppV (evL C cn (fun z => voZ z kd n k i) cn) = lI 1 then f i else 0)
theorem hb_1 {C : Nat → Int} {cn : Nat} {kd n k i sm : Int} {f : Nat → Int} (hi : 0 ≤ i) (hs : sm = hbS C cn kd n k f i.toNat) (h0 : f i.toNat ≠ 0) (h1 : ppV (evL C cn (fun z => voZ z kd n k i) cn) = lI 1) : sm + f i.toNat = hbS C cn kd n k f (i + 1).toNat := by
  rw [show (i + 1).toNat = i.toNat + 1 from by omega]
  show _ = hbS C cn kd n k f i.toNat + (if f i.toNat ≠ 0 ∧ ppV (evL C cn (fun z => voZ z kd n k (i.toNat : Int)) cn) = lI 1 then f i.toNat else 0)
  rw [show ((i.toNat : Nat) : Int) = i from by omega, if_pos ⟨h0, h1⟩, hs]
theorem hb_0 {C : Nat → Int} {cn : Nat} {kd n k i sm : Int} {f : Nat → Int} (hi : 0 ≤ i) (hs : sm = hbS C cn kd n k f i.toNat) (h0 : ¬ (f i.toNat ≠ 0 ∧ ppV (evL C cn (fun z => voZ z kd n k i) cn) = lI 1)) : sm = hbS C cn kd n k f (i + 1).toNat := by
  rw [show (i + 1).toNat = i.toNat + 1 from by omega]
  show _ = hbS C cn kd n k f i.toNat + (if f i.toNat ≠ 0 ∧ ppV (evL C cn (fun z => voZ z kd n k (i.toNat : Int)) cn) = lI 1 then f i.toNat else 0)
  rw [show ((i.toNat : Nat) : Int) = i from by omega, if_neg h0, hs]
  omega
