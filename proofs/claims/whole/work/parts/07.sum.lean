/-! ===== pure: sums; the ways in which she names K ===== -/
def su (f : Nat → Int) : Nat → Int
  | 0 => 0
  | n + 1 => su f n + f n
theorem su_congr {f g : Nat → Int} : ∀ {n : Nat}, (∀ j, j < n → f j = g j) → su f n = su g n
  | 0, _ => rfl
  | n + 1, h => by
    show su f n + f n = su g n + g n
    rw [su_congr (fun j hj => h j (by omega)), h n (by omega)]
theorem su_mul (c : Int) (f : Nat → Int) : ∀ n : Nat, su (fun j => c * f j) n = c * su f n
  | 0 => by show (0 : Int) = c * 0; omega
  | n + 1 => by
    show su (fun j => c * f j) n + c * f n = c * (su f n + f n)
    rw [su_mul c f n, Int.mul_add]
theorem su_nn {f : Nat → Int} : ∀ {n : Nat}, (∀ j, j < n → 0 ≤ f j) → 0 ≤ su f n
  | 0, _ => Int.le_refl 0
  | n + 1, h => by
    show 0 ≤ su f n + f n
    have h1 := su_nn (f := f) (n := n) (fun j hj => h j (by omega))
    have h2 := h n (by omega)
    omega
theorem su_z {f : Nat → Int} : ∀ {n : Nat}, (∀ j, j < n → f j = 0) → su f n = 0
  | 0, _ => rfl
  | n + 1, h => by
    show su f n + f n = 0
    rw [su_z (fun j hj => h j (by omega)), h n (by omega)]
    rfl
def adR (n k g b t : Int) : Int := n - 2 * (k - (if k ≤ g + b then 0 else g) - t)
def adW (n k g b t : Int) : Int := wayF (if k ≤ g + b then g else k - g) t * wayF (if k ≤ g + b then b else n - k - b) ((if k ≤ g + b then k else k - g - b) - t)
def adL (n k g b : Int) : Int := wayF ((if k ≤ g + b then g else k - g) + (if k ≤ g + b then b else n - k - b)) (if k ≤ g + b then k else k - g - b)
def adD (k g b : Int) : Int := if k ≤ g + b then k else k - g - b
def adC (n k g b : Int) (j : Nat) (T : Nat) : Int := su (fun t => if adR n k g b t = j then adW n k g b t else 0) T
theorem ad_in {F F2 : Nat → Int} {q n k g b t r v : Int} {nn : Nat} (ht : 0 ≤ t) (hr : r = adR n k g b t) (hr0 : 0 ≤ r) (hv : v = adW n k g b t) (h : ∀ j : Nat, j < nn → F2 j = F j + q * adC n k g b j t.toNat) : ∀ j : Nat, j < nn → va_up F2 r.toNat (F2 r.toNat + q * v) j = F j + q * adC n k g b j (t + 1).toNat := by
  intro j hj
  have e1 : (t + 1).toNat = t.toNat + 1 := by omega
  have e2 : ((t.toNat : Nat) : Int) = t := by omega
  rw [e1]
  show _ = F j + q * (adC n k g b j t.toNat + if adR n k g b (t.toNat : Int) = j then adW n k g b (t.toNat : Int) else 0)
  rw [e2, ← hr, ← hv]
  by_cases q1 : j = r.toNat
  · subst q1
    rw [va_up_self, if_pos (by omega), Int.mul_add, h _ hj]
    omega
  · rw [va_up_ne _ _ q1, if_neg (by omega), h j hj]
    simp
theorem ad_out {F F2 : Nat → Int} {q n k g b t r : Int} {nn : Nat} (ht : 0 ≤ t) (hr : r = adR n k g b t) (hr0 : r < 0 ∨ (nn : Int) ≤ r) (h : ∀ j : Nat, j < nn → F2 j = F j + q * adC n k g b j t.toNat) : ∀ j : Nat, j < nn → F2 j = F j + q * adC n k g b j (t + 1).toNat := by
  intro j hj
  have e1 : (t + 1).toNat = t.toNat + 1 := by omega
  have e2 : ((t.toNat : Nat) : Int) = t := by omega
  rw [e1]
  show _ = F j + q * (adC n k g b j t.toNat + if adR n k g b (t.toNat : Int) = j then adW n k g b (t.toNat : Int) else 0)
  rw [e2, ← hr, if_neg (by omega), h j hj]
  simp
theorem wayF_1 : ∀ n : Nat, n < 13 → ∀ k : Nat, k < 13 → k ≤ n → 1 ≤ wayF n k := by decide +kernel
theorem wayF_1' {n k : Int} (h0 : 0 ≤ k) (h1 : k ≤ n) (h2 : n ≤ 12) : 1 ≤ wayF n k := by
  have h := wayF_1 n.toNat (by omega) k.toNat (by omega) (by omega)
  rwa [show ((n.toNat : Nat) : Int) = n from by omega, show ((k.toNat : Nat) : Int) = k from by omega] at h
theorem adL_1 {n k g b : Int} (hn : n ≤ 12) (hk : 1 ≤ k ∧ k < n) (hg : 0 ≤ g ∧ g ≤ k) (hb : 0 ≤ b ∧ b ≤ n - k) : 1 ≤ adL n k g b ∧ adL n k g b ≤ 924 := by
  refine ⟨?_, (wayF_b _ _).2⟩
  unfold adL
  by_cases q : k ≤ g + b
  · simp only [if_pos q]
    exact wayF_1' (by omega) (by omega) (by omega)
  · simp only [if_neg q]
    exact wayF_1' (by omega) (by omega) (by omega)
/-- one way to seem: how many cases -/
def seZ (n k a g b : Int) : Int := wayF k g * wayF (n - k) b * a ^ (g + n - k - b).toNat * (10 - a) ^ (n - (g + n - k - b)).toNat
def seB : Bool := (List.range 13).all fun n => (List.range n).all fun k => (List.range 11).all fun a => (List.range (k + 1)).all fun g => (List.range (n - k + 1)).all fun b => decide (0 ≤ seZ n k a g b ∧ seZ n k a g b * evenT n < 9223372036854775808)
theorem seB_t : seB = true := by decide +kernel
theorem se_b {n k a g b : Int} (hn : n ≤ 12) (hk : 1 ≤ k ∧ k < n) (ha : 0 ≤ a ∧ a ≤ 10) (hg : 0 ≤ g ∧ g ≤ k) (hb : 0 ≤ b ∧ b ≤ n - k) : 0 ≤ seZ n k a g b ∧ seZ n k a g b * evenT n.toNat < 9223372036854775808 := by
  have h := seB_t
  unfold seB at h
  have h1 := List.all_eq_true.mp h n.toNat (List.mem_range.mpr (by omega))
  have h2 := List.all_eq_true.mp h1 k.toNat (List.mem_range.mpr (by omega))
  have h3 := List.all_eq_true.mp h2 a.toNat (List.mem_range.mpr (by omega))
  have h4 := List.all_eq_true.mp h3 g.toNat (List.mem_range.mpr (by omega))
  have h5 := List.all_eq_true.mp h4 b.toNat (List.mem_range.mpr (by omega))
  have h6 := of_decide_eq_true h5
  rwa [show ((n.toNat : Nat) : Int) = n from by omega, show ((k.toNat : Nat) : Int) = k from by omega, show ((a.toNat : Nat) : Int) = a from by omega, show ((g.toNat : Nat) : Int) = g from by omega, show ((b.toNat : Nat) : Int) = b from by omega] at h6
def fxT (n k a g b : Int) (j : Nat) : Int := (seZ n k a g b * evenT n.toNat).tdiv (adL n k g b) * adC n k g b j (adD k g b + 1).toNat
def fxR (n k a g : Int) (j : Nat) (B : Nat) : Int := su (fun b => fxT n k a g b j) B
/-- FIXED: in how many cases just j are RIGHT -/
def fxC (n k a : Int) (j : Nat) (Gn : Nat) : Int := su (fun g => fxR n k a g j (n - k + 1).toNat) Gn
theorem fx_0 {F F2 : Nat → Int} {n k a g b : Int} {nn : Nat} (hb : 0 ≤ b) (hz : seZ n k a g b = 0) (h : ∀ j : Nat, j < nn → F2 j = F j + fxR n k a g j b.toNat) : ∀ j : Nat, j < nn → F2 j = F j + fxR n k a g j (b + 1).toNat := by
  intro j hj
  rw [show (b + 1).toNat = b.toNat + 1 from by omega]
  show _ = F j + (fxR n k a g j b.toNat + fxT n k a g (b.toNat : Int) j)
  rw [show ((b.toNat : Nat) : Int) = b from by omega, h j hj]
  unfold fxT
  rw [hz]
  simp
theorem fx_1 {F F2 F3 : Nat → Int} {n k a g b : Int} {nn : Nat} (hb : 0 ≤ b) (h : ∀ j : Nat, j < nn → F2 j = F j + fxR n k a g j b.toNat) (h3 : ∀ j : Nat, j < nn → F3 j = F2 j + (seZ n k a g b * evenT n.toNat).tdiv (adL n k g b) * adC n k g b j (adD k g b + 1).toNat) : ∀ j : Nat, j < nn → F3 j = F j + fxR n k a g j (b + 1).toNat := by
  intro j hj
  rw [show (b + 1).toNat = b.toNat + 1 from by omega]
  show _ = F j + (fxR n k a g j b.toNat + fxT n k a g (b.toNat : Int) j)
  rw [show ((b.toNat : Nat) : Int) = b from by omega, h3 j hj, h j hj]
  unfold fxT
  omega
theorem fx_2 {F F2 F3 : Nat → Int} {n k a g : Int} {nn : Nat} (hg : 0 ≤ g) (h : ∀ j : Nat, j < nn → F2 j = F j + fxC n k a j g.toNat) (h3 : ∀ j : Nat, j < nn → F3 j = F2 j + fxR n k a g j (n - k + 1).toNat) : ∀ j : Nat, j < nn → F3 j = F j + fxC n k a j (g + 1).toNat := by
  intro j hj
  rw [show (g + 1).toNat = g.toNat + 1 from by omega]
  show _ = F j + (fxC n k a j g.toNat + fxR n k a (g.toNat : Int) j (n - k + 1).toNat)
  rw [show ((g.toNat : Nat) : Int) = g from by omega, h3 j hj, h j hj]
  omega
/-! each of n ends right in x of y cases -/
def eaC (n x y : Int) (j : Nat) : Int := wayF n j * x ^ j * (y - x) ^ (n - j).toNat
/-! two rows of ends together -/
def cvT (F B : Nat → Int) (i : Nat) (j : Nat) (r : Nat) : Int := if i + j = r then F i * B j else 0
def cvI (F B : Nat → Int) (i : Nat) (r : Nat) (J : Nat) : Int := su (fun j => cvT F B i j r) J
def cvC (F B : Nat → Int) (r : Nat) (Gi : Nat) : Int := su (fun i => cvI F B i r 5) Gi
def cvN (B : Nat → Int) : Nat → Nat → Int
  | 0 => fun r => if r = 0 then 1 else 0
  | m + 1 => fun r => cvC (cvN B m) B r 13
/-- what is RIGHT at last -/
def tlS (F : Nat → Int) (i : Nat) : Int := su (fun j => F (i + j)) (13 - i)
def toS (F : Nat → Int) : Int := su (fun j => j * F j) 13
/-- the least line, from the top -/
def lnF (ok : Nat → Bool) : Nat → Nat
  | 0 => 0
  | l + 1 => if ok l = true then lnF ok l else l + 1
theorem sq_b {a : Int} (h : 0 ≤ a ∧ a ≤ 10) : 0 ≤ 2 * a * a ∧ 2 * a * a ≤ 200 ∧ 0 ≤ a * a * a ∧ a * a * a ≤ 1000 ∧ 0 ≤ a * a ∧ a * a ≤ 100 := by
  have h2 : a = 0 ∨ a = 1 ∨ a = 2 ∨ a = 3 ∨ a = 4 ∨ a = 5 ∨ a = 6 ∨ a = 7 ∨ a = 8 ∨ a = 9 ∨ a = 10 := by omega
  rcases h2 with h | h | h | h | h | h | h | h | h | h | h <;> rw [h] <;> decide
theorem ea_step {F F2 : Nat → Int} {n x y i : Int} (hi : 0 ≤ i) (h : ∀ j : Nat, j < 13 → F2 j = if (j : Int) < i then eaC n x y j else F j) : ∀ j : Nat, j < 13 → va_up F2 i.toNat (wayF n i * x ^ i.toNat * (y - x) ^ (n - i).toNat) j = if (j : Int) < i + 1 then eaC n x y j else F j := by
  intro j hj
  by_cases q : j = i.toNat
  · subst q
    rw [va_up_self, if_pos (by omega)]
    unfold eaC
    rw [show ((i.toNat : Nat) : Int) = i from by omega]
  · rw [va_up_ne _ _ q, h j hj]
    by_cases q2 : (j : Int) < i
    · rw [if_pos q2, if_pos (by omega)]
    · rw [if_neg q2, if_neg (by omega)]
theorem cv_1 {F Bk J2 J3 : Nat → Int} {i j : Int} (hi : 0 ≤ i) (hj : 0 ≤ j) (h : ∀ r : Nat, r < 13 → J3 r = J2 r + cvI F Bk i.toNat r j.toNat) : ∀ r : Nat, r < 13 → va_up J3 (i + j).toNat (J3 (i + j).toNat + F i.toNat * Bk j.toNat) r = J2 r + cvI F Bk i.toNat r (j + 1).toNat := by
  intro r hr
  rw [show (j + 1).toNat = j.toNat + 1 from by omega]
  show _ = J2 r + (cvI F Bk i.toNat r j.toNat + cvT F Bk i.toNat j.toNat r)
  unfold cvT
  by_cases q : r = (i + j).toNat
  · subst q
    rw [va_up_self, if_pos (by omega), h _ hr]
    omega
  · rw [va_up_ne _ _ q, if_neg (by omega), h r hr]
    omega
theorem cvI_end (F Bk : Nat → Int) (i r : Nat) : ∀ (d j : Nat), r < i + j → cvI F Bk i r (j + d) = cvI F Bk i r j
  | 0, _, _ => rfl
  | d + 1, j, h => by
    show cvI F Bk i r (j + d) + cvT F Bk i (j + d) r = _
    rw [cvI_end F Bk i r d j h]
    unfold cvT
    rw [if_neg (by omega)]
    omega
theorem cv_end {F Bk J2 J3 : Nat → Int} {i j : Int} (hj : (j ≤ 5 ∧ 0 ≤ i ∧ 0 ≤ j ∧ (5 ≤ j ∨ 13 ≤ i + j))) (h : ∀ r : Nat, r < 13 → J3 r = J2 r + cvI F Bk i.toNat r j.toNat) : ∀ r : Nat, r < 13 → J3 r = J2 r + cvI F Bk i.toNat r 5 := by
  intro r hr
  rw [h r hr]
  by_cases q : j = 5
  · rw [show j.toNat = 5 from by omega]
  · have := cvI_end F Bk i.toNat r (5 - j.toNat) j.toNat (by omega)
    rw [show j.toNat + (5 - j.toNat) = 5 from by omega] at this
    rw [this]
theorem cv_2 {F Bk J2 J3 : Nat → Int} {i : Int} (hi : 0 ≤ i) (h : ∀ r : Nat, r < 13 → J2 r = cvC F Bk r i.toNat) (h3 : ∀ r : Nat, r < 13 → J3 r = J2 r + cvI F Bk i.toNat r 5) : ∀ r : Nat, r < 13 → J3 r = cvC F Bk r (i + 1).toNat := by
  intro r hr
  rw [show (i + 1).toNat = i.toNat + 1 from by omega, h3 r hr, h r hr]
  rfl
theorem cvC_congr {F F' B B' : Nat → Int} (hF : ∀ j : Nat, j < 13 → F j = F' j) (hB : ∀ j : Nat, j < 5 → B j = B' j) (r : Nat) : cvC F B r 13 = cvC F' B' r 13 := by
  refine su_congr (fun i hi => su_congr (fun j hj => ?_))
  show cvT F B i j r = cvT F' B' i j r
  unfold cvT
  rw [hF i hi, hB j hj]
theorem cvN_0 {F : Nat → Int} {B : Nat → Int} (h : ∀ j : Nat, j < 13 → F j = 0) : ∀ r : Nat, r < 13 → va_up F 0 1 r = cvN B (0 : Int).toNat r := by
  intro r hr
  show _ = if r = 0 then 1 else 0
  by_cases q : r = 0
  · subst q
    rw [va_up_self, if_pos rfl]
  · rw [va_up_ne _ _ q, if_neg q, h r hr]
theorem cvN_s {F F3 B B2 : Nat → Int} {i : Int} (hi : 0 ≤ i) (h : ∀ r : Nat, r < 13 → F r = cvN B i.toNat r) (hB : ∀ j : Nat, j < 5 → B2 j = B j) (h3 : ∀ r : Nat, r < 13 → F3 r = cvC F B2 r 13) : ∀ r : Nat, r < 13 → F3 r = cvN B (i + 1).toNat r := by
  intro r hr
  rw [show (i + 1).toNat = i.toNat + 1 from by omega, h3 r hr]
  exact cvC_congr h hB r
theorem cv_B {B1 B2 : Nat → Int} {k a : Int} (h1 : ∀ j : Nat, j < 5 → B1 j = 0) (h2 : ∀ j : Nat, j < 5 → B2 j = B1 j + fxC 4 k a j (k + 1).toNat) : ∀ j : Nat, j < 5 → B2 j = (fun j => fxC 4 k a j (k + 1).toNat) j := by
  intro j hj
  show _ = fxC 4 k a j (k + 1).toNat
  rw [h2 j hj, h1 j hj]
  omega
/-- which plans there are -/
def okP (kd n k : Int) : Prop := (kd = 0 ∧ 1 ≤ n ∧ n ≤ 12) ∨ (kd = 1 ∧ 2 ≤ n ∧ n ≤ 12 ∧ 1 ≤ k ∧ k < n) ∨ (kd = 2 ∧ 1 ≤ n ∧ n ≤ 6) ∨ (kd = 3 ∧ 1 ≤ n ∧ n ≤ 4) ∨ (kd = 4 ∧ 1 ≤ n ∧ n ≤ 3 ∧ 1 ≤ k ∧ k ≤ 3)
/-- in how many of all cases just j are RIGHT, as the class counts -/
def csZ (kd n k a : Int) (j : Nat) : Int := if kd = 1 then fxC n k a j (k + 1).toNat else if kd = 2 then (if (j : Int) ≤ n then eaC n (2 * a * a + 2 * a * (10 - a)) 200 j else 0) else if kd = 3 then (if (j : Int) ≤ n then eaC n (3 * (a * a * a + (10 - a) * (10 - a) * (10 - a)) + a * (10 - a) * (10 - a) + a * a * (10 - a)) 3000 j else 0) else if kd = 4 then cvN (fun j => fxC 4 k a j (k + 1).toNat) n.toNat j else (if (j : Int) ≤ n then eaC n a 10 j else 0)
def alZ (kd n : Int) : Int := if kd = 1 then 10 ^ n.toNat * evenT n.toNat else if kd = 2 then 200 ^ n.toNat else if kd = 3 then 3000 ^ n.toNat else if kd = 4 then (10 ^ 4 * evenT 4) ^ n.toNat else 10 ^ n.toNat
def moZ (kd n : Int) : Int := if kd = 4 then 4 * n else n
