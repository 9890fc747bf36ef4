/-! ===== pure: the drawer ===== -/
theorem vaP_mem {D : va_G} {cl : List vw_C} {X pl : va_W} {q : Nat × va_E} {H : Heap} (hq : q ∈ pl) (h : va_P D cl (X ++ pl) H) : va_P D cl ((X ++ [q]) ++ pl) H := by
  intro k q' hk
  have hm : q' ∈ X ++ pl := by
    have := List.mem_of_getElem? hk
    rw [List.mem_append, List.mem_append, List.mem_singleton] at this
    rw [List.mem_append]
    rcases this with (h | h) | h
    · exact Or.inl h
    · rw [h]; exact Or.inr hq
    · exact Or.inr h
  obtain ⟨i, hi⟩ := List.getElem?_of_mem hm
  exact h i q' hi
/-- the sittings in the drawer: where, of which plan, right, told -/
abbrev siT (ns : Int) (SF : Nat → Option Nat) (sy : Nat → Nat) (sp sr st : Nat → Int) (pl : va_W) : Prop := ∀ i : Nat, (i : Int) < ns → SF i = some (sy i) ∧ (sy i, .inr (5, [.int (iI (sp i)), .int (iI (sr i)), .int (iI (st i))])) ∈ pl ∧ rI (sp i) ∧ (0 ≤ sr i ∧ sr i ≤ 12) ∧ (st i = 0 ∨ st i = 1)
def sgS (x : Int) (sp : Nat → Int) (n : Nat) : Int := su (fun i => if sp i = x then 1 else 0) n
def stS (x : Int) (sp st : Nat → Int) (n : Nat) : Int := su (fun i => if st i ≠ 0 ∧ sp i = x then 1 else 0) n
def srS (x : Int) (sp sr st : Nat → Int) (n : Nat) : Int := su (fun i => if st i ≠ 0 ∧ sp i = x then sr i else 0) n
theorem su_t {f : Nat → Int} {z v i : Int} (hi : 0 ≤ i) (h : z = su f i.toNat) (e : f i.toNat = v) : z + v = su f (i + 1).toNat := by
  rw [show (i + 1).toNat = i.toNat + 1 from by omega]
  show _ = su f i.toNat + f i.toNat
  rw [e, h]
theorem su_f {f : Nat → Int} {z i : Int} (hi : 0 ≤ i) (h : z = su f i.toNat) (e : f i.toNat = 0) : z = su f (i + 1).toNat := by
  rw [show (i + 1).toNat = i.toNat + 1 from by omega]
  show _ = su f i.toNat + f i.toNat
  rw [e, h]
  omega
theorem su_bd {f : Nat → Int} {c : Int} : ∀ {n : Nat}, (∀ j, j < n → 0 ≤ f j ∧ f j ≤ c) → 0 ≤ su f n ∧ su f n ≤ n * c
  | 0, _ => ⟨Int.le_refl 0, by show (0 : Int) ≤ ((0 : Nat) : Int) * c; omega⟩
  | n + 1, h => by
    have h1 := su_bd (fun j hj => h j (by omega : j < n + 1)) (n := n)
    have h2 := h n (by omega)
    have h3 : (((n + 1 : Nat) : Int)) * c = n * c + c := by rw [show ((n + 1 : Nat) : Int) = (n : Int) + 1 from rfl, Int.add_mul, Int.one_mul]
    show 0 ≤ su f n + f n ∧ su f n + f n ≤ _
    rw [h3]
    omega
theorem sg_b {x ns : Int} {SF : Nat → Option Nat} {sy : Nat → Nat} {sp sr st : Nat → Int} {pl : va_W} (hn : 0 ≤ ns ∧ ns ≤ 30) (h : siT ns SF sy sp sr st pl) : (0 ≤ sgS x sp ns.toNat ∧ sgS x sp ns.toNat ≤ 30) ∧ (0 ≤ stS x sp st ns.toNat ∧ stS x sp st ns.toNat ≤ sgS x sp ns.toNat) ∧ 0 ≤ srS x sp sr st ns.toNat ∧ srS x sp sr st ns.toNat ≤ 360 := by
  have h1 := su_bd (f := fun i => if sp i = x then 1 else 0) (c := 1) (n := ns.toNat) (fun j _ => by split <;> omega)
  have h2 := su_nn (f := fun i => if st i ≠ 0 ∧ sp i = x then (1 : Int) else 0) (n := ns.toNat) (fun j _ => by split <;> omega)
  have h3 := su_le (f := fun i => if st i ≠ 0 ∧ sp i = x then (1 : Int) else 0) (g := fun i => if sp i = x then 1 else 0) (n := ns.toNat) (fun j _ => by split <;> split <;> omega)
  have h4 := su_bd (f := fun i => if st i ≠ 0 ∧ sp i = x then sr i else 0) (c := 12) (n := ns.toNat) (fun j hj => by have := (h j (by omega)).2.2.2.1; split <;> omega)
  unfold sgS stS srS
  exact ⟨⟨h1.1, by omega⟩, ⟨h2, h3⟩, h4.1, by omega⟩
/-- how many must be turned -/
def tuS (ri hd mo q al : Int) : Nat → Int
  | 0 => -9
  | m + 1 => if (ri + (hd - (hd - m)) * mo) * 1000 ≤ q * mo * al then hd - m else tuS ri hd mo q al m
theorem tu_0 {ri hd mo q al t : Int} (ht : 0 ≤ t ∧ t ≤ hd) (h : tuS ri hd mo q al (hd + 1).toNat = tuS ri hd mo q al (hd + 1 - t).toNat) (hn : ¬ (ri + (hd - t) * mo) * 1000 ≤ q * mo * al) : tuS ri hd mo q al (hd + 1).toNat = tuS ri hd mo q al (hd + 1 - (t + 1)).toNat := by
  rw [h, show (hd + 1 - t).toNat = (hd + 1 - (t + 1)).toNat + 1 from by omega]
  show (if (ri + (hd - (hd - ((hd + 1 - (t + 1)).toNat : Nat))) * mo) * 1000 ≤ q * mo * al then _ else _) = _
  rw [show hd - ((hd + 1 - (t + 1)).toNat : Nat) = t from by omega, if_neg hn]
theorem tu_1 {ri hd mo q al t : Int} (ht : 0 ≤ t ∧ t ≤ hd) (h : tuS ri hd mo q al (hd + 1).toNat = tuS ri hd mo q al (hd + 1 - t).toNat) (hn : (ri + (hd - t) * mo) * 1000 ≤ q * mo * al) : t = tuS ri hd mo q al (hd + 1).toNat := by
  rw [h, show (hd + 1 - t).toNat = (hd + 1 - (t + 1)).toNat + 1 from by omega]
  show _ = if (ri + (hd - (hd - ((hd + 1 - (t + 1)).toNat : Nat))) * mo) * 1000 ≤ q * mo * al then hd - ((hd + 1 - (t + 1)).toNat : Nat) else _
  rw [show hd - ((hd + 1 - (t + 1)).toNat : Nat) = t from by omega, if_pos hn]
theorem tu_b {x m c : Int} (hx : 0 ≤ x ∧ x ≤ c) (hm : 1 ≤ m ∧ m ≤ 12) : 0 ≤ x * m ∧ x * m ≤ c * 12 := ⟨Int.mul_nonneg hx.1 (by omega), Int.mul_le_mul hx.2 hm.2 (by omega) (by omega)⟩
def cdTu (al q : Int) : Int := if al = 0 then -3 else if q < 0 then -4 else if 1000 < q then -6 else 0
def cdD (w : Int) : Int := if 0 ≤ w ∧ w ≤ 4 then 0 else -2
def drZ (w sg st sr mo : Int) : Int := if w = 0 then sg else if w = 1 then st else if w = 2 then sr else if w = 3 then sr else sr + (sg - st) * mo
