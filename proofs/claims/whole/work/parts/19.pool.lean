/-! ===== the pool: worlds by permutation; which plans, rules, sittings lie in it ===== -/
theorem vaP_perm {D : va_G} {cl : List vw_C} {ws ws' : va_W} {H : Heap} (h : va_P D cl ws H) (p : ws.Perm ws') : va_P D cl ws' H := by
  intro k q hk
  obtain ⟨i, hi⟩ := List.getElem?_of_mem (p.mem_iff.mpr (List.mem_of_getElem? hk))
  exact h i q hi
theorem vaD_iff {A : Nat → Prop} {ws : va_W} : va_D A ws ↔ (ws.map Prod.fst).Nodup ∧ ∀ q ∈ ws, A q.1 := by
  constructor
  · intro h
    refine ⟨?_, fun q hq => ?_⟩
    · rw [List.Nodup, List.pairwise_iff_getElem]
      intro i j hi hj hij e
      rw [List.length_map] at hi hj
      rw [List.getElem_map, List.getElem_map] at e
      have := h.1 i j ws[i] ws[j] (List.getElem?_eq_getElem hi) (List.getElem?_eq_getElem hj) e
      omega
    · obtain ⟨i, hi⟩ := List.getElem?_of_mem hq
      exact h.2 i q hi
  · intro h
    refine ⟨fun i j p q hp hq e => ?_, fun k q hk => h.2 q (List.mem_of_getElem? hk)⟩
    obtain ⟨hi, rfl⟩ := List.getElem?_eq_some_iff.mp hp
    obtain ⟨hj, rfl⟩ := List.getElem?_eq_some_iff.mp hq
    have h1 := h.1
    rw [List.Nodup, List.pairwise_iff_getElem] at h1
    rcases Nat.lt_trichotomy i j with g | g | g
    · exact absurd (by rw [List.getElem_map, List.getElem_map]; exact e) (h1 i j (by rw [List.length_map]; exact hi) (by rw [List.length_map]; exact hj) g)
    · exact g
    · exact absurd (by rw [List.getElem_map, List.getElem_map]; exact e.symm) (h1 j i (by rw [List.length_map]; exact hj) (by rw [List.length_map]; exact hi) g)
theorem vaD_perm {A : Nat → Prop} {ws ws' : va_W} (h : va_D A ws) (p : ws.Perm ws') : va_D A ws' := by
  rw [vaD_iff] at h ⊢
  exact ⟨(p.map Prod.fst).nodup_iff.mp h.1, fun q hq => h.2 q (p.mem_iff.mpr hq)⟩
/-- cells taken out of the pool, and put back -/
theorem po_P {D : va_G} {cl : List vw_C} {X cs pl rest : va_W} {H : Heap} (p : pl.Perm (cs ++ rest)) (h : va_P D cl (X ++ pl) H) : va_P D cl ((X ++ cs) ++ rest) H := by
  rw [List.append_assoc]
  exact vaP_perm h (p.append_left X)
theorem po_D {A : Nat → Prop} {X cs pl rest : va_W} (p : pl.Perm (cs ++ rest)) (h : va_D A (X ++ pl)) : va_D A ((X ++ cs) ++ rest) := by
  rw [List.append_assoc]
  exact vaD_perm h (p.append_left X)
theorem pb_P {D : va_G} {cl : List vw_C} {X cs pl rest : va_W} {H : Heap} (p : pl.Perm (cs ++ rest)) (h : va_P D cl ((X ++ cs) ++ rest) H) : va_P D cl (X ++ pl) H := by
  rw [List.append_assoc] at h
  exact vaP_perm h (p.symm.append_left X)
theorem pb_D {A : Nat → Prop} {X cs pl rest : va_W} (p : pl.Perm (cs ++ rest)) (h : va_D A ((X ++ cs) ++ rest)) : va_D A (X ++ pl) := by
  rw [List.append_assoc] at h
  exact vaD_perm h (p.symm.append_left X)
theorem fm_perm {α : Type} (f : α → va_W) {L : List α} {i : Nat} {r : α} (h : L[i]? = some r) : ∃ rest : va_W, (L.flatMap f).Perm (f r ++ rest) := by
  obtain ⟨s, t, e⟩ := List.append_of_mem (List.mem_of_getElem? h)
  refine ⟨s.flatMap f ++ t.flatMap f, ?_⟩
  rw [e, List.flatMap_append, List.flatMap_cons]
  exact (List.perm_append_comm_assoc _ _ _)
