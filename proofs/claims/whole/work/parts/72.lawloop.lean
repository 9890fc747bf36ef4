/-! ===== the law: its loop ===== -/
set_option maxHeartbeats 16000000 in
set_option maxRecDepth 200000 in
theorem law_loop {p : Program} {l : Launch} {e : Env} {s : State} {m : MethodId} {below : List Frame} {meth : Method} {c : Code} {G : Gx} {A : Nat → Prop} {b L : Nat} {xs : Nat → Int32} {x0 m0 : Nat} (C0 : lw_At p s m meth c b L xs) (hK : va_K G.1 vwCl (tyG G) s) (hT : STt G A s s.heap) (hN : Nst G s) (hL : L ≤ 3072) (hA : ∀ q : Nat, s.heap.size ≤ q → A q) (hA2 : ∀ q : Nat, A q → s.heap.size ≤ q) (hbA : ¬ A b) (d : Nat) : ∀ (i : Int) (H : Heap) (locs : List Loc) (cells slots : Nat) (ls : Array Slot), 0 ≤ i → i ≤ L → (L : Int) - i < d → (cells : Int) ≤ 100 + i → (slots : Int) ≤ 5000 + 25 * i → LIv G A x0 m0 H → va_S A s.heap H locs → lv_has ls 4 [(0, .ref b), (1, .ref x0), (2, .ref m0), (3, .int (iI i))] → W p l e room_1 s m #[Value.ref b] below meth c H locs cells slots (lw_Z below #[Value.ref b] s) (F0 m 18 ls []) := by
  obtain ⟨hx, hb, hr, hml, hown, hts0, hX, hbl, hlocks, hgv⟩ := id C0
  have hb1 := hb
  have hb : c.code = cL_law := hb
  induction d with
  | zero => intro i H locs cells slots ls h0 h1 h2; exfalso; omega
  | succ d ih =>
    intro i H locs cells slots ls h0 h1 h2 hcl hsl hI hS hl
    refine lv_iload_n hx hb dL_law_18 rfl (lv_at hl 3 rfl) ?_
    refine lv_aload_n hx hb dL_law_19 rfl (lv_at hl 0 rfl) ?_
    refine va_slen hx hb hX hbl hbA hS dL_law_20 ?_
    rw [show Int32.ofNat L = iI (L : Int) from iI_N L]
    refine lv_bipush (v := iI 6) hx hb dL_law_21 (by decide) ?_
    refine w_isub hx hb dL_law_23 ?_
    refine w_icmp_gt (tgt := 1389) hx hb dL_law_24 (by decide) ⟨by omega, by omega⟩ ⟨by omega, by omega⟩ (fun c_ => ?_) (fun c_ => ?_)
    · refine lv_iconst (v := 1) hx hb dL_law_1389 (by decide) ?_
      refine va_forget (fun q hq => hA2 _ (hS.2.2 q hq)) ?_
      refine W.widen (k := 600000) (n := 7302250) (by omega) (by omega) ?_
      exact lw_ret hx hb1 hr hlocks dL_law_1390
    · have hi : 0 ≤ i ∧ i + 6 ≤ L := by omega
      have hcn : cells ≤ 500000 ∧ slots ≤ 7000000 := by omega
      refine lv_aload_n hx hb dL_law_27 rfl (lv_at hl 0 rfl) ?_
      refine lv_iload_n hx hb dL_law_28 rfl (lv_at hl 3 rfl) ?_
      obtain ⟨v0, hv0, hw0⟩ : ∃ z : Int, xs i.toNat = iI z ∧ rI z := ⟨_, (iI_self _).symm, rI_of _⟩
      refine w_sld hx hb hX hbl hbA hS i.toNat (by omega) (by omega) hL hv0 dL_law_29 ?_
      refine lv_bipush (v := iI 31) hx hb dL_law_30 (by decide) ?_
      refine lv_iand hx hb dL_law_32 ?_
      obtain ⟨z, hz0, hz1, hz⟩ := sel_31 (iI v0)
      rw [hz]
      have hkk : ∀ (H1 : Heap) (locs1 : List Loc) (ls1 : Array Slot) (cells1 slots1 : Nat), LIv G A x0 m0 H1 → va_S A s.heap H1 locs1 → lv_has ls1 4 [(0, .ref b), (1, .ref x0), (2, .ref m0), (3, .int (iI i))] → cells1 ≤ cells + 6 → slots1 ≤ slots + 150 → W p l e room_1 s m #[Value.ref b] below meth c H1 locs1 cells1 slots1 (lw_Z below #[Value.ref b] s) (F0 m 1383 ls1 []) := fun H1 locs1 ls1 cells1 slots1 q1 q2 q3 q4 q5 => by
        refine w_iinc (lv' := [(3, .int (iI (i + 6))), (0, .ref b), (1, .ref x0), (2, .ref m0)]) hx hb dL_law_1383 q3 (k := 3) rfl (by decide) rfl (fun ls hl => ?_)
        refine lv_goto (tgt := 18) hx hb dL_law_1386 (by decide) ?_
        exact ih (i + 6) H1 locs1 cells1 slots1 ls (by omega) (by omega) (by omega) (by omega) (by omega) q1 q2 (lv_sub hl [1, 2, 3, 0] rfl)
      have e : z = 0 ∨ z = 1 ∨ z = 2 ∨ z = 3 ∨ z = 4 ∨ z = 5 ∨ z = 6 ∨ z = 7 ∨ z = 8 ∨ z = 9 ∨ z = 10 ∨ z = 11 ∨ z = 12 ∨ z = 13 ∨ z = 14 ∨ z = 15 ∨ z = 16 ∨ z = 17 ∨ z = 18 ∨ z = 19 ∨ z = 20 ∨ z = 21 ∨ z = 22 ∨ z = 23 ∨ z = 24 ∨ z = 25 ∨ z = 26 ∨ z = 27 ∨ z = 28 ∨ z = 29 ∨ z = 30 ∨ z = 31 := by omega
      rcases e with h | h | h | h | h | h | h | h | h | h | h | h | h | h | h | h | h | h | h | h | h | h | h | h | h | h | h | h | h | h | h | h <;> subst h
      · refine lv_tableIn (off := 135) (tgt := 168) hx hb dL_law_33 (by decide) (by decide) (by decide) (by decide) ?_
        exact lk_plan C0 hK hT hN hL hA hbA hi hcn hI hS hl hkk
      · refine lv_tableIn (off := 178) (tgt := 211) hx hb dL_law_33 (by decide) (by decide) (by decide) (by decide) ?_
        exact lk_size C0 hK hT hN hL hA hbA hi hcn hI hS hl hkk
      · refine lv_tableIn (off := 201) (tgt := 234) hx hb dL_law_33 (by decide) (by decide) (by decide) (by decide) ?_
        exact lk_odds C0 hK hT hN hL hA hbA hi hcn hI hS hl hkk
      · refine lv_tableIn (off := 255) (tgt := 288) hx hb dL_law_33 (by decide) (by decide) (by decide) (by decide) ?_
        exact lk_least C0 hK hT hN hL hA hbA hi hcn hI hS hl hkk
      · refine lv_tableIn (off := 309) (tgt := 342) hx hb dL_law_33 (by decide) (by decide) (by decide) (by decide) ?_
        exact lk_mean C0 hK hT hN hL hA hbA hi hcn hI hS hl hkk
      · refine lv_tableIn (off := 353) (tgt := 386) hx hb dL_law_33 (by decide) (by decide) (by decide) (by decide) ?_
        exact lk_feed C0 hK hT hN hL hA hbA hi hcn hI hS hl hkk
      · refine lv_tableIn (off := 416) (tgt := 449) hx hb dL_law_33 (by decide) (by decide) (by decide) (by decide) ?_
        exact lk_rule C0 hK hT hN hL hA hbA hi hcn hI hS hl hkk
      · refine lv_tableIn (off := 429) (tgt := 462) hx hb dL_law_33 (by decide) (by decide) (by decide) (by decide) ?_
        exact lk_believes C0 hK hT hN hL hA hbA hi hcn hI hS hl hkk
      · refine lv_tableIn (off := 472) (tgt := 505) hx hb dL_law_33 (by decide) (by decide) (by decide) (by decide) ?_
        exact lk_believed C0 hK hT hN hL hA hbA hi hcn hI hS hl hkk
      · refine lv_tableIn (off := 526) (tgt := 559) hx hb dL_law_33 (by decide) (by decide) (by decide) (by decide) ?_
        exact lk_line C0 hK hT hN hL hA hbA hi hcn hI hS hl hkk
      · refine lv_tableIn (off := 559) (tgt := 592) hx hb dL_law_33 (by decide) (by decide) (by decide) (by decide) ?_
        exact lk_fewest C0 hK hT hN hL hA hbA hi hcn hI hS hl hkk
      · refine lv_tableIn (off := 612) (tgt := 645) hx hb dL_law_33 (by decide) (by decide) (by decide) (by decide) ?_
        exact lk_well C0 hK hT hN hL hA hbA hi hcn hI hS hl hkk
      · refine lv_tableIn (off := 676) (tgt := 709) hx hb dL_law_33 (by decide) (by decide) (by decide) (by decide) ?_
        exact lk_kept C0 hK hT hN hL hA hbA hi hcn hI hS hl hkk
      · refine lv_tableIn (off := 719) (tgt := 752) hx hb dL_law_33 (by decide) (by decide) (by decide) (by decide) ?_
        exact lk_many C0 hK hT hN hL hA hbA hi hcn hI hS hl hkk
      · refine lv_tableIn (off := 773) (tgt := 806) hx hb dL_law_33 (by decide) (by decide) (by decide) (by decide) ?_
        exact lk_gain C0 hK hT hN hL hA hbA hi hcn hI hS hl hkk
      · refine lv_tableIn (off := 817) (tgt := 850) hx hb dL_law_33 (by decide) (by decide) (by decide) (by decide) ?_
        exact lk_belief C0 hK hT hN hL hA hbA hi hcn hI hS hl hkk
      · refine lv_tableIn (off := 881) (tgt := 914) hx hb dL_law_33 (by decide) (by decide) (by decide) (by decide) ?_
        exact lk_letter C0 hK hT hN hL hA hbA hi hcn hI hS hl hkk
      · refine lv_tableIn (off := 925) (tgt := 958) hx hb dL_law_33 (by decide) (by decide) (by decide) (by decide) ?_
        exact lk_lots C0 hK hT hN hL hA hbA hi hcn hI hS hl hkk
      · refine lv_tableIn (off := 948) (tgt := 981) hx hb dL_law_33 (by decide) (by decide) (by decide) (by decide) ?_
        exact lk_lot C0 hK hT hN hL hA hbA hi hcn hI hS hl hkk
      · refine lv_tableIn (off := 981) (tgt := 1014) hx hb dL_law_33 (by decide) (by decide) (by decide) (by decide) ?_
        exact lk_rank C0 hK hT hN hL hA hbA hi hcn hI hS hl hkk
      · refine lv_tableIn (off := 1014) (tgt := 1047) hx hb dL_law_33 (by decide) (by decide) (by decide) (by decide) ?_
        exact lk_lean C0 hK hT hN hL hA hbA hi hcn hI hS hl hkk
      · refine lv_tableIn (off := 1047) (tgt := 1080) hx hb dL_law_33 (by decide) (by decide) (by decide) (by decide) ?_
        exact lk_even C0 hK hT hN hL hA hbA hi hcn hI hS hl hkk
      · refine lv_tableIn (off := 1070) (tgt := 1103) hx hb dL_law_33 (by decide) (by decide) (by decide) (by decide) ?_
        exact lk_bestLot C0 hK hT hN hL hA hbA hi hcn hI hS hl hkk
      · refine lv_tableIn (off := 1093) (tgt := 1126) hx hb dL_law_33 (by decide) (by decide) (by decide) (by decide) ?_
        exact lk_marked C0 hK hT hN hL hA hbA hi hcn hI hS hl hkk
      · refine lv_tableIn (off := 1136) (tgt := 1169) hx hb dL_law_33 (by decide) (by decide) (by decide) (by decide) ?_
        exact lk_free C0 hK hT hN hL hA hbA hi hcn hI hS hl hkk
      · refine lv_tableIn (off := 1179) (tgt := 1212) hx hb dL_law_33 (by decide) (by decide) (by decide) (by decide) ?_
        exact lk_sit C0 hK hT hN hL hA hbA hi hcn hI hS hl hkk
      · refine lv_tableIn (off := 1238) (tgt := 1271) hx hb dL_law_33 (by decide) (by decide) (by decide) (by decide) ?_
        exact lk_show C0 hK hT hN hL hA hbA hi hcn hI hS hl hkk
      · refine lv_tableIn (off := 1261) (tgt := 1294) hx hb dL_law_33 (by decide) (by decide) (by decide) (by decide) ?_
        exact lk_drawer C0 hK hT hN hL hA hbA hi hcn hI hS hl hkk
      · refine lv_tableIn (off := 1294) (tgt := 1327) hx hb dL_law_33 (by decide) (by decide) (by decide) (by decide) ?_
        exact lk_turned C0 hK hT hN hL hA hbA hi hcn hI hS hl hkk
      · refine lv_tableIn (off := 1327) (tgt := 1360) hx hb dL_law_33 (by decide) (by decide) (by decide) (by decide) ?_
        exact lk_count C0 hK hT hN hL hA hbA hi hcn hI hS hl hkk
      · refine lv_tableOut (tgt := 1383) hx hb dL_law_33 (Or.inr (by decide)) (by decide) ?_
        exact hkk _ _ _ _ _ hI hS hl (by omega) (by omega)
      · refine lv_tableOut (tgt := 1383) hx hb dL_law_33 (Or.inr (by decide)) (by decide) ?_
        exact hkk _ _ _ _ _ hI hS hl (by omega) (by omega)
