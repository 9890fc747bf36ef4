abbrev rm_c_J7_fill_d0a16 : Room := { frames := 0, cells := 0, slots := 0, locals := 0 }
set_option maxHeartbeats 4000000 in
set_option maxRecDepth 100000 in
theorem c_J7_fill_d0a16 (l : Launch) (G : Gx) (c0 : Nat) (nn : Nat) (F : Nat → Int) (v : Int) (sz : Nat) (hn : nn ≤ 1000) : Met l yJ7_fill_d0a16 wsJ7_fill_d0a16 rm_c_J7_fill_d0a16 (va_Pc [.ref c0, .long (lI v)] (wr G ([(c0, .inl (G.2.1 1, nn, .inr (.inl (aL F))))]) sz)) (va_Qv (fun (u : (Nat → Int)) => ∀ j : Nat, j < nn → u j = v) (Bw G.1 vwCl (fun (u : (Nat → Int)) => [(c0, .inl (G.2.1 1, nn, .inr (.inl (aL u))))]) (va_A ([(c0, .inl (G.2.1 1, nn, .inr (.inl (aL F))))]) sz)) (va_A ([(c0, .inl (G.2.1 1, nn, .inr (.inl (aL F))))]) sz)) 0 0 (va_A ([(c0, .inl (G.2.1 1, nn, .inr (.inl (aL F))))]) sz) := by
  refine enW (Qc := fun A => (va_Qv (fun (u : (Nat → Int)) => ∀ j : Nat, j < nn → u j = v) (Bw G.1 vwCl (fun (u : (Nat → Int)) => [(c0, .inl (G.2.1 1, nn, .inr (.inl (aL u))))]) A) A)) (mc := 0) (ms := 0) (cc := cJ7_fill_d0a16) (maxL := 5) (ret := none) (C := RJ7) [(0, .ref c0), (1, .long (lI v))] (by decide) rfl rfl (Nat.le_of_ble_eq_true rfl) rfl ?_
  intro p e s m args below meth c ls A hx hb hr hml hown hts hlocks hin hP hK hD hT hN hA hS hl
  show W p l e rm_c_J7_fill_d0a16 s m args below meth c s.heap [] 0 0 _ (F0 m 0 ls [])
  refine lv_iconst (v := iI 0) hx hb dJ7_fill_d0a16_0 rfl ?_
  refine lv_istore_n (lv' := [(3, .int (iI 0)), (0, .ref c0), (1, .long (lI v))]) hx hb dJ7_fill_d0a16_1 rfl hl (by decide) rfl (fun ls hl => ?_)
  refine lv_aload_n hx hb dJ7_fill_d0a16_2 rfl (lv_at hl 1 rfl) ?_
  refine va_alen (v := iI ((nn : Nat) : Int)) hx hb hK hP 0 1 rfl rfl (iI_N _) dJ7_fill_d0a16_3 ?_
  refine lv_istore (lv' := [(4, .int (iI ((nn : Nat) : Int))), (3, .int (iI 0)), (0, .ref c0), (1, .long (lI v))]) hx hb dJ7_fill_d0a16_4 hl (by decide) rfl (fun ls hl => ?_)
  have lp_6 : ∀ (μ6 : Nat) (i : Int) (F2 : Nat → Int) (hi : 0 ≤ i ∧ i ≤ nn) (hF : ∀ j : Nat, (j : Int) < i → F2 j = v) (hμ6 : ((nn : Int) - i).toNat < μ6) (H : Heap) (locs : List Loc) (ls : Array Slot) (hP : va_P G.1 vwCl ([(c0, .inl (G.2.1 1, nn, .inr (.inl (aL F2))))]) H) (hD : va_D A ([(c0, .inl (G.2.1 1, nn, .inr (.inl (aL F2))))])) (hS : va_S A s.heap H locs) (hl : lv_has ls 5 [(4, .int (iI ((nn : Nat) : Int))), (3, .int (iI i)), (0, .ref c0), (1, .long (lI v))]), W p l e rm_c_J7_fill_d0a16 s m args below meth c H locs 0 0 (MQ below (va_Qv (fun (u : (Nat → Int)) => ∀ j : Nat, j < nn → u j = v) (Bw G.1 vwCl (fun (u : (Nat → Int)) => [(c0, .inl (G.2.1 1, nn, .inr (.inl (aL u))))]) A) A) args s 0 0 A) (F0 m 6 ls []) := by
    intro μ6
    induction μ6 with
    | zero => intro i F2 hi hF hμ6; exact absurd hμ6 (Nat.not_lt_zero _)
    | succ μ6 ih6 =>
      intro i F2 hi hF hμ6 H locs ls hP hD hS hl
      refine lv_iload_n hx hb dJ7_fill_d0a16_6 rfl (lv_at hl 1 rfl) ?_
      refine lv_iload hx hb dJ7_fill_d0a16_7 (lv_at hl 0 rfl) ?_
      refine w_icmp_ge (tgt := 22) hx hb dJ7_fill_d0a16_9 (by decide) (by omega) (by omega) (fun c_9_1 => ?_) (fun c_9_1 => ?_)
      · exact rtWv hx hb hr hlocks dJ7_fill_d0a16_22 (F2) (fun j hj => hF j (by omega)) hP hD hS
      · refine lv_aload_n hx hb dJ7_fill_d0a16_12 rfl (lv_at hl 2 rfl) ?_
        refine lv_iload_n hx hb dJ7_fill_d0a16_13 rfl (lv_at hl 1 rfl) ?_
        refine lv_lload_n hx hb dJ7_fill_d0a16_14 rfl (lv_at hl 3 rfl) ?_
        refine w_last hx hb hK hP hD hS 0 1 rfl rfl ((i).toNat) (by omega) (by omega) (by omega) dJ7_fill_d0a16_15 (fun H locs hP hD hS => ?_)
        have hP : va_P G.1 vwCl ([(c0, .inl (G.2.1 1, nn, .inr (.inl (aL (va_up F2 ((i).toNat) v)))))]) H := hP
        have hD : va_D A ([(c0, .inl (G.2.1 1, nn, .inr (.inl (aL (va_up F2 ((i).toNat) v)))))]) := hD
        refine w_iinc (k := 1) (lv' := [(3, .int (iI (i + 1))), (4, .int (iI ((nn : Nat) : Int))), (0, .ref c0), (1, .long (lI v))]) hx hb dJ7_fill_d0a16_16 hl rfl (by decide) rfl (fun ls hl => ?_)
        refine lv_goto (tgt := 6) hx hb dJ7_fill_d0a16_19 (by decide) ?_
        exact ih6 (i + 1) (va_up F2 ((i).toNat) v) (by omega) (by intro j hj; unfold va_up; split; rfl; exact hF j (by omega)) (by omega) _ _ _ hP hD hS (lv_sub hl [1, 0, 2, 3] rfl)
  exact lp_6 (((nn : Int) - (0 : Int)).toNat + 1) 0 F (by omega) (by intro j hj; omega) (Nat.lt_succ_self _) _ _ _ hP hD hS (lv_sub hl [0, 1, 2, 3] rfl)
abbrev rm_c_X0_rightOfPair : Room := { frames := 0, cells := 0, slots := 0, locals := 0 }
set_option maxHeartbeats 4000000 in
set_option maxRecDepth 100000 in
theorem c_X0_rightOfPair (l : Launch) (G : Gx) (a : Int) (ha : 0 ≤ a ∧ a ≤ 10) : Met l yX0_rightOfPair wsX0_rightOfPair rm_c_X0_rightOfPair (va_Pc [.int (iI a)] (rd G ([]))) (vp_Sl (fun rv => rv = (lI (2 * a * a + 2 * a * (10 - a))))) 0 0 (fun _ => False) := by
  refine enR (cc := cX0_rightOfPair) (maxL := 3) (ret := (some .long)) (C := RX0) [(0, .int (iI a))] (by decide) rfl rfl (Nat.le_of_ble_eq_true rfl) rfl ?_
  intro p e s m args below meth c ls hx hb hr hml hown hts hlocks hP hK hT hN hl
  have hS : va_S (fun _ => False) s.heap s.heap [] := va_S.rf
  show W p l e rm_c_X0_rightOfPair s m args below meth c s.heap [] 0 0 _ (F0 m 0 ls [])
  have hsq := sq_b ha
  refine lv_bipush (v := iI 10) hx hb dX0_rightOfPair_0 (by decide) ?_
  refine lv_iload_n hx hb dX0_rightOfPair_2 rfl (lv_at hl 0 rfl) ?_
  refine w_isub hx hb dX0_rightOfPair_3 ?_
  refine w_i2l hx hb dX0_rightOfPair_4 (by omega) ?_
  refine lv_lstore_n (lv' := [(1, .long (lI (10 - a))), (0, .int (iI a))]) hx hb dX0_rightOfPair_5 rfl hl (by decide) rfl (fun ls hl => ?_)
  refine lv_iconst (v := iI 2) hx hb dX0_rightOfPair_6 rfl ?_
  refine lv_iload_n hx hb dX0_rightOfPair_7 rfl (lv_at hl 1 rfl) ?_
  refine w_imul hx hb dX0_rightOfPair_8 ?_
  refine lv_iload_n hx hb dX0_rightOfPair_9 rfl (lv_at hl 1 rfl) ?_
  refine w_imul hx hb dX0_rightOfPair_10 ?_
  refine w_i2l hx hb dX0_rightOfPair_11 (by omega) ?_
  refine lv_iconst (v := iI 2) hx hb dX0_rightOfPair_12 rfl ?_
  refine lv_iload_n hx hb dX0_rightOfPair_13 rfl (lv_at hl 1 rfl) ?_
  refine w_imul hx hb dX0_rightOfPair_14 ?_
  refine w_i2l hx hb dX0_rightOfPair_15 (by omega) ?_
  refine lv_lload_n hx hb dX0_rightOfPair_16 rfl (lv_at hl 0 rfl) ?_
  refine w_lmul hx hb dX0_rightOfPair_17 ?_
  refine w_ladd hx hb dX0_rightOfPair_18 ?_
  exact rtRl hx hb hr hlocks dX0_rightOfPair_19 rfl
abbrev rm_c_X0_rightOfThree : Room := { frames := 0, cells := 0, slots := 0, locals := 0 }
set_option maxHeartbeats 4000000 in
set_option maxRecDepth 100000 in
theorem c_X0_rightOfThree (l : Launch) (G : Gx) (a : Int) (ha : 0 ≤ a ∧ a ≤ 10) : Met l yX0_rightOfThree wsX0_rightOfThree rm_c_X0_rightOfThree (va_Pc [.int (iI a)] (rd G ([]))) (vp_Sl (fun rv => rv = (lI (3 * (a * a * a + (10 - a) * (10 - a) * (10 - a)) + a * (10 - a) * (10 - a) + a * a * (10 - a))))) 0 0 (fun _ => False) := by
  refine enR (cc := cX0_rightOfThree) (maxL := 3) (ret := (some .long)) (C := RX0) [(0, .int (iI a))] (by decide) rfl rfl (Nat.le_of_ble_eq_true rfl) rfl ?_
  intro p e s m args below meth c ls hx hb hr hml hown hts hlocks hP hK hT hN hl
  have hS : va_S (fun _ => False) s.heap s.heap [] := va_S.rf
  show W p l e rm_c_X0_rightOfThree s m args below meth c s.heap [] 0 0 _ (F0 m 0 ls [])
  have hsq := sq_b ha
  refine lv_bipush (v := iI 10) hx hb dX0_rightOfThree_0 (by decide) ?_
  refine lv_iload_n hx hb dX0_rightOfThree_2 rfl (lv_at hl 0 rfl) ?_
  refine w_isub hx hb dX0_rightOfThree_3 ?_
  refine w_i2l hx hb dX0_rightOfThree_4 (by omega) ?_
  refine lv_lstore_n (lv' := [(1, .long (lI (10 - a))), (0, .int (iI a))]) hx hb dX0_rightOfThree_5 rfl hl (by decide) rfl (fun ls hl => ?_)
  refine lv_ldc2 (v := lI 3) hx hb hown (show (Jvm.Cond.constantLong RX0 64 (lI 3)).before args s = true from (by rw [show (lI 3) = (3 : Int64) from by decide]; exact (hts (.constantLong RX0 64 (3)) (by decide +kernel)))) dX0_rightOfThree_6 ?_
  refine lv_iload_n hx hb dX0_rightOfThree_9 rfl (lv_at hl 1 rfl) ?_
  refine lv_iload_n hx hb dX0_rightOfThree_10 rfl (lv_at hl 1 rfl) ?_
  refine w_imul hx hb dX0_rightOfThree_11 ?_
  refine lv_iload_n hx hb dX0_rightOfThree_12 rfl (lv_at hl 1 rfl) ?_
  refine w_imul hx hb dX0_rightOfThree_13 ?_
  refine w_i2l hx hb dX0_rightOfThree_14 (by omega) ?_
  refine lv_lload_n hx hb dX0_rightOfThree_15 rfl (lv_at hl 0 rfl) ?_
  refine lv_lload_n hx hb dX0_rightOfThree_16 rfl (lv_at hl 0 rfl) ?_
  refine w_lmul hx hb dX0_rightOfThree_17 ?_
  refine lv_lload_n hx hb dX0_rightOfThree_18 rfl (lv_at hl 0 rfl) ?_
  refine w_lmul hx hb dX0_rightOfThree_19 ?_
  refine w_ladd hx hb dX0_rightOfThree_20 ?_
  refine w_lmul hx hb dX0_rightOfThree_21 ?_
  refine lv_iload_n hx hb dX0_rightOfThree_22 rfl (lv_at hl 1 rfl) ?_
  refine w_i2l hx hb dX0_rightOfThree_23 (by omega) ?_
  refine lv_lload_n hx hb dX0_rightOfThree_24 rfl (lv_at hl 0 rfl) ?_
  refine w_lmul hx hb dX0_rightOfThree_25 ?_
  refine lv_lload_n hx hb dX0_rightOfThree_26 rfl (lv_at hl 0 rfl) ?_
  refine w_lmul hx hb dX0_rightOfThree_27 ?_
  refine w_ladd hx hb dX0_rightOfThree_28 ?_
  refine lv_iload_n hx hb dX0_rightOfThree_29 rfl (lv_at hl 1 rfl) ?_
  refine lv_iload_n hx hb dX0_rightOfThree_30 rfl (lv_at hl 1 rfl) ?_
  refine w_imul hx hb dX0_rightOfThree_31 ?_
  refine w_i2l hx hb dX0_rightOfThree_32 (by omega) ?_
  refine lv_lload_n hx hb dX0_rightOfThree_33 rfl (lv_at hl 0 rfl) ?_
  refine w_lmul hx hb dX0_rightOfThree_34 ?_
  refine w_ladd hx hb dX0_rightOfThree_35 ?_
  exact rtRl hx hb hr hlocks dX0_rightOfThree_36 rfl
abbrev rm_c_X0_just : Room := { frames := 0, cells := 0, slots := 0, locals := 0 }
set_option maxHeartbeats 4000000 in
set_option maxRecDepth 100000 in
theorem c_X0_just (l : Launch) (G : Gx) (h0 : Nat) (c0 : Nat) (b0 : Nat) (j0 : Nat) (F : Nat → Int) (al : Int) (mo : Int) (r : Int) (hr0 : rI r) : Met l yX0_just wsX0_just rm_c_X0_just (va_Pc [.ref h0, .int (iI r)] (rd G ([(h0, .inr (1, [.ref c0, .ref b0, .ref j0, .long (lI al), .int (iI mo)])), (c0, .inl (G.2.1 1, 13, .inr (.inl (aL F))))]))) (vp_Sl (fun rv => rv = (lI (if 0 ≤ r ∧ r < 13 then F r.toNat else 0)))) 0 0 (fun _ => False) := by
  refine enR (cc := cX0_just) (maxL := 2) (ret := (some .long)) (C := RX0) [(0, .ref h0), (1, .int (iI r))] (by decide) rfl rfl (Nat.le_of_ble_eq_true rfl) rfl ?_
  intro p e s m args below meth c ls hx hb hr hml hown hts hlocks hP hK hT hN hl
  have hS : va_S (fun _ => False) s.heap s.heap [] := va_S.rf
  show W p l e rm_c_X0_just s m args below meth c s.heap [] 0 0 _ (F0 m 0 ls [])
  refine lv_iload_n hx hb dX0_just_0 rfl (lv_at hl 1 rfl) ?_
  refine w_if_lt (tgt := 22) hx hb dX0_just_1 (by decide) (by omega) (fun c_1_1 => ?_) (fun c_1_1 => ?_)
  · refine lv_lconst (v := lI 0) hx hb dX0_just_22 (by decide) ?_
    exact rtRl hx hb hr hlocks dX0_just_23 (congrArg lI (by rw [if_neg (by omega)]))
  · refine lv_iload_n hx hb dX0_just_4 rfl (lv_at hl 1 rfl) ?_
    refine lv_aload_n hx hb dX0_just_5 rfl (lv_at hl 0 rfl) ?_
    refine va_get (D := G.1) (ci := 1) (v := .ref c0) (C := RX0) (T := TX0) (N := 5) hx hb hts (by decide +kernel) hown hK hP 0 rfl rfl 0 (by decide) (hts (.fieldLink RX0 9 "MilkFirst$Ends" "cases" "[J") (by decide +kernel)) (fun _ h9 => h9) rfl dX0_just_6 ?_
    refine va_alen (v := iI 13) hx hb hK hP 1 1 rfl rfl (iI_N 13) dX0_just_9 ?_
    refine w_icmp_ge (tgt := 22) hx hb dX0_just_10 (by decide) (by omega) (by decide) (fun c_10_2 => ?_) (fun c_10_2 => ?_)
    · refine lv_lconst (v := lI 0) hx hb dX0_just_22 (by decide) ?_
      exact rtRl hx hb hr hlocks dX0_just_23 (congrArg lI (by rw [if_neg (by omega)]))
    · refine lv_aload_n hx hb dX0_just_13 rfl (lv_at hl 0 rfl) ?_
      refine va_get (D := G.1) (ci := 1) (v := .ref c0) (C := RX0) (T := TX0) (N := 5) hx hb hts (by decide +kernel) hown hK hP 0 rfl rfl 0 (by decide) (hts (.fieldLink RX0 9 "MilkFirst$Ends" "cases" "[J") (by decide +kernel)) (fun _ h9 => h9) rfl dX0_just_14 ?_
      refine lv_iload_n hx hb dX0_just_17 rfl (lv_at hl 1 rfl) ?_
      refine w_lald hx hb hK hP 1 1 rfl rfl ((r).toNat) (by omega) (by omega) (by decide) dX0_just_18 ?_
      refine lv_goto (tgt := 23) hx hb dX0_just_19 (by decide) ?_
      exact rtRl hx hb hr hlocks dX0_just_23 (congrArg lI (by rw [if_pos (by omega)]))
abbrev rm_c_X0_all : Room := { frames := 0, cells := 0, slots := 0, locals := 0 }
set_option maxHeartbeats 4000000 in
set_option maxRecDepth 100000 in
theorem c_X0_all (l : Launch) (G : Gx) (h0 : Nat) (c0 : Nat) (b0 : Nat) (j0 : Nat) (al : Int) (mo : Int) : Met l yX0_all wsX0_all rm_c_X0_all (va_Pc [.ref h0] (rd G ([(h0, .inr (1, [.ref c0, .ref b0, .ref j0, .long (lI al), .int (iI mo)]))]))) (vp_Sl (fun rv => rv = (lI al))) 0 0 (fun _ => False) := by
  refine enR (cc := cX0_all) (maxL := 1) (ret := (some .long)) (C := RX0) [(0, .ref h0)] (by decide) rfl rfl (Nat.le_of_ble_eq_true rfl) rfl ?_
  intro p e s m args below meth c ls hx hb hr hml hown hts hlocks hP hK hT hN hl
  have hS : va_S (fun _ => False) s.heap s.heap [] := va_S.rf
  show W p l e rm_c_X0_all s m args below meth c s.heap [] 0 0 _ (F0 m 0 ls [])
  refine lv_aload_n hx hb dX0_all_0 rfl (lv_at hl 0 rfl) ?_
  refine va_get (D := G.1) (ci := 1) (v := .long (lI al)) (C := RX0) (T := TX0) (N := 5) hx hb hts (by decide +kernel) hown hK hP 0 rfl rfl 3 (by decide) (hts (.fieldLink RX0 21 "MilkFirst$Ends" "allCases" "J") (by decide +kernel)) (fun _ h9 => h9) rfl dX0_all_1 ?_
  exact rtRl hx hb hr hlocks dX0_all_4 rfl
abbrev rm_c_X0_orMore : Room := { frames := 1, cells := 0, slots := 0, locals := 21 }
set_option maxHeartbeats 4000000 in
set_option maxRecDepth 100000 in
theorem c_X0_orMore (l : Launch) (G : Gx) (h0 : Nat) (c0 : Nat) (b0 : Nat) (j0 : Nat) (F : Nat → Int) (al : Int) (mo : Int) (r : Int) (hr0 : rI r) : Met l yX0_orMore wsX0_orMore rm_c_X0_orMore (va_Pc [.ref h0, .int (iI r)] (rd G ([(h0, .inr (1, [.ref c0, .ref b0, .ref j0, .long (lI al), .int (iI mo)])), (c0, .inl (G.2.1 1, 13, .inr (.inl (aL F))))]))) (vp_Sl (fun rv => rv = (lI (tlS F (max r 0).toNat)))) 0 0 (fun _ => False) := by
  refine enR (cc := cX0_orMore) (maxL := 5) (ret := (some .long)) (C := RX0) [(0, .ref h0), (1, .int (iI r))] (by decide) rfl rfl (Nat.le_of_ble_eq_true rfl) rfl ?_
  intro p e s m args below meth c ls hx hb hr hml hown hts hlocks hP hK hT hN hl
  have hS : va_S (fun _ => False) s.heap s.heap [] := va_S.rf
  show W p l e rm_c_X0_orMore s m args below meth c s.heap [] 0 0 _ (F0 m 0 ls [])
  refine lv_lconst (v := lI 0) hx hb dX0_orMore_0 (by decide) ?_
  refine lv_lstore_n (lv' := [(2, .long (lI 0)), (0, .ref h0), (1, .int (iI r))]) hx hb dX0_orMore_1 rfl hl (by decide) rfl (fun ls hl => ?_)
  refine lv_iload_n hx hb dX0_orMore_2 rfl (lv_at hl 2 rfl) ?_
  refine lv_iconst (v := iI 0) hx hb dX0_orMore_3 rfl ?_
  refine w_mmax hx hb (hml.trans hl.1.symm) hown (hts (.methodLink RX0 97 Lib.Math.max.name) (by decide +kernel)) (hts (.static Lib.Math.max.name) (by decide +kernel)) (hts (.initialized "java/lang/Math") (by decide +kernel)) (hts (.code Lib.Math.max.name Lib.Math.max.code 2 (some .int)) (by decide +kernel)) (Nat.le_of_ble_eq_true rfl) (Nat.le_of_ble_eq_true rfl) (Nat.le_of_ble_eq_true rfl) (Nat.le_of_ble_eq_true rfl) (by omega) (by decide) dX0_orMore_4 ?_
  refine lv_istore (lv' := [(4, .int (iI (max r 0))), (2, .long (lI 0)), (0, .ref h0), (1, .int (iI r))]) hx hb dX0_orMore_7 hl (by decide) rfl (fun ls hl => ?_)
  have lp_9 : ∀ (μ9 : Nat) (i : Int) (sm : Int) (hi : max r 0 ≤ i ∧ (i ≤ 13 ∨ i = max r 0) ∧ rI i) (hs : sm = su (fun j => F ((max r 0).toNat + j)) (i - max r 0).toNat) (hμ9 : (13 - i).toNat < μ9) (ls : Array Slot) (hl : lv_has ls 5 [(4, .int (iI i)), (2, .long (lI sm)), (0, .ref h0), (1, .int (iI r))]), W p l e rm_c_X0_orMore s m args below meth c s.heap [] 0 0 (MQ below (vp_Sl (fun rv => rv = (lI (tlS F (max r 0).toNat)))) args s 0 0 (fun _ => False)) (F0 m 9 ls []) := by
    intro μ9
    induction μ9 with
    | zero => intro i sm hi hs hμ9; exact absurd hμ9 (Nat.not_lt_zero _)
    | succ μ9 ih9 =>
      intro i sm hi hs hμ9 ls hl
      refine lv_iload hx hb dX0_orMore_9 (lv_at hl 0 rfl) ?_
      refine lv_aload_n hx hb dX0_orMore_11 rfl (lv_at hl 2 rfl) ?_
      refine va_get (D := G.1) (ci := 1) (v := .ref c0) (C := RX0) (T := TX0) (N := 5) hx hb hts (by decide +kernel) hown hK hP 0 rfl rfl 0 (by decide) (hts (.fieldLink RX0 9 "MilkFirst$Ends" "cases" "[J") (by decide +kernel)) (fun _ h9 => h9) rfl dX0_orMore_12 ?_
      refine va_alen (v := iI 13) hx hb hK hP 1 1 rfl rfl (iI_N 13) dX0_orMore_15 ?_
      refine w_icmp_ge (tgt := 35) hx hb dX0_orMore_16 (by decide) (by omega) (by decide) (fun c_16_1 => ?_) (fun c_16_1 => ?_)
      · refine lv_lload_n hx hb dX0_orMore_35 rfl (lv_at hl 1 rfl) ?_
        exact rtRl hx hb hr hlocks dX0_orMore_36 (congrArg lI (by rw [hs]; unfold tlS; congr 1; omega))
      · refine lv_lload_n hx hb dX0_orMore_19 rfl (lv_at hl 1 rfl) ?_
        refine lv_aload_n hx hb dX0_orMore_20 rfl (lv_at hl 2 rfl) ?_
        refine va_get (D := G.1) (ci := 1) (v := .ref c0) (C := RX0) (T := TX0) (N := 5) hx hb hts (by decide +kernel) hown hK hP 0 rfl rfl 0 (by decide) (hts (.fieldLink RX0 9 "MilkFirst$Ends" "cases" "[J") (by decide +kernel)) (fun _ h9 => h9) rfl dX0_orMore_21 ?_
        refine lv_iload hx hb dX0_orMore_24 (lv_at hl 0 rfl) ?_
        refine w_lald hx hb hK hP 1 1 rfl rfl ((i).toNat) (by omega) (by omega) (by decide) dX0_orMore_26 ?_
        refine w_ladd hx hb dX0_orMore_27 ?_
        refine lv_lstore_n (lv' := [(2, .long (lI (sm + (F ((i).toNat))))), (4, .int (iI i)), (0, .ref h0), (1, .int (iI r))]) hx hb dX0_orMore_28 rfl hl (by decide) rfl (fun ls hl => ?_)
        refine w_iinc (k := 1) (lv' := [(4, .int (iI (i + 1))), (2, .long (lI (sm + (F ((i).toNat))))), (0, .ref h0), (1, .int (iI r))]) hx hb dX0_orMore_29 hl rfl (by decide) rfl (fun ls hl => ?_)
        refine lv_goto (tgt := 9) hx hb dX0_orMore_32 (by decide) ?_
        exact ih9 (i + 1) (sm + (F ((i).toNat))) (by omega) (by rw [hs, show (i + 1 - max r 0).toNat = (i - max r 0).toNat + 1 from by omega]; show _ = su _ _ + F ((max r 0).toNat + (i - max r 0).toNat); rw [show (max r 0).toNat + (i - max r 0).toNat = i.toNat from by omega]) (by omega) _ (lv_sub hl [0, 1, 2, 3] rfl)
  exact lp_9 ((13 - (max r 0)).toNat + 1) (max r 0) 0 (by omega) (by rw [show (max r 0 - max r 0).toNat = 0 from by omega]; rfl) (Nat.lt_succ_self _) _ (lv_sub hl [0, 1, 2, 3] rfl)
abbrev rm_c_X0_together : Room := { frames := 0, cells := 0, slots := 0, locals := 0 }
set_option maxHeartbeats 4000000 in
set_option maxRecDepth 100000 in
theorem c_X0_together (l : Launch) (G : Gx) (h0 : Nat) (c0 : Nat) (b0 : Nat) (j0 : Nat) (F : Nat → Int) (al : Int) (mo : Int) : Met l yX0_together wsX0_together rm_c_X0_together (va_Pc [.ref h0] (rd G ([(h0, .inr (1, [.ref c0, .ref b0, .ref j0, .long (lI al), .int (iI mo)])), (c0, .inl (G.2.1 1, 13, .inr (.inl (aL F))))]))) (vp_Sl (fun rv => rv = (lI (toS F)))) 0 0 (fun _ => False) := by
  refine enR (cc := cX0_together) (maxL := 4) (ret := (some .long)) (C := RX0) [(0, .ref h0)] (by decide) rfl rfl (Nat.le_of_ble_eq_true rfl) rfl ?_
  intro p e s m args below meth c ls hx hb hr hml hown hts hlocks hP hK hT hN hl
  have hS : va_S (fun _ => False) s.heap s.heap [] := va_S.rf
  show W p l e rm_c_X0_together s m args below meth c s.heap [] 0 0 _ (F0 m 0 ls [])
  refine lv_lconst (v := lI 0) hx hb dX0_together_0 (by decide) ?_
  refine lv_lstore_n (lv' := [(1, .long (lI 0)), (0, .ref h0)]) hx hb dX0_together_1 rfl hl (by decide) rfl (fun ls hl => ?_)
  refine lv_iconst (v := iI 0) hx hb dX0_together_2 rfl ?_
  refine lv_istore_n (lv' := [(3, .int (iI 0)), (1, .long (lI 0)), (0, .ref h0)]) hx hb dX0_together_3 rfl hl (by decide) rfl (fun ls hl => ?_)
  have lp_4 : ∀ (μ4 : Nat) (i : Int) (sm : Int) (hi : 0 ≤ i ∧ i ≤ 13) (hs : sm = su (fun j => j * F j) i.toNat) (hμ4 : (13 - i).toNat < μ4) (ls : Array Slot) (hl : lv_has ls 4 [(3, .int (iI i)), (1, .long (lI sm)), (0, .ref h0)]), W p l e rm_c_X0_together s m args below meth c s.heap [] 0 0 (MQ below (vp_Sl (fun rv => rv = (lI (toS F)))) args s 0 0 (fun _ => False)) (F0 m 4 ls []) := by
    intro μ4
    induction μ4 with
    | zero => intro i sm hi hs hμ4; exact absurd hμ4 (Nat.not_lt_zero _)
    | succ μ4 ih4 =>
      intro i sm hi hs hμ4 ls hl
      refine lv_iload_n hx hb dX0_together_4 rfl (lv_at hl 0 rfl) ?_
      refine lv_aload_n hx hb dX0_together_5 rfl (lv_at hl 2 rfl) ?_
      refine va_get (D := G.1) (ci := 1) (v := .ref c0) (C := RX0) (T := TX0) (N := 5) hx hb hts (by decide +kernel) hown hK hP 0 rfl rfl 0 (by decide) (hts (.fieldLink RX0 9 "MilkFirst$Ends" "cases" "[J") (by decide +kernel)) (fun _ h9 => h9) rfl dX0_together_6 ?_
      refine va_alen (v := iI 13) hx hb hK hP 1 1 rfl rfl (iI_N 13) dX0_together_9 ?_
      refine w_icmp_ge (tgt := 31) hx hb dX0_together_10 (by decide) (by omega) (by decide) (fun c_10_1 => ?_) (fun c_10_1 => ?_)
      · refine lv_lload_n hx hb dX0_together_31 rfl (lv_at hl 1 rfl) ?_
        exact rtRl hx hb hr hlocks dX0_together_32 (congrArg lI (by rw [hs, show i.toNat = 13 from by omega]; rfl))
      · refine lv_lload_n hx hb dX0_together_13 rfl (lv_at hl 1 rfl) ?_
        refine lv_iload_n hx hb dX0_together_14 rfl (lv_at hl 0 rfl) ?_
        refine w_i2l hx hb dX0_together_15 (by omega) ?_
        refine lv_aload_n hx hb dX0_together_16 rfl (lv_at hl 2 rfl) ?_
        refine va_get (D := G.1) (ci := 1) (v := .ref c0) (C := RX0) (T := TX0) (N := 5) hx hb hts (by decide +kernel) hown hK hP 0 rfl rfl 0 (by decide) (hts (.fieldLink RX0 9 "MilkFirst$Ends" "cases" "[J") (by decide +kernel)) (fun _ h9 => h9) rfl dX0_together_17 ?_
        refine lv_iload_n hx hb dX0_together_20 rfl (lv_at hl 0 rfl) ?_
        refine w_lald hx hb hK hP 1 1 rfl rfl ((i).toNat) (by omega) (by omega) (by decide) dX0_together_21 ?_
        refine w_lmul hx hb dX0_together_22 ?_
        refine w_ladd hx hb dX0_together_23 ?_
        refine lv_lstore_n (lv' := [(1, .long (lI (sm + (i * (F ((i).toNat)))))), (3, .int (iI i)), (0, .ref h0)]) hx hb dX0_together_24 rfl hl (by decide) rfl (fun ls hl => ?_)
        refine w_iinc (k := 1) (lv' := [(3, .int (iI (i + 1))), (1, .long (lI (sm + (i * (F ((i).toNat)))))), (0, .ref h0)]) hx hb dX0_together_25 hl rfl (by decide) rfl (fun ls hl => ?_)
        refine lv_goto (tgt := 4) hx hb dX0_together_28 (by decide) ?_
        exact ih4 (i + 1) (sm + (i * (F ((i).toNat)))) (by omega) (by rw [hs, show (i + 1).toNat = i.toNat + 1 from by omega]; show _ = su _ _ + ((i.toNat : Nat) : Int) * F i.toNat; rw [show ((i.toNat : Nat) : Int) = i from by omega]) (by omega) _ (lv_sub hl [0, 1, 2] rfl)
  exact lp_4 ((13 - (0 : Int)).toNat + 1) 0 0 (by omega) (by rfl) (Nat.lt_succ_self _) _ (lv_sub hl [0, 1, 2] rfl)
abbrev rm_c_X0_lineFor : Room := { frames := 3, cells := 0, slots := 0, locals := 77 }
set_option maxHeartbeats 4000000 in
set_option maxRecDepth 100000 in
theorem c_X0_lineFor (l : Launch) (G : Gx) (h0 : Nat) (c0 : Nat) (b0 : Nat) (j0 : Nat) (F : Nat → Int) (al : Int) (mo : Int) (q : Int) (hm : 0 ≤ mo ∧ mo ≤ 12) (hq : 0 ≤ q ∧ q ≤ 1000) (hal : 0 ≤ al ∧ al < 9223372036854775808) (h1 : ∀ i : Nat, rL (tlS F i) ∧ rL ((1000 : Int).tdiv (gcI al 1000) * tlS F i)) (h2 : rL (al.tdiv (gcI al 1000) * q)) : Met l yX0_lineFor wsX0_lineFor rm_c_X0_lineFor (va_Pc [.ref h0, .int (iI q)] (rd G ([(h0, .inr (1, [.ref c0, .ref b0, .ref j0, .long (lI al), .int (iI mo)])), (c0, .inl (G.2.1 1, 13, .inr (.inl (aL F))))]))) (vp_Si (fun rv => rv = (iI (lnF (fun i => decide (1000 * tlS F i ≤ al * q)) (mo + 1).toNat)))) 0 0 (fun _ => False) := by
  refine enR (cc := cX0_lineFor) (maxL := 4) (ret := (some .int)) (C := RX0) [(0, .ref h0), (1, .int (iI q))] (by decide) rfl rfl (Nat.le_of_ble_eq_true rfl) rfl ?_
  intro p e s m args below meth c ls hx hb hr hml hown hts hlocks hP hK hT hN hl
  have hS : va_S (fun _ => False) s.heap s.heap [] := va_S.rf
  show W p l e rm_c_X0_lineFor s m args below meth c s.heap [] 0 0 _ (F0 m 0 ls [])
  refine lv_aload_n hx hb dX0_lineFor_0 rfl (lv_at hl 0 rfl) ?_
  refine va_get (D := G.1) (ci := 1) (v := .int (iI mo)) (C := RX0) (T := TX0) (N := 5) hx hb hts (by decide +kernel) hown hK hP 0 rfl rfl 4 (by decide) (hts (.fieldLink RX0 25 "MilkFirst$Ends" "most" "I") (by decide +kernel)) (fun _ h9 => h9) rfl dX0_lineFor_1 ?_
  refine lv_iconst (v := iI 1) hx hb dX0_lineFor_4 rfl ?_
  refine w_iadd hx hb dX0_lineFor_5 ?_
  refine lv_istore_n (lv' := [(2, .int (iI (mo + 1))), (0, .ref h0), (1, .int (iI q))]) hx hb dX0_lineFor_6 rfl hl (by decide) rfl (fun ls hl => ?_)
  refine lv_aload_n hx hb dX0_lineFor_7 rfl (lv_at hl 1 rfl) ?_
  refine va_get (D := G.1) (ci := 1) (v := .int (iI mo)) (C := RX0) (T := TX0) (N := 5) hx hb hts (by decide +kernel) hown hK hP 0 rfl rfl 4 (by decide) (hts (.fieldLink RX0 25 "MilkFirst$Ends" "most" "I") (by decide +kernel)) (fun _ h9 => h9) rfl dX0_lineFor_8 ?_
  refine lv_istore_n (lv' := [(3, .int (iI mo)), (2, .int (iI (mo + 1))), (0, .ref h0), (1, .int (iI q))]) hx hb dX0_lineFor_11 rfl hl (by decide) rfl (fun ls hl => ?_)
  have lp_12 : ∀ (μ12 : Nat) (li : Int) (ri : Int) (hi : -1 ≤ ri ∧ ri ≤ mo ∧ li = ri + 1) (hs : lnF (fun i => decide (1000 * tlS F i ≤ al * q)) (mo + 1).toNat = lnF (fun i => decide (1000 * tlS F i ≤ al * q)) (ri + 1).toNat) (hμ12 : (ri + 1).toNat < μ12) (ls : Array Slot) (hl : lv_has ls 4 [(3, .int (iI ri)), (2, .int (iI li)), (0, .ref h0), (1, .int (iI q))]), W p l e rm_c_X0_lineFor s m args below meth c s.heap [] 0 0 (MQ below (vp_Si (fun rv => rv = (iI (lnF (fun i => decide (1000 * tlS F i ≤ al * q)) (mo + 1).toNat)))) args s 0 0 (fun _ => False)) (F0 m 12 ls []) := by
    intro μ12
    induction μ12 with
    | zero => intro li ri hi hs hμ12; exact absurd hμ12 (Nat.not_lt_zero _)
    | succ μ12 ih12 =>
      intro li ri hi hs hμ12 ls hl
      refine lv_iload_n hx hb dX0_lineFor_12 rfl (lv_at hl 0 rfl) ?_
      refine w_if_lt (tgt := 42) hx hb dX0_lineFor_13 (by decide) (by omega) (fun c_13_1 => ?_) (fun c_13_1 => ?_)
      · refine lv_iload_n hx hb dX0_lineFor_42 rfl (lv_at hl 1 rfl) ?_
        exact rtRi hx hb hr hlocks dX0_lineFor_43 (congrArg iI (by rw [hs, show (ri + 1).toNat = 0 from by omega]; show li = ((0 : Nat) : Int); omega))
      · refine lv_aload_n hx hb dX0_lineFor_16 rfl (lv_at hl 2 rfl) ?_
        refine lv_iload_n hx hb dX0_lineFor_17 rfl (lv_at hl 0 rfl) ?_
        refine cRVl (As := [.int (iI ri)]) (rest := []) ⟨hx, hb, hml, hown, hts⟩ (c_X0_orMore l G h0 c0 b0 j0 F al mo ri (by omega)) (cwV 1 hts gX0_lineFor_X0_orMore rfl rfl rfl (by decide +kernel) ⟨Nat.le_of_ble_eq_true rfl, Nat.le_of_ble_eq_true rfl⟩) rfl hl.1 rfl (Nat.le_of_ble_eq_true rfl) dX0_lineFor_18 ⟨Nat.le_of_ble_eq_true rfl, Nat.le_of_ble_eq_true rfl⟩ (hP.sub [0, 1] rfl) hK hT hN hS (ci := 1) rfl rfl ?_
        refine lv_aload_n hx hb dX0_lineFor_21 rfl (lv_at hl 2 rfl) ?_
        refine va_get (D := G.1) (ci := 1) (v := .long (lI al)) (C := RX0) (T := TX0) (N := 5) hx hb hts (by decide +kernel) hown hK hP 0 rfl rfl 3 (by decide) (hts (.fieldLink RX0 21 "MilkFirst$Ends" "allCases" "J") (by decide +kernel)) (fun _ h9 => h9) rfl dX0_lineFor_22 ?_
        refine lv_iload_n hx hb dX0_lineFor_25 rfl (lv_at hl 3 rfl) ?_
        refine cRSi (As := [.long (lI (tlS F (max ri 0).toNat)), .long (lI al), .int (iI q)]) (rest := []) ⟨hx, hb, hml, hown, hts⟩ (c_X2_against l G (tlS F (max ri 0).toNat) al q (by exact (h1 _).1) (by omega) (by omega) (by exact (h1 _).2) (by exact h2)) (va_cwS 3 hts gX0_lineFor_X2_against rfl rfl rfl (by decide +kernel) ⟨Nat.le_of_ble_eq_true rfl, Nat.le_of_ble_eq_true rfl⟩) rfl hl.1 rfl (Nat.le_of_ble_eq_true rfl) dX0_lineFor_26 ⟨Nat.le_of_ble_eq_true rfl, Nat.le_of_ble_eq_true rfl⟩ va_P_nil hK hT hN hS ?_
        refine w_if_le (tgt := 34) hx hb dX0_lineFor_29 (by decide) (kcm_r _ _) (fun c_29_2 => ?_) (fun c_29_2 => ?_)
        · have c29 := c_29_2
          refine lv_iload_n hx hb dX0_lineFor_34 rfl (lv_at hl 0 rfl) ?_
          refine lv_istore_n (lv' := [(2, .int (iI ri)), (3, .int (iI ri)), (0, .ref h0), (1, .int (iI q))]) hx hb dX0_lineFor_35 rfl hl (by decide) rfl (fun ls hl => ?_)
          refine w_iinc (k := 1) (lv' := [(3, .int (iI (ri + (-1)))), (2, .int (iI ri)), (0, .ref h0), (1, .int (iI q))]) hx hb dX0_lineFor_36 hl rfl (by decide) rfl (fun ls hl => ?_)
          refine lv_goto (tgt := 12) hx hb dX0_lineFor_39 (by decide) ?_
          exact ih12 ri (ri + (-1)) (by omega) (by rw [hs, show (ri + 1).toNat = (ri + -1 + 1).toNat + 1 from by omega]; show (if decide (1000 * tlS F ((ri + -1 + 1).toNat) ≤ al * q) = true then _ else _) = _; rw [if_pos (decide_eq_true (by have := kcm_le c29; rw [show (ri + -1 + 1).toNat = (max ri 0).toNat from by omega]; exact this))]) (by omega) _ (lv_sub hl [0, 1, 2, 3] rfl)
        · have c29 := c_29_2
          refine lv_iload_n hx hb dX0_lineFor_32 rfl (lv_at hl 1 rfl) ?_
          exact rtRi hx hb hr hlocks dX0_lineFor_33 (congrArg iI (by rw [hs, show (ri + 1).toNat = ri.toNat + 1 from by omega]; show _ = ((if decide (1000 * tlS F ri.toNat ≤ al * q) = true then _ else _ : Nat) : Int); rw [if_neg (fun z => absurd (of_decide_eq_true z) (by have := kcm_g c29; rw [show (max ri 0).toNat = ri.toNat from by omega] at this; omega))]; omega))
  exact lp_12 ((mo + 1).toNat + 1) (mo + 1) mo (by omega) (by rfl) (Nat.lt_succ_self _) _ (lv_sub hl [0, 1, 2, 3] rfl)
abbrev rm_c_X0_fillEach : Room := { frames := 1, cells := 0, slots := 0, locals := 25 }
set_option maxHeartbeats 4000000 in
set_option maxRecDepth 100000 in
theorem c_X0_fillEach (l : Launch) (G : Gx) (h0 : Nat) (c0 : Nat) (b0 : Nat) (j0 : Nat) (F : Nat → Int) (al : Int) (mo : Int) (n : Int) (x : Int) (y : Int) (sz : Nat) (hn : 1 ≤ n ∧ n ≤ 12) : Met l yX0_fillEach wsX0_fillEach rm_c_X0_fillEach (va_Pc [.ref h0, .int (iI n), .long (lI x), .long (lI y)] (wr G ([(h0, .inr (1, [.ref c0, .ref b0, .ref j0, .long (lI al), .int (iI mo)])), (c0, .inl (G.2.1 1, 13, .inr (.inl (aL F))))]) sz)) (va_Qv (fun (u : (Nat → Int)) => ∀ j : Nat, j < 13 → u j = if (j : Int) ≤ n then eaC n x y j else F j) (Bw G.1 vwCl (fun (u : (Nat → Int)) => [(h0, .inr (1, [.ref c0, .ref b0, .ref j0, .long (lI (y ^ n.toNat)), .int (iI mo)])), (c0, .inl (G.2.1 1, 13, .inr (.inl (aL u))))]) (va_A ([(h0, .inr (1, [.ref c0, .ref b0, .ref j0, .long (lI al), .int (iI mo)])), (c0, .inl (G.2.1 1, 13, .inr (.inl (aL F))))]) sz)) (va_A ([(h0, .inr (1, [.ref c0, .ref b0, .ref j0, .long (lI al), .int (iI mo)])), (c0, .inl (G.2.1 1, 13, .inr (.inl (aL F))))]) sz)) 0 0 (va_A ([(h0, .inr (1, [.ref c0, .ref b0, .ref j0, .long (lI al), .int (iI mo)])), (c0, .inl (G.2.1 1, 13, .inr (.inl (aL F))))]) sz) := by
  refine enW (Qc := fun A => (va_Qv (fun (u : (Nat → Int)) => ∀ j : Nat, j < 13 → u j = if (j : Int) ≤ n then eaC n x y j else F j) (Bw G.1 vwCl (fun (u : (Nat → Int)) => [(h0, .inr (1, [.ref c0, .ref b0, .ref j0, .long (lI (y ^ n.toNat)), .int (iI mo)])), (c0, .inl (G.2.1 1, 13, .inr (.inl (aL u))))]) A) A)) (mc := 0) (ms := 0) (cc := cX0_fillEach) (maxL := 7) (ret := none) (C := RX0) [(0, .ref h0), (1, .int (iI n)), (2, .long (lI x)), (4, .long (lI y))] (by decide) rfl rfl (Nat.le_of_ble_eq_true rfl) rfl ?_
  intro p e s m args below meth c ls A hx hb hr hml hown hts hlocks hin hP hK hD hT hN hA hS hl
  show W p l e rm_c_X0_fillEach s m args below meth c s.heap [] 0 0 _ (F0 m 0 ls [])
  refine lv_iconst (v := iI 0) hx hb dX0_fillEach_0 rfl ?_
  refine lv_istore (lv' := [(6, .int (iI 0)), (0, .ref h0), (1, .int (iI n)), (2, .long (lI x)), (4, .long (lI y))]) hx hb dX0_fillEach_1 hl (by decide) rfl (fun ls hl => ?_)
  have lp_3 : ∀ (μ3 : Nat) (i : Int) (F2 : Nat → Int) (hi : 0 ≤ i ∧ i ≤ n + 1) (hF : ∀ j : Nat, j < 13 → F2 j = if (j : Int) < i then eaC n x y j else F j) (hμ3 : (n + 1 - i).toNat < μ3) (H : Heap) (locs : List Loc) (ls : Array Slot) (hP : va_P G.1 vwCl ([(h0, .inr (1, [.ref c0, .ref b0, .ref j0, .long (lI al), .int (iI mo)])), (c0, .inl (G.2.1 1, 13, .inr (.inl (aL F2))))]) H) (hD : va_D A ([(h0, .inr (1, [.ref c0, .ref b0, .ref j0, .long (lI al), .int (iI mo)])), (c0, .inl (G.2.1 1, 13, .inr (.inl (aL F2))))])) (hS : va_S A s.heap H locs) (hl : lv_has ls 7 [(6, .int (iI i)), (0, .ref h0), (1, .int (iI n)), (2, .long (lI x)), (4, .long (lI y))]), W p l e rm_c_X0_fillEach s m args below meth c H locs 0 0 (MQ below (va_Qv (fun (u : (Nat → Int)) => ∀ j : Nat, j < 13 → u j = if (j : Int) ≤ n then eaC n x y j else F j) (Bw G.1 vwCl (fun (u : (Nat → Int)) => [(h0, .inr (1, [.ref c0, .ref b0, .ref j0, .long (lI (y ^ n.toNat)), .int (iI mo)])), (c0, .inl (G.2.1 1, 13, .inr (.inl (aL u))))]) A) A) args s 0 0 A) (F0 m 3 ls []) := by
    intro μ3
    induction μ3 with
    | zero => intro i F2 hi hF hμ3; exact absurd hμ3 (Nat.not_lt_zero _)
    | succ μ3 ih3 =>
      intro i F2 hi hF hμ3 H locs ls hP hD hS hl
      refine lv_iload hx hb dX0_fillEach_3 (lv_at hl 0 rfl) ?_
      refine lv_iload_n hx hb dX0_fillEach_5 rfl (lv_at hl 2 rfl) ?_
      refine w_icmp_gt (tgt := 57) hx hb dX0_fillEach_6 (by decide) (by omega) (by omega) (fun c_6_1 => ?_) (fun c_6_1 => ?_)
      · refine lv_aload_n hx hb dX0_fillEach_57 rfl (lv_at hl 1 rfl) ?_
        refine lv_lload hx hb dX0_fillEach_58 (lv_at hl 4 rfl) ?_
        refine lv_iload_n hx hb dX0_fillEach_60 rfl (lv_at hl 2 rfl) ?_
        refine cRSl (As := [.long (lI y), .int (iI n)]) (rest := [.ref h0]) ⟨hx, hb, hml, hown, hts⟩ (c_X2_power l G y n (by omega)) (va_cwS 2 hts gX0_fillEach_X2_power rfl rfl rfl (by decide +kernel) ⟨Nat.le_of_ble_eq_true rfl, Nat.le_of_ble_eq_true rfl⟩) rfl hl.1 rfl (Nat.le_of_ble_eq_true rfl) dX0_fillEach_61 ⟨Nat.le_of_ble_eq_true rfl, Nat.le_of_ble_eq_true rfl⟩ va_P_nil hK hT hN hS ?_
        refine va_put (D := G.1) (ci := 1) (v := .long (lI (y ^ n.toNat))) (ty := .long) (C := RX0) (T := TX0) (N := 5) hx hb hts (by decide +kernel) tyX0 tyX0_ok nmX0 hown hK hP hD hS 0 rfl rfl 3 (by decide) (hts (.fieldLink RX0 21 "MilkFirst$Ends" "allCases" "J") (by decide +kernel)) (fun _ h9 => h9) rfl (by decide +kernel) rfl rfl (Nat.le_of_ble_eq_true rfl) dX0_fillEach_64 (fun H locs hP hD hS => ?_)
        have hP : va_P G.1 vwCl ([(h0, .inr (1, [.ref c0, .ref b0, .ref j0, .long (lI (y ^ n.toNat)), .int (iI mo)])), (c0, .inl (G.2.1 1, 13, .inr (.inl (aL F2))))]) H := hP
        have hD : va_D A ([(h0, .inr (1, [.ref c0, .ref b0, .ref j0, .long (lI (y ^ n.toNat)), .int (iI mo)])), (c0, .inl (G.2.1 1, 13, .inr (.inl (aL F2))))]) := hD
        exact rtWv hx hb hr hlocks dX0_fillEach_67 (F2) (fun j hj => by rw [hF j hj]; by_cases z : (j : Int) ≤ n <;> simp only [z, show ((j : Int) < i) ↔ ((j : Int) ≤ n) from by omega]) hP hD hS
      · refine lv_iload hx hb dX0_fillEach_9 (lv_at hl 0 rfl) ?_
        refine lv_aload_n hx hb dX0_fillEach_11 rfl (lv_at hl 1 rfl) ?_
        refine va_get (D := G.1) (ci := 1) (v := .ref c0) (C := RX0) (T := TX0) (N := 5) hx hb hts (by decide +kernel) hown hK hP 0 rfl rfl 0 (by decide) (hts (.fieldLink RX0 9 "MilkFirst$Ends" "cases" "[J") (by decide +kernel)) (fun _ h9 => h9) rfl dX0_fillEach_12 ?_
        refine va_alen (v := iI 13) hx hb hK hP 1 1 rfl rfl (iI_N 13) dX0_fillEach_15 ?_
        refine w_icmp_ge (tgt := 57) hx hb dX0_fillEach_16 (by decide) (by omega) (by decide) (fun c_16_2 => absurd c_16_2 (by omega)) (fun c_16_2 => ?_)
        refine lv_aload_n hx hb dX0_fillEach_19 rfl (lv_at hl 1 rfl) ?_
        refine va_get (D := G.1) (ci := 1) (v := .ref c0) (C := RX0) (T := TX0) (N := 5) hx hb hts (by decide +kernel) hown hK hP 0 rfl rfl 0 (by decide) (hts (.fieldLink RX0 9 "MilkFirst$Ends" "cases" "[J") (by decide +kernel)) (fun _ h9 => h9) rfl dX0_fillEach_20 ?_
        refine lv_iload hx hb dX0_fillEach_23 (lv_at hl 0 rfl) ?_
        refine lv_iload_n hx hb dX0_fillEach_25 rfl (lv_at hl 2 rfl) ?_
        refine lv_iload hx hb dX0_fillEach_26 (lv_at hl 0 rfl) ?_
        refine cRSl (As := [.int (iI n), .int (iI i)]) (rest := [.int (iI i), .ref c0]) ⟨hx, hb, hml, hown, hts⟩ (c_X2_ways l G n i (by omega)) (va_cwS 2 hts gX0_fillEach_X2_ways rfl rfl rfl (by decide +kernel) ⟨Nat.le_of_ble_eq_true rfl, Nat.le_of_ble_eq_true rfl⟩) rfl hl.1 rfl (Nat.le_of_ble_eq_true rfl) dX0_fillEach_28 ⟨Nat.le_of_ble_eq_true rfl, Nat.le_of_ble_eq_true rfl⟩ va_P_nil hK hT hN hS ?_
        refine lv_lload_n hx hb dX0_fillEach_31 rfl (lv_at hl 3 rfl) ?_
        refine lv_iload hx hb dX0_fillEach_32 (lv_at hl 0 rfl) ?_
        refine cRSl (As := [.long (lI x), .int (iI i)]) (rest := [.long (lI (wayF n i)), .int (iI i), .ref c0]) ⟨hx, hb, hml, hown, hts⟩ (c_X2_power l G x i (by omega)) (va_cwS 2 hts gX0_fillEach_X2_power rfl rfl rfl (by decide +kernel) ⟨Nat.le_of_ble_eq_true rfl, Nat.le_of_ble_eq_true rfl⟩) rfl hl.1 rfl (Nat.le_of_ble_eq_true rfl) dX0_fillEach_34 ⟨Nat.le_of_ble_eq_true rfl, Nat.le_of_ble_eq_true rfl⟩ va_P_nil hK hT hN hS ?_
        refine w_lmul hx hb dX0_fillEach_37 ?_
        refine lv_lload hx hb dX0_fillEach_38 (lv_at hl 4 rfl) ?_
        refine lv_lload_n hx hb dX0_fillEach_40 rfl (lv_at hl 3 rfl) ?_
        refine w_lsub hx hb dX0_fillEach_41 ?_
        refine lv_iload_n hx hb dX0_fillEach_42 rfl (lv_at hl 2 rfl) ?_
        refine lv_iload hx hb dX0_fillEach_43 (lv_at hl 0 rfl) ?_
        refine w_isub hx hb dX0_fillEach_45 ?_
        refine cRSl (As := [.long (lI (y - x)), .int (iI (n - i))]) (rest := [.long (lI ((wayF n i) * (x ^ i.toNat))), .int (iI i), .ref c0]) ⟨hx, hb, hml, hown, hts⟩ (c_X2_power l G (y - x) (n - i) (by omega)) (va_cwS 2 hts gX0_fillEach_X2_power rfl rfl rfl (by decide +kernel) ⟨Nat.le_of_ble_eq_true rfl, Nat.le_of_ble_eq_true rfl⟩) rfl hl.1 rfl (Nat.le_of_ble_eq_true rfl) dX0_fillEach_46 ⟨Nat.le_of_ble_eq_true rfl, Nat.le_of_ble_eq_true rfl⟩ va_P_nil hK hT hN hS ?_
        refine w_lmul hx hb dX0_fillEach_49 ?_
        refine w_last hx hb hK hP hD hS 1 1 rfl rfl ((i).toNat) (by omega) (by omega) (by decide) dX0_fillEach_50 (fun H locs hP hD hS => ?_)
        have hP : va_P G.1 vwCl ([(h0, .inr (1, [.ref c0, .ref b0, .ref j0, .long (lI al), .int (iI mo)])), (c0, .inl (G.2.1 1, 13, .inr (.inl (aL (va_up F2 ((i).toNat) (((wayF n i) * (x ^ i.toNat)) * ((y - x) ^ (n - i).toNat)))))))]) H := hP
        have hD : va_D A ([(h0, .inr (1, [.ref c0, .ref b0, .ref j0, .long (lI al), .int (iI mo)])), (c0, .inl (G.2.1 1, 13, .inr (.inl (aL (va_up F2 ((i).toNat) (((wayF n i) * (x ^ i.toNat)) * ((y - x) ^ (n - i).toNat)))))))]) := hD
        refine w_iinc (k := 0) (lv' := [(6, .int (iI (i + 1))), (0, .ref h0), (1, .int (iI n)), (2, .long (lI x)), (4, .long (lI y))]) hx hb dX0_fillEach_51 hl rfl (by decide) rfl (fun ls hl => ?_)
        refine lv_goto (tgt := 3) hx hb dX0_fillEach_54 (by decide) ?_
        exact ih3 (i + 1) (va_up F2 ((i).toNat) (((wayF n i) * (x ^ i.toNat)) * ((y - x) ^ (n - i).toNat))) (by omega) (by exact ea_step hi.1 hF) (by omega) _ _ _ hP hD hS (lv_sub hl [0, 1, 2, 3, 4] rfl)
  exact lp_3 ((n + 1 - (0 : Int)).toNat + 1) 0 F (by omega) (by intro j hj; rw [if_neg (by omega)]) (Nat.lt_succ_self _) _ _ _ hP hD hS (lv_sub hl [0, 1, 2, 3, 4] rfl)
abbrev rm_c_X0_addNamed : Room := { frames := 1, cells := 0, slots := 0, locals := 22 }
set_option maxHeartbeats 4000000 in
set_option maxRecDepth 100000 in
theorem c_X0_addNamed (l : Launch) (G : Gx) (c0 : Nat) (nn : Nat) (F : Nat → Int) (n : Int) (k : Int) (g : Int) (bd : Int) (sv : Int) (sz : Nat) (hn : n ≤ 12 ∧ nn ≤ 13) (hk : 1 ≤ k ∧ k < n) (hg : 0 ≤ g ∧ g ≤ k) (hbd : 0 ≤ bd ∧ bd ≤ n - k) (hsv : 0 ≤ sv ∧ sv < 9223372036854775808) : Met l yX0_addNamed wsX0_addNamed rm_c_X0_addNamed (va_Pc [.ref c0, .int (iI n), .int (iI k), .int (iI g), .int (iI bd), .long (lI sv)] (wr G ([(c0, .inl (G.2.1 1, nn, .inr (.inl (aL F))))]) sz)) (va_Qv (fun (u : (Nat → Int)) => ∀ j : Nat, j < nn → u j = F j + sv.tdiv (adL n k g bd) * adC n k g bd j (adD k g bd + 1).toNat) (Bw G.1 vwCl (fun (u : (Nat → Int)) => [(c0, .inl (G.2.1 1, nn, .inr (.inl (aL u))))]) (va_A ([(c0, .inl (G.2.1 1, nn, .inr (.inl (aL F))))]) sz)) (va_A ([(c0, .inl (G.2.1 1, nn, .inr (.inl (aL F))))]) sz)) 0 0 (va_A ([(c0, .inl (G.2.1 1, nn, .inr (.inl (aL F))))]) sz) := by
  refine enW (Qc := fun A => (va_Qv (fun (u : (Nat → Int)) => ∀ j : Nat, j < nn → u j = F j + sv.tdiv (adL n k g bd) * adC n k g bd j (adD k g bd + 1).toNat) (Bw G.1 vwCl (fun (u : (Nat → Int)) => [(c0, .inl (G.2.1 1, nn, .inr (.inl (aL u))))]) A) A)) (mc := 0) (ms := 0) (cc := cX0_addNamed) (maxL := 18) (ret := none) (C := RX0) [(0, .ref c0), (1, .int (iI n)), (2, .int (iI k)), (3, .int (iI g)), (4, .int (iI bd)), (5, .long (lI sv))] (by decide) rfl rfl (Nat.le_of_ble_eq_true rfl) rfl ?_
  intro p e s m args below meth c ls A hx hb hr hml hown hts hlocks hin hP hK hD hT hN hA hS hl
  show W p l e rm_c_X0_addNamed s m args below meth c s.heap [] 0 0 _ (F0 m 0 ls [])
  refine lv_iload_n hx hb dX0_addNamed_0 rfl (lv_at hl 3 rfl) ?_
  refine lv_iload hx hb dX0_addNamed_1 (lv_at hl 4 rfl) ?_
  refine w_iadd hx hb dX0_addNamed_3 ?_
  refine lv_iload_n hx hb dX0_addNamed_4 rfl (lv_at hl 2 rfl) ?_
  refine w_icmp_lt (tgt := 12) hx hb dX0_addNamed_5 (by decide) (by omega) (by omega) (fun c_5_1 => ?_) (fun c_5_1 => ?_)
  · have c5 : ¬ k ≤ g + bd := by omega
    refine lv_iconst (v := iI 0) hx hb dX0_addNamed_12 rfl ?_
    refine lv_istore (lv' := [(7, .int (iI 0)), (0, .ref c0), (1, .int (iI n)), (2, .int (iI k)), (3, .int (iI g)), (4, .int (iI bd)), (5, .long (lI sv))]) hx hb dX0_addNamed_13 hl (by decide) rfl (fun ls hl => ?_)
    refine lv_iload hx hb dX0_addNamed_15 (lv_at hl 0 rfl) ?_
    refine w_if_eq (tgt := 24) hx hb dX0_addNamed_17 (by decide) (by decide) (fun _ => ?_) (fun c_ => absurd c_ (by decide))
    refine lv_iload_n hx hb dX0_addNamed_24 rfl (lv_at hl 4 rfl) ?_
    refine lv_istore (lv' := [(8, .int (iI g)), (7, .int (iI 0)), (0, .ref c0), (1, .int (iI n)), (2, .int (iI k)), (3, .int (iI g)), (4, .int (iI bd)), (5, .long (lI sv))]) hx hb dX0_addNamed_25 hl (by decide) rfl (fun ls hl => ?_)
    refine lv_iload hx hb dX0_addNamed_27 (lv_at hl 1 rfl) ?_
    refine w_if_eq (tgt := 36) hx hb dX0_addNamed_29 (by decide) (by decide) (fun _ => ?_) (fun c_ => absurd c_ (by decide))
    refine lv_iload_n hx hb dX0_addNamed_36 rfl (lv_at hl 4 rfl) ?_
    refine lv_iload_n hx hb dX0_addNamed_37 rfl (lv_at hl 5 rfl) ?_
    refine w_isub hx hb dX0_addNamed_38 ?_
    refine lv_iload hx hb dX0_addNamed_39 (lv_at hl 6 rfl) ?_
    refine w_isub hx hb dX0_addNamed_41 ?_
    refine lv_istore (lv' := [(9, .int (iI ((k - g) - bd))), (8, .int (iI g)), (7, .int (iI 0)), (0, .ref c0), (1, .int (iI n)), (2, .int (iI k)), (3, .int (iI g)), (4, .int (iI bd)), (5, .long (lI sv))]) hx hb dX0_addNamed_42 hl (by decide) rfl (fun ls hl => ?_)
    refine lv_iload hx hb dX0_addNamed_44 (lv_at hl 2 rfl) ?_
    refine w_if_eq (tgt := 53) hx hb dX0_addNamed_46 (by decide) (by decide) (fun _ => ?_) (fun c_ => absurd c_ (by decide))
    refine lv_iload_n hx hb dX0_addNamed_53 rfl (lv_at hl 5 rfl) ?_
    refine lv_iload_n hx hb dX0_addNamed_54 rfl (lv_at hl 6 rfl) ?_
    refine w_isub hx hb dX0_addNamed_55 ?_
    refine lv_istore (lv' := [(10, .int (iI (k - g))), (9, .int (iI ((k - g) - bd))), (8, .int (iI g)), (7, .int (iI 0)), (0, .ref c0), (1, .int (iI n)), (2, .int (iI k)), (3, .int (iI g)), (4, .int (iI bd)), (5, .long (lI sv))]) hx hb dX0_addNamed_56 hl (by decide) rfl (fun ls hl => ?_)
    refine lv_iload hx hb dX0_addNamed_58 (lv_at hl 3 rfl) ?_
    refine w_if_eq (tgt := 68) hx hb dX0_addNamed_60 (by decide) (by decide) (fun _ => ?_) (fun c_ => absurd c_ (by decide))
    refine lv_iload_n hx hb dX0_addNamed_68 rfl (lv_at hl 5 rfl) ?_
    refine lv_iload_n hx hb dX0_addNamed_69 rfl (lv_at hl 6 rfl) ?_
    refine w_isub hx hb dX0_addNamed_70 ?_
    refine lv_iload hx hb dX0_addNamed_71 (lv_at hl 8 rfl) ?_
    refine w_isub hx hb dX0_addNamed_73 ?_
    refine lv_istore (lv' := [(11, .int (iI ((n - k) - bd))), (10, .int (iI (k - g))), (9, .int (iI ((k - g) - bd))), (8, .int (iI g)), (7, .int (iI 0)), (0, .ref c0), (1, .int (iI n)), (2, .int (iI k)), (3, .int (iI g)), (4, .int (iI bd)), (5, .long (lI sv))]) hx hb dX0_addNamed_74 hl (by decide) rfl (fun ls hl => ?_)
    have hW : ∀ t, wayF (k - g) t * wayF (n - k - bd) (k - g - bd - t) = adW n k g bd t := fun t => by unfold adW; simp only [if_neg c5]
    have hL : wayF (k - g + (n - k - bd)) (k - g - bd) = adL n k g bd := by unfold adL; simp only [if_neg c5]
    have hDr : k - g - bd = adD k g bd := by unfold adD; rw [if_neg c5]
    have hR : ∀ t, n - 2 * (k - g - t) = adR n k g bd t := fun t => by unfold adR; rw [if_neg c5]
    have hL1 := adL_1 hn.1 hk hg hbd
    refine lv_iload hx hb dX0_addNamed_76 (lv_at hl 1 rfl) ?_
    refine lv_iload hx hb dX0_addNamed_78 (lv_at hl 0 rfl) ?_
    refine w_iadd hx hb dX0_addNamed_80 ?_
    refine lv_iload hx hb dX0_addNamed_81 (lv_at hl 2 rfl) ?_
    refine cRSl (As := [.int (iI ((k - g) + ((n - k) - bd))), .int (iI ((k - g) - bd))]) (rest := []) ⟨hx, hb, hml, hown, hts⟩ (c_X2_ways l G ((k - g) + ((n - k) - bd)) ((k - g) - bd) (by omega)) (va_cwS 2 hts gX0_addNamed_X2_ways rfl rfl rfl (by decide +kernel) ⟨Nat.le_of_ble_eq_true rfl, Nat.le_of_ble_eq_true rfl⟩) rfl hl.1 rfl (Nat.le_of_ble_eq_true rfl) dX0_addNamed_83 ⟨Nat.le_of_ble_eq_true rfl, Nat.le_of_ble_eq_true rfl⟩ va_P_nil hK hT hN hS ?_
    refine W.eq (g2 := F0 m 86 ls [.long (lI (adL n k g bd))]) (by first | rfl | (rw [show (.long (lI (wayF ((k - g) + ((n - k) - bd)) ((k - g) - bd))) : Value) = .long (lI (adL n k g bd)) from by first | exact congrArg (fun z => Value.long (lI z)) hL | rw [hL]])) ?_
    refine lv_lstore (lv' := [(12, .long (lI (adL n k g bd))), (11, .int (iI ((n - k) - bd))), (10, .int (iI (k - g))), (9, .int (iI ((k - g) - bd))), (8, .int (iI g)), (7, .int (iI 0)), (0, .ref c0), (1, .int (iI n)), (2, .int (iI k)), (3, .int (iI g)), (4, .int (iI bd)), (5, .long (lI sv))]) hx hb dX0_addNamed_86 hl (by decide) rfl (fun ls hl => ?_)
    refine lv_lload hx hb dX0_addNamed_88 (lv_at hl 0 rfl) ?_
    refine lv_lconst (v := lI 0) hx hb dX0_addNamed_90 (by decide) ?_
    refine w_lc_ne (tgt := 96) hx hb dX0_addNamed_91 dX0_addNamed_92 (by decide) (by omega) (by decide) (fun c_91_6 => ?_) (fun c_91_6 => absurd c_91_6 (by omega))
    refine lv_iconst (v := iI 0) hx hb dX0_addNamed_96 rfl ?_
    refine lv_istore (lv' := [(14, .int (iI 0)), (12, .long (lI (adL n k g bd))), (11, .int (iI ((n - k) - bd))), (10, .int (iI (k - g))), (9, .int (iI ((k - g) - bd))), (8, .int (iI g)), (7, .int (iI 0)), (0, .ref c0), (1, .int (iI n)), (2, .int (iI k)), (3, .int (iI g)), (4, .int (iI bd)), (5, .long (lI sv))]) hx hb dX0_addNamed_97 hl (by decide) rfl (fun ls hl => ?_)
    have lp_99 : ∀ (μ99 : Nat) (t : Int) (F2 : Nat → Int) (ht : 0 ≤ t) (ht2 : t ≤ adD k g bd + 1) (hF : ∀ j : Nat, j < nn → F2 j = F j + sv.tdiv (adL n k g bd) * adC n k g bd j t.toNat) (hμ99 : (adD k g bd + 1 - t).toNat < μ99) (H : Heap) (locs : List Loc) (ls : Array Slot) (hP : va_P G.1 vwCl ([(c0, .inl (G.2.1 1, nn, .inr (.inl (aL F2))))]) H) (hD : va_D A ([(c0, .inl (G.2.1 1, nn, .inr (.inl (aL F2))))])) (hS : va_S A s.heap H locs) (hl : lv_has ls 18 [(14, .int (iI t)), (12, .long (lI (adL n k g bd))), (11, .int (iI ((n - k) - bd))), (10, .int (iI (k - g))), (9, .int (iI ((k - g) - bd))), (8, .int (iI g)), (7, .int (iI 0)), (0, .ref c0), (1, .int (iI n)), (2, .int (iI k)), (3, .int (iI g)), (4, .int (iI bd)), (5, .long (lI sv))]), W p l e rm_c_X0_addNamed s m args below meth c H locs 0 0 (MQ below (va_Qv (fun (u : (Nat → Int)) => ∀ j : Nat, j < nn → u j = F j + sv.tdiv (adL n k g bd) * adC n k g bd j (adD k g bd + 1).toNat) (Bw G.1 vwCl (fun (u : (Nat → Int)) => [(c0, .inl (G.2.1 1, nn, .inr (.inl (aL u))))]) A) A) args s 0 0 A) (F0 m 99 ls []) := by
      intro μ99
      induction μ99 with
      | zero => intro t F2 ht ht2 hF hμ99; exact absurd hμ99 (Nat.not_lt_zero _)
      | succ μ99 ih99 =>
        intro t F2 ht ht2 hF hμ99 H locs ls hP hD hS hl
        refine lv_iload hx hb dX0_addNamed_99 (lv_at hl 0 rfl) ?_
        refine lv_iload hx hb dX0_addNamed_101 (lv_at hl 4 rfl) ?_
        refine w_icmp_gt (tgt := 172) hx hb dX0_addNamed_103 (by decide) (by omega) (by omega) (fun c_103_7 => ?_) (fun c_103_7 => ?_)
        · exact rtWv hx hb hr hlocks dX0_addNamed_172 (F2) (by have e9 : t = adD k g bd + 1 := (by rw [← hDr] at ht2 ⊢; omega); subst e9; exact hF) hP hD hS
        · refine lv_iload hx hb dX0_addNamed_106 (lv_at hl 3 rfl) ?_
          refine lv_iload hx hb dX0_addNamed_108 (lv_at hl 0 rfl) ?_
          refine cRSl (As := [.int (iI (k - g)), .int (iI t)]) (rest := []) ⟨hx, hb, hml, hown, hts⟩ (c_X2_ways l G (k - g) t (by omega)) (va_cwS 2 hts gX0_addNamed_X2_ways rfl rfl rfl (by decide +kernel) ⟨Nat.le_of_ble_eq_true rfl, Nat.le_of_ble_eq_true rfl⟩) rfl hl.1 rfl (Nat.le_of_ble_eq_true rfl) dX0_addNamed_110 ⟨Nat.le_of_ble_eq_true rfl, Nat.le_of_ble_eq_true rfl⟩ va_P_nil hK hT hN hS ?_
          refine lv_iload hx hb dX0_addNamed_113 (lv_at hl 2 rfl) ?_
          refine lv_iload hx hb dX0_addNamed_115 (lv_at hl 4 rfl) ?_
          refine lv_iload hx hb dX0_addNamed_117 (lv_at hl 0 rfl) ?_
          refine w_isub hx hb dX0_addNamed_119 ?_
          refine cRSl (As := [.int (iI ((n - k) - bd)), .int (iI (((k - g) - bd) - t))]) (rest := [.long (lI (wayF (k - g) t))]) ⟨hx, hb, hml, hown, hts⟩ (c_X2_ways l G ((n - k) - bd) (((k - g) - bd) - t) (by omega)) (va_cwS 2 hts gX0_addNamed_X2_ways rfl rfl rfl (by decide +kernel) ⟨Nat.le_of_ble_eq_true rfl, Nat.le_of_ble_eq_true rfl⟩) rfl hl.1 rfl (Nat.le_of_ble_eq_true rfl) dX0_addNamed_120 ⟨Nat.le_of_ble_eq_true rfl, Nat.le_of_ble_eq_true rfl⟩ va_P_nil hK hT hN hS ?_
          refine w_lmul hx hb dX0_addNamed_123 ?_
          refine lv_lstore (lv' := [(15, .long (lI ((wayF (k - g) t) * (wayF ((n - k) - bd) (((k - g) - bd) - t))))), (14, .int (iI t)), (12, .long (lI (adL n k g bd))), (11, .int (iI ((n - k) - bd))), (10, .int (iI (k - g))), (9, .int (iI ((k - g) - bd))), (8, .int (iI g)), (7, .int (iI 0)), (0, .ref c0), (1, .int (iI n)), (2, .int (iI k)), (3, .int (iI g)), (4, .int (iI bd)), (5, .long (lI sv))]) hx hb dX0_addNamed_124 hl (by decide) rfl (fun ls hl => ?_)
          refine lv_iload_n hx hb dX0_addNamed_126 rfl (lv_at hl 9 rfl) ?_
          refine lv_iconst (v := iI 2) hx hb dX0_addNamed_127 rfl ?_
          refine lv_iload_n hx hb dX0_addNamed_128 rfl (lv_at hl 10 rfl) ?_
          refine lv_iload hx hb dX0_addNamed_129 (lv_at hl 6 rfl) ?_
          refine w_isub hx hb dX0_addNamed_131 ?_
          refine lv_iload hx hb dX0_addNamed_132 (lv_at hl 1 rfl) ?_
          refine w_isub hx hb dX0_addNamed_134 ?_
          refine w_imul hx hb dX0_addNamed_135 ?_
          refine w_isub hx hb dX0_addNamed_136 ?_
          refine lv_istore (lv' := [(17, .int (iI (n - (2 * ((k - g) - t))))), (15, .long (lI ((wayF (k - g) t) * (wayF ((n - k) - bd) (((k - g) - bd) - t))))), (14, .int (iI t)), (12, .long (lI (adL n k g bd))), (11, .int (iI ((n - k) - bd))), (10, .int (iI (k - g))), (9, .int (iI ((k - g) - bd))), (8, .int (iI g)), (7, .int (iI 0)), (0, .ref c0), (1, .int (iI n)), (2, .int (iI k)), (3, .int (iI g)), (4, .int (iI bd)), (5, .long (lI sv))]) hx hb dX0_addNamed_137 hl (by decide) rfl (fun ls hl => ?_)
          refine lv_iload hx hb dX0_addNamed_139 (lv_at hl 0 rfl) ?_
          refine w_if_lt (tgt := 166) hx hb dX0_addNamed_141 (by decide) (by omega) (fun c_141_8 => ?_) (fun c_141_8 => ?_)
          · refine w_iinc (k := 2) (lv' := [(14, .int (iI (t + 1))), (17, .int (iI (n - (2 * ((k - g) - t))))), (15, .long (lI ((wayF (k - g) t) * (wayF ((n - k) - bd) (((k - g) - bd) - t))))), (12, .long (lI (adL n k g bd))), (11, .int (iI ((n - k) - bd))), (10, .int (iI (k - g))), (9, .int (iI ((k - g) - bd))), (8, .int (iI g)), (7, .int (iI 0)), (0, .ref c0), (1, .int (iI n)), (2, .int (iI k)), (3, .int (iI g)), (4, .int (iI bd)), (5, .long (lI sv))]) hx hb dX0_addNamed_166 hl rfl (by decide) rfl (fun ls hl => ?_)
            refine lv_goto (tgt := 99) hx hb dX0_addNamed_169 (by decide) ?_
            exact ih99 (t + 1) F2 (by omega) (by rw [← hDr]; rw [← hDr] at ht2; omega) (by exact ad_out ht (hR t) (by omega) hF) (by rw [← hDr]; rw [← hDr] at hμ99; omega) _ _ _ hP hD hS (lv_sub hl [0, 3, 4, 5, 6, 7, 8, 9, 10, 11, 12, 13, 14] rfl)
          · refine lv_iload hx hb dX0_addNamed_144 (lv_at hl 0 rfl) ?_
            refine lv_aload_n hx hb dX0_addNamed_146 rfl (lv_at hl 9 rfl) ?_
            refine va_alen (v := iI ((nn : Nat) : Int)) hx hb hK hP 0 1 rfl rfl (iI_N _) dX0_addNamed_147 ?_
            refine w_icmp_ge (tgt := 166) hx hb dX0_addNamed_148 (by decide) (by omega) (by omega) (fun c_148_9 => ?_) (fun c_148_9 => ?_)
            · refine w_iinc (k := 2) (lv' := [(14, .int (iI (t + 1))), (17, .int (iI (n - (2 * ((k - g) - t))))), (15, .long (lI ((wayF (k - g) t) * (wayF ((n - k) - bd) (((k - g) - bd) - t))))), (12, .long (lI (adL n k g bd))), (11, .int (iI ((n - k) - bd))), (10, .int (iI (k - g))), (9, .int (iI ((k - g) - bd))), (8, .int (iI g)), (7, .int (iI 0)), (0, .ref c0), (1, .int (iI n)), (2, .int (iI k)), (3, .int (iI g)), (4, .int (iI bd)), (5, .long (lI sv))]) hx hb dX0_addNamed_166 hl rfl (by decide) rfl (fun ls hl => ?_)
              refine lv_goto (tgt := 99) hx hb dX0_addNamed_169 (by decide) ?_
              exact ih99 (t + 1) F2 (by omega) (by rw [← hDr]; rw [← hDr] at ht2; omega) (by exact ad_out ht (hR t) (by omega) hF) (by rw [← hDr]; rw [← hDr] at hμ99; omega) _ _ _ hP hD hS (lv_sub hl [0, 3, 4, 5, 6, 7, 8, 9, 10, 11, 12, 13, 14] rfl)
            · refine lv_aload_n hx hb dX0_addNamed_151 rfl (lv_at hl 9 rfl) ?_
              refine lv_iload hx hb dX0_addNamed_152 (lv_at hl 0 rfl) ?_
              refine lv_dup2_11 hx hb dX0_addNamed_154 rfl rfl ?_
              refine w_lald hx hb hK hP 0 1 rfl rfl (((n - (2 * ((k - g) - t)))).toNat) (by omega) (by omega) (by omega) dX0_addNamed_155 ?_
              refine lv_lload hx hb dX0_addNamed_156 (lv_at hl 14 rfl) ?_
              refine lv_lload hx hb dX0_addNamed_158 (lv_at hl 3 rfl) ?_
              refine w_ldiv hx hb dX0_addNamed_160 (by omega) (by omega) (by omega) (by omega) ?_
              refine lv_lload hx hb dX0_addNamed_161 (lv_at hl 1 rfl) ?_
              refine w_lmul hx hb dX0_addNamed_163 ?_
              refine w_ladd hx hb dX0_addNamed_164 ?_
              refine w_last hx hb hK hP hD hS 0 1 rfl rfl (((n - (2 * ((k - g) - t)))).toNat) (by omega) (by omega) (by omega) dX0_addNamed_165 (fun H locs hP hD hS => ?_)
              have hP : va_P G.1 vwCl ([(c0, .inl (G.2.1 1, nn, .inr (.inl (aL (va_up F2 (((n - (2 * ((k - g) - t)))).toNat) ((F2 (((n - (2 * ((k - g) - t)))).toNat)) + ((sv.tdiv (adL n k g bd)) * ((wayF (k - g) t) * (wayF ((n - k) - bd) (((k - g) - bd) - t))))))))))]) H := hP
              have hD : va_D A ([(c0, .inl (G.2.1 1, nn, .inr (.inl (aL (va_up F2 (((n - (2 * ((k - g) - t)))).toNat) ((F2 (((n - (2 * ((k - g) - t)))).toNat)) + ((sv.tdiv (adL n k g bd)) * ((wayF (k - g) t) * (wayF ((n - k) - bd) (((k - g) - bd) - t))))))))))]) := hD
              refine w_iinc (k := 2) (lv' := [(14, .int (iI (t + 1))), (17, .int (iI (n - (2 * ((k - g) - t))))), (15, .long (lI ((wayF (k - g) t) * (wayF ((n - k) - bd) (((k - g) - bd) - t))))), (12, .long (lI (adL n k g bd))), (11, .int (iI ((n - k) - bd))), (10, .int (iI (k - g))), (9, .int (iI ((k - g) - bd))), (8, .int (iI g)), (7, .int (iI 0)), (0, .ref c0), (1, .int (iI n)), (2, .int (iI k)), (3, .int (iI g)), (4, .int (iI bd)), (5, .long (lI sv))]) hx hb dX0_addNamed_166 hl rfl (by decide) rfl (fun ls hl => ?_)
              refine lv_goto (tgt := 99) hx hb dX0_addNamed_169 (by decide) ?_
              exact ih99 (t + 1) (va_up F2 (((n - (2 * ((k - g) - t)))).toNat) ((F2 (((n - (2 * ((k - g) - t)))).toNat)) + ((sv.tdiv (adL n k g bd)) * ((wayF (k - g) t) * (wayF ((n - k) - bd) (((k - g) - bd) - t)))))) (by omega) (by rw [← hDr]; rw [← hDr] at ht2; omega) (by exact ad_in ht (hR t) (by omega) (hW t) hF) (by rw [← hDr]; rw [← hDr] at hμ99; omega) _ _ _ hP hD hS (lv_sub hl [0, 3, 4, 5, 6, 7, 8, 9, 10, 11, 12, 13, 14] rfl)
    exact lp_99 ((adD k g bd + 1 - (0 : Int)).toNat + 1) 0 F (by omega) (by rw [← hDr]; omega) (by intro j hj; show _ = _ + _ * (0 : Int); omega) (Nat.lt_succ_self _) _ _ _ hP hD hS (lv_sub hl [0, 1, 2, 3, 4, 5, 6, 7, 8, 9, 10, 11, 12] rfl)
  · have c5 : k ≤ g + bd := by omega
    refine lv_iconst (v := iI 1) hx hb dX0_addNamed_8 rfl ?_
    refine lv_goto (tgt := 13) hx hb dX0_addNamed_9 (by decide) ?_
    refine lv_istore (lv' := [(7, .int (iI 1)), (0, .ref c0), (1, .int (iI n)), (2, .int (iI k)), (3, .int (iI g)), (4, .int (iI bd)), (5, .long (lI sv))]) hx hb dX0_addNamed_13 hl (by decide) rfl (fun ls hl => ?_)
    refine lv_iload hx hb dX0_addNamed_15 (lv_at hl 0 rfl) ?_
    refine w_if_eq (tgt := 24) hx hb dX0_addNamed_17 (by decide) (by decide) (fun c_ => absurd c_ (by decide)) (fun _ => ?_)
    refine lv_iconst (v := iI 0) hx hb dX0_addNamed_20 rfl ?_
    refine lv_goto (tgt := 25) hx hb dX0_addNamed_21 (by decide) ?_
    refine lv_istore (lv' := [(8, .int (iI 0)), (7, .int (iI 1)), (0, .ref c0), (1, .int (iI n)), (2, .int (iI k)), (3, .int (iI g)), (4, .int (iI bd)), (5, .long (lI sv))]) hx hb dX0_addNamed_25 hl (by decide) rfl (fun ls hl => ?_)
    refine lv_iload hx hb dX0_addNamed_27 (lv_at hl 1 rfl) ?_
    refine w_if_eq (tgt := 36) hx hb dX0_addNamed_29 (by decide) (by decide) (fun c_ => absurd c_ (by decide)) (fun _ => ?_)
    refine lv_iload_n hx hb dX0_addNamed_32 rfl (lv_at hl 4 rfl) ?_
    refine lv_goto (tgt := 42) hx hb dX0_addNamed_33 (by decide) ?_
    refine lv_istore (lv' := [(9, .int (iI k)), (8, .int (iI 0)), (7, .int (iI 1)), (0, .ref c0), (1, .int (iI n)), (2, .int (iI k)), (3, .int (iI g)), (4, .int (iI bd)), (5, .long (lI sv))]) hx hb dX0_addNamed_42 hl (by decide) rfl (fun ls hl => ?_)
    refine lv_iload hx hb dX0_addNamed_44 (lv_at hl 2 rfl) ?_
    refine w_if_eq (tgt := 53) hx hb dX0_addNamed_46 (by decide) (by decide) (fun c_ => absurd c_ (by decide)) (fun _ => ?_)
    refine lv_iload_n hx hb dX0_addNamed_49 rfl (lv_at hl 6 rfl) ?_
    refine lv_goto (tgt := 56) hx hb dX0_addNamed_50 (by decide) ?_
    refine lv_istore (lv' := [(10, .int (iI g)), (9, .int (iI k)), (8, .int (iI 0)), (7, .int (iI 1)), (0, .ref c0), (1, .int (iI n)), (2, .int (iI k)), (3, .int (iI g)), (4, .int (iI bd)), (5, .long (lI sv))]) hx hb dX0_addNamed_56 hl (by decide) rfl (fun ls hl => ?_)
    refine lv_iload hx hb dX0_addNamed_58 (lv_at hl 3 rfl) ?_
    refine w_if_eq (tgt := 68) hx hb dX0_addNamed_60 (by decide) (by decide) (fun c_ => absurd c_ (by decide)) (fun _ => ?_)
    refine lv_iload hx hb dX0_addNamed_63 (lv_at hl 8 rfl) ?_
    refine lv_goto (tgt := 74) hx hb dX0_addNamed_65 (by decide) ?_
    refine lv_istore (lv' := [(11, .int (iI bd)), (10, .int (iI g)), (9, .int (iI k)), (8, .int (iI 0)), (7, .int (iI 1)), (0, .ref c0), (1, .int (iI n)), (2, .int (iI k)), (3, .int (iI g)), (4, .int (iI bd)), (5, .long (lI sv))]) hx hb dX0_addNamed_74 hl (by decide) rfl (fun ls hl => ?_)
    have hW : ∀ t, wayF g t * wayF bd (k - t) = adW n k g bd t := fun t => by unfold adW; simp only [if_pos c5]
    have hL : wayF (g + bd) k = adL n k g bd := by unfold adL; simp only [if_pos c5]
    have hDr : k = adD k g bd := by unfold adD; rw [if_pos c5]
    have hR : ∀ t, n - 2 * (k - 0 - t) = adR n k g bd t := fun t => by unfold adR; rw [if_pos c5]
    have hL1 := adL_1 hn.1 hk hg hbd
    refine lv_iload hx hb dX0_addNamed_76 (lv_at hl 1 rfl) ?_
    refine lv_iload hx hb dX0_addNamed_78 (lv_at hl 0 rfl) ?_
    refine w_iadd hx hb dX0_addNamed_80 ?_
    refine lv_iload hx hb dX0_addNamed_81 (lv_at hl 2 rfl) ?_
    refine cRSl (As := [.int (iI (g + bd)), .int (iI k)]) (rest := []) ⟨hx, hb, hml, hown, hts⟩ (c_X2_ways l G (g + bd) k (by omega)) (va_cwS 2 hts gX0_addNamed_X2_ways rfl rfl rfl (by decide +kernel) ⟨Nat.le_of_ble_eq_true rfl, Nat.le_of_ble_eq_true rfl⟩) rfl hl.1 rfl (Nat.le_of_ble_eq_true rfl) dX0_addNamed_83 ⟨Nat.le_of_ble_eq_true rfl, Nat.le_of_ble_eq_true rfl⟩ va_P_nil hK hT hN hS ?_
    refine W.eq (g2 := F0 m 86 ls [.long (lI (adL n k g bd))]) (by first | rfl | (rw [show (.long (lI (wayF (g + bd) k)) : Value) = .long (lI (adL n k g bd)) from by first | exact congrArg (fun z => Value.long (lI z)) hL | rw [hL]])) ?_
    refine lv_lstore (lv' := [(12, .long (lI (adL n k g bd))), (11, .int (iI bd)), (10, .int (iI g)), (9, .int (iI k)), (8, .int (iI 0)), (7, .int (iI 1)), (0, .ref c0), (1, .int (iI n)), (2, .int (iI k)), (3, .int (iI g)), (4, .int (iI bd)), (5, .long (lI sv))]) hx hb dX0_addNamed_86 hl (by decide) rfl (fun ls hl => ?_)
    refine lv_lload hx hb dX0_addNamed_88 (lv_at hl 0 rfl) ?_
    refine lv_lconst (v := lI 0) hx hb dX0_addNamed_90 (by decide) ?_
    refine w_lc_ne (tgt := 96) hx hb dX0_addNamed_91 dX0_addNamed_92 (by decide) (by omega) (by decide) (fun c_91_14 => ?_) (fun c_91_14 => absurd c_91_14 (by omega))
    refine lv_iconst (v := iI 0) hx hb dX0_addNamed_96 rfl ?_
    refine lv_istore (lv' := [(14, .int (iI 0)), (12, .long (lI (adL n k g bd))), (11, .int (iI bd)), (10, .int (iI g)), (9, .int (iI k)), (8, .int (iI 0)), (7, .int (iI 1)), (0, .ref c0), (1, .int (iI n)), (2, .int (iI k)), (3, .int (iI g)), (4, .int (iI bd)), (5, .long (lI sv))]) hx hb dX0_addNamed_97 hl (by decide) rfl (fun ls hl => ?_)
    have lp_99 : ∀ (μ99 : Nat) (t : Int) (F2 : Nat → Int) (ht : 0 ≤ t) (ht2 : t ≤ adD k g bd + 1) (hF : ∀ j : Nat, j < nn → F2 j = F j + sv.tdiv (adL n k g bd) * adC n k g bd j t.toNat) (hμ99 : (adD k g bd + 1 - t).toNat < μ99) (H : Heap) (locs : List Loc) (ls : Array Slot) (hP : va_P G.1 vwCl ([(c0, .inl (G.2.1 1, nn, .inr (.inl (aL F2))))]) H) (hD : va_D A ([(c0, .inl (G.2.1 1, nn, .inr (.inl (aL F2))))])) (hS : va_S A s.heap H locs) (hl : lv_has ls 18 [(14, .int (iI t)), (12, .long (lI (adL n k g bd))), (11, .int (iI bd)), (10, .int (iI g)), (9, .int (iI k)), (8, .int (iI 0)), (7, .int (iI 1)), (0, .ref c0), (1, .int (iI n)), (2, .int (iI k)), (3, .int (iI g)), (4, .int (iI bd)), (5, .long (lI sv))]), W p l e rm_c_X0_addNamed s m args below meth c H locs 0 0 (MQ below (va_Qv (fun (u : (Nat → Int)) => ∀ j : Nat, j < nn → u j = F j + sv.tdiv (adL n k g bd) * adC n k g bd j (adD k g bd + 1).toNat) (Bw G.1 vwCl (fun (u : (Nat → Int)) => [(c0, .inl (G.2.1 1, nn, .inr (.inl (aL u))))]) A) A) args s 0 0 A) (F0 m 99 ls []) := by
      intro μ99
      induction μ99 with
      | zero => intro t F2 ht ht2 hF hμ99; exact absurd hμ99 (Nat.not_lt_zero _)
      | succ μ99 ih99 =>
        intro t F2 ht ht2 hF hμ99 H locs ls hP hD hS hl
        refine lv_iload hx hb dX0_addNamed_99 (lv_at hl 0 rfl) ?_
        refine lv_iload hx hb dX0_addNamed_101 (lv_at hl 4 rfl) ?_
        refine w_icmp_gt (tgt := 172) hx hb dX0_addNamed_103 (by decide) (by omega) (by omega) (fun c_103_15 => ?_) (fun c_103_15 => ?_)
        · exact rtWv hx hb hr hlocks dX0_addNamed_172 (F2) (by have e9 : t = adD k g bd + 1 := (by rw [← hDr] at ht2 ⊢; omega); subst e9; exact hF) hP hD hS
        · refine lv_iload hx hb dX0_addNamed_106 (lv_at hl 3 rfl) ?_
          refine lv_iload hx hb dX0_addNamed_108 (lv_at hl 0 rfl) ?_
          refine cRSl (As := [.int (iI g), .int (iI t)]) (rest := []) ⟨hx, hb, hml, hown, hts⟩ (c_X2_ways l G g t (by omega)) (va_cwS 2 hts gX0_addNamed_X2_ways rfl rfl rfl (by decide +kernel) ⟨Nat.le_of_ble_eq_true rfl, Nat.le_of_ble_eq_true rfl⟩) rfl hl.1 rfl (Nat.le_of_ble_eq_true rfl) dX0_addNamed_110 ⟨Nat.le_of_ble_eq_true rfl, Nat.le_of_ble_eq_true rfl⟩ va_P_nil hK hT hN hS ?_
          refine lv_iload hx hb dX0_addNamed_113 (lv_at hl 2 rfl) ?_
          refine lv_iload hx hb dX0_addNamed_115 (lv_at hl 4 rfl) ?_
          refine lv_iload hx hb dX0_addNamed_117 (lv_at hl 0 rfl) ?_
          refine w_isub hx hb dX0_addNamed_119 ?_
          refine cRSl (As := [.int (iI bd), .int (iI (k - t))]) (rest := [.long (lI (wayF g t))]) ⟨hx, hb, hml, hown, hts⟩ (c_X2_ways l G bd (k - t) (by omega)) (va_cwS 2 hts gX0_addNamed_X2_ways rfl rfl rfl (by decide +kernel) ⟨Nat.le_of_ble_eq_true rfl, Nat.le_of_ble_eq_true rfl⟩) rfl hl.1 rfl (Nat.le_of_ble_eq_true rfl) dX0_addNamed_120 ⟨Nat.le_of_ble_eq_true rfl, Nat.le_of_ble_eq_true rfl⟩ va_P_nil hK hT hN hS ?_
          refine w_lmul hx hb dX0_addNamed_123 ?_
          refine lv_lstore (lv' := [(15, .long (lI ((wayF g t) * (wayF bd (k - t))))), (14, .int (iI t)), (12, .long (lI (adL n k g bd))), (11, .int (iI bd)), (10, .int (iI g)), (9, .int (iI k)), (8, .int (iI 0)), (7, .int (iI 1)), (0, .ref c0), (1, .int (iI n)), (2, .int (iI k)), (3, .int (iI g)), (4, .int (iI bd)), (5, .long (lI sv))]) hx hb dX0_addNamed_124 hl (by decide) rfl (fun ls hl => ?_)
          refine lv_iload_n hx hb dX0_addNamed_126 rfl (lv_at hl 9 rfl) ?_
          refine lv_iconst (v := iI 2) hx hb dX0_addNamed_127 rfl ?_
          refine lv_iload_n hx hb dX0_addNamed_128 rfl (lv_at hl 10 rfl) ?_
          refine lv_iload hx hb dX0_addNamed_129 (lv_at hl 6 rfl) ?_
          refine w_isub hx hb dX0_addNamed_131 ?_
          refine lv_iload hx hb dX0_addNamed_132 (lv_at hl 1 rfl) ?_
          refine w_isub hx hb dX0_addNamed_134 ?_
          refine w_imul hx hb dX0_addNamed_135 ?_
          refine w_isub hx hb dX0_addNamed_136 ?_
          refine lv_istore (lv' := [(17, .int (iI (n - (2 * ((k - 0) - t))))), (15, .long (lI ((wayF g t) * (wayF bd (k - t))))), (14, .int (iI t)), (12, .long (lI (adL n k g bd))), (11, .int (iI bd)), (10, .int (iI g)), (9, .int (iI k)), (8, .int (iI 0)), (7, .int (iI 1)), (0, .ref c0), (1, .int (iI n)), (2, .int (iI k)), (3, .int (iI g)), (4, .int (iI bd)), (5, .long (lI sv))]) hx hb dX0_addNamed_137 hl (by decide) rfl (fun ls hl => ?_)
          refine lv_iload hx hb dX0_addNamed_139 (lv_at hl 0 rfl) ?_
          refine w_if_lt (tgt := 166) hx hb dX0_addNamed_141 (by decide) (by omega) (fun c_141_16 => ?_) (fun c_141_16 => ?_)
          · refine w_iinc (k := 2) (lv' := [(14, .int (iI (t + 1))), (17, .int (iI (n - (2 * ((k - 0) - t))))), (15, .long (lI ((wayF g t) * (wayF bd (k - t))))), (12, .long (lI (adL n k g bd))), (11, .int (iI bd)), (10, .int (iI g)), (9, .int (iI k)), (8, .int (iI 0)), (7, .int (iI 1)), (0, .ref c0), (1, .int (iI n)), (2, .int (iI k)), (3, .int (iI g)), (4, .int (iI bd)), (5, .long (lI sv))]) hx hb dX0_addNamed_166 hl rfl (by decide) rfl (fun ls hl => ?_)
            refine lv_goto (tgt := 99) hx hb dX0_addNamed_169 (by decide) ?_
            exact ih99 (t + 1) F2 (by omega) (by rw [← hDr]; rw [← hDr] at ht2; omega) (by exact ad_out ht (hR t) (by omega) hF) (by rw [← hDr]; rw [← hDr] at hμ99; omega) _ _ _ hP hD hS (lv_sub hl [0, 3, 4, 5, 6, 7, 8, 9, 10, 11, 12, 13, 14] rfl)
          · refine lv_iload hx hb dX0_addNamed_144 (lv_at hl 0 rfl) ?_
            refine lv_aload_n hx hb dX0_addNamed_146 rfl (lv_at hl 9 rfl) ?_
            refine va_alen (v := iI ((nn : Nat) : Int)) hx hb hK hP 0 1 rfl rfl (iI_N _) dX0_addNamed_147 ?_
            refine w_icmp_ge (tgt := 166) hx hb dX0_addNamed_148 (by decide) (by omega) (by omega) (fun c_148_17 => ?_) (fun c_148_17 => ?_)
            · refine w_iinc (k := 2) (lv' := [(14, .int (iI (t + 1))), (17, .int (iI (n - (2 * ((k - 0) - t))))), (15, .long (lI ((wayF g t) * (wayF bd (k - t))))), (12, .long (lI (adL n k g bd))), (11, .int (iI bd)), (10, .int (iI g)), (9, .int (iI k)), (8, .int (iI 0)), (7, .int (iI 1)), (0, .ref c0), (1, .int (iI n)), (2, .int (iI k)), (3, .int (iI g)), (4, .int (iI bd)), (5, .long (lI sv))]) hx hb dX0_addNamed_166 hl rfl (by decide) rfl (fun ls hl => ?_)
              refine lv_goto (tgt := 99) hx hb dX0_addNamed_169 (by decide) ?_
              exact ih99 (t + 1) F2 (by omega) (by rw [← hDr]; rw [← hDr] at ht2; omega) (by exact ad_out ht (hR t) (by omega) hF) (by rw [← hDr]; rw [← hDr] at hμ99; omega) _ _ _ hP hD hS (lv_sub hl [0, 3, 4, 5, 6, 7, 8, 9, 10, 11, 12, 13, 14] rfl)
            · refine lv_aload_n hx hb dX0_addNamed_151 rfl (lv_at hl 9 rfl) ?_
              refine lv_iload hx hb dX0_addNamed_152 (lv_at hl 0 rfl) ?_
              refine lv_dup2_11 hx hb dX0_addNamed_154 rfl rfl ?_
              refine w_lald hx hb hK hP 0 1 rfl rfl (((n - (2 * ((k - 0) - t)))).toNat) (by omega) (by omega) (by omega) dX0_addNamed_155 ?_
              refine lv_lload hx hb dX0_addNamed_156 (lv_at hl 14 rfl) ?_
              refine lv_lload hx hb dX0_addNamed_158 (lv_at hl 3 rfl) ?_
              refine w_ldiv hx hb dX0_addNamed_160 (by omega) (by omega) (by omega) (by omega) ?_
              refine lv_lload hx hb dX0_addNamed_161 (lv_at hl 1 rfl) ?_
              refine w_lmul hx hb dX0_addNamed_163 ?_
              refine w_ladd hx hb dX0_addNamed_164 ?_
              refine w_last hx hb hK hP hD hS 0 1 rfl rfl (((n - (2 * ((k - 0) - t)))).toNat) (by omega) (by omega) (by omega) dX0_addNamed_165 (fun H locs hP hD hS => ?_)
              have hP : va_P G.1 vwCl ([(c0, .inl (G.2.1 1, nn, .inr (.inl (aL (va_up F2 (((n - (2 * ((k - 0) - t)))).toNat) ((F2 (((n - (2 * ((k - 0) - t)))).toNat)) + ((sv.tdiv (adL n k g bd)) * ((wayF g t) * (wayF bd (k - t))))))))))]) H := hP
              have hD : va_D A ([(c0, .inl (G.2.1 1, nn, .inr (.inl (aL (va_up F2 (((n - (2 * ((k - 0) - t)))).toNat) ((F2 (((n - (2 * ((k - 0) - t)))).toNat)) + ((sv.tdiv (adL n k g bd)) * ((wayF g t) * (wayF bd (k - t))))))))))]) := hD
              refine w_iinc (k := 2) (lv' := [(14, .int (iI (t + 1))), (17, .int (iI (n - (2 * ((k - 0) - t))))), (15, .long (lI ((wayF g t) * (wayF bd (k - t))))), (12, .long (lI (adL n k g bd))), (11, .int (iI bd)), (10, .int (iI g)), (9, .int (iI k)), (8, .int (iI 0)), (7, .int (iI 1)), (0, .ref c0), (1, .int (iI n)), (2, .int (iI k)), (3, .int (iI g)), (4, .int (iI bd)), (5, .long (lI sv))]) hx hb dX0_addNamed_166 hl rfl (by decide) rfl (fun ls hl => ?_)
              refine lv_goto (tgt := 99) hx hb dX0_addNamed_169 (by decide) ?_
              exact ih99 (t + 1) (va_up F2 (((n - (2 * ((k - 0) - t)))).toNat) ((F2 (((n - (2 * ((k - 0) - t)))).toNat)) + ((sv.tdiv (adL n k g bd)) * ((wayF g t) * (wayF bd (k - t)))))) (by omega) (by rw [← hDr]; rw [← hDr] at ht2; omega) (by exact ad_in ht (hR t) (by omega) (hW t) hF) (by rw [← hDr]; rw [← hDr] at hμ99; omega) _ _ _ hP hD hS (lv_sub hl [0, 3, 4, 5, 6, 7, 8, 9, 10, 11, 12, 13, 14] rfl)
    exact lp_99 ((adD k g bd + 1 - (0 : Int)).toNat + 1) 0 F (by omega) (by rw [← hDr]; omega) (by intro j hj; show _ = _ + _ * (0 : Int); omega) (Nat.lt_succ_self _) _ _ _ hP hD hS (lv_sub hl [0, 1, 2, 3, 4, 5, 6, 7, 8, 9, 10, 11, 12] rfl)
abbrev rm_c_X0_fillFixed : Room := { frames := 2, cells := 0, slots := 0, locals := 59 }
set_option maxHeartbeats 4000000 in
set_option maxRecDepth 100000 in
theorem c_X0_fillFixed (l : Launch) (G : Gx) (c0 : Nat) (nn : Nat) (F : Nat → Int) (n : Int) (k : Int) (a : Int) (sz : Nat) (hn : n ≤ 12 ∧ nn ≤ 13) (hk : 1 ≤ k ∧ k < n) (ha : 0 ≤ a ∧ a ≤ 10) : Met l yX0_fillFixed wsX0_fillFixed rm_c_X0_fillFixed (va_Pc [.ref c0, .int (iI n), .int (iI k), .int (iI a)] (wr G ([(c0, .inl (G.2.1 1, nn, .inr (.inl (aL F))))]) sz)) (va_Ql (fun (rv : Int64) (u : (Nat → Int)) => rv = (lI (10 ^ n.toNat * evenT n.toNat)) ∧ (∀ j : Nat, j < nn → u j = F j + fxC n k a j (k + 1).toNat)) (Bw G.1 vwCl (fun (u : (Nat → Int)) => [(c0, .inl (G.2.1 1, nn, .inr (.inl (aL u))))]) (va_A ([(c0, .inl (G.2.1 1, nn, .inr (.inl (aL F))))]) sz)) (va_A ([(c0, .inl (G.2.1 1, nn, .inr (.inl (aL F))))]) sz)) 0 0 (va_A ([(c0, .inl (G.2.1 1, nn, .inr (.inl (aL F))))]) sz) := by
  refine enW (Qc := fun A => (va_Ql (fun (rv : Int64) (u : (Nat → Int)) => rv = (lI (10 ^ n.toNat * evenT n.toNat)) ∧ (∀ j : Nat, j < nn → u j = F j + fxC n k a j (k + 1).toNat)) (Bw G.1 vwCl (fun (u : (Nat → Int)) => [(c0, .inl (G.2.1 1, nn, .inr (.inl (aL u))))]) A) A)) (mc := 0) (ms := 0) (cc := cX0_fillFixed) (maxL := 12) (ret := (some .long)) (C := RX0) [(0, .ref c0), (1, .int (iI n)), (2, .int (iI k)), (3, .int (iI a))] (by decide) rfl rfl (Nat.le_of_ble_eq_true rfl) rfl ?_
  intro p e s m args below meth c ls A hx hb hr hml hown hts hlocks hin hP hK hD hT hN hA hS hl
  show W p l e rm_c_X0_fillFixed s m args below meth c s.heap [] 0 0 _ (F0 m 0 ls [])
  refine lv_bipush (v := iI 10) hx hb dX0_fillFixed_0 (by decide) ?_
  refine lv_iload_n hx hb dX0_fillFixed_2 rfl (lv_at hl 3 rfl) ?_
  refine w_isub hx hb dX0_fillFixed_3 ?_
  refine lv_istore (lv' := [(4, .int (iI (10 - a))), (0, .ref c0), (1, .int (iI n)), (2, .int (iI k)), (3, .int (iI a))]) hx hb dX0_fillFixed_4 hl (by decide) rfl (fun ls hl => ?_)
  refine lv_iload_n hx hb dX0_fillFixed_6 rfl (lv_at hl 2 rfl) ?_
  refine cRSl (As := [.int (iI n)]) (rest := []) ⟨hx, hb, hml, hown, hts⟩ (c_X2_evenLots l G n (by omega)) (va_cwS 1 hts gX0_fillFixed_X2_evenLots rfl rfl rfl (by decide +kernel) ⟨Nat.le_of_ble_eq_true rfl, Nat.le_of_ble_eq_true rfl⟩) rfl hl.1 rfl (Nat.le_of_ble_eq_true rfl) dX0_fillFixed_7 ⟨Nat.le_of_ble_eq_true rfl, Nat.le_of_ble_eq_true rfl⟩ va_P_nil hK hT hN hS ?_
  refine lv_lstore (lv' := [(5, .long (lI (evenT n.toNat))), (4, .int (iI (10 - a))), (0, .ref c0), (1, .int (iI n)), (2, .int (iI k)), (3, .int (iI a))]) hx hb dX0_fillFixed_10 hl (by decide) rfl (fun ls hl => ?_)
  refine lv_iconst (v := iI 0) hx hb dX0_fillFixed_12 rfl ?_
  refine lv_istore (lv' := [(7, .int (iI 0)), (5, .long (lI (evenT n.toNat))), (4, .int (iI (10 - a))), (0, .ref c0), (1, .int (iI n)), (2, .int (iI k)), (3, .int (iI a))]) hx hb dX0_fillFixed_13 hl (by decide) rfl (fun ls hl => ?_)
  have lp_15 : ∀ (μ15 : Nat) (g : Int) (F2 : Nat → Int) (hg : 0 ≤ g ∧ g ≤ k + 1) (hF : ∀ j : Nat, j < nn → F2 j = F j + fxC n k a j g.toNat) (hμ15 : (k + 1 - g).toNat < μ15) (H : Heap) (locs : List Loc) (ls : Array Slot) (hP : va_P G.1 vwCl ([(c0, .inl (G.2.1 1, nn, .inr (.inl (aL F2))))]) H) (hD : va_D A ([(c0, .inl (G.2.1 1, nn, .inr (.inl (aL F2))))])) (hS : va_S A s.heap H locs) (hl : lv_has ls 12 [(7, .int (iI g)), (5, .long (lI (evenT n.toNat))), (4, .int (iI (10 - a))), (0, .ref c0), (1, .int (iI n)), (2, .int (iI k)), (3, .int (iI a))]), W p l e rm_c_X0_fillFixed s m args below meth c H locs 0 0 (MQ below (va_Ql (fun (rv : Int64) (u : (Nat → Int)) => rv = (lI (10 ^ n.toNat * evenT n.toNat)) ∧ (∀ j : Nat, j < nn → u j = F j + fxC n k a j (k + 1).toNat)) (Bw G.1 vwCl (fun (u : (Nat → Int)) => [(c0, .inl (G.2.1 1, nn, .inr (.inl (aL u))))]) A) A) args s 0 0 A) (F0 m 15 ls []) := by
    intro μ15
    induction μ15 with
    | zero => intro g F2 hg hF hμ15; exact absurd hμ15 (Nat.not_lt_zero _)
    | succ μ15 ih15 =>
      intro g F2 hg hF hμ15 H locs ls hP hD hS hl
      refine lv_iload hx hb dX0_fillFixed_15 (lv_at hl 0 rfl) ?_
      refine lv_iload_n hx hb dX0_fillFixed_17 rfl (lv_at hl 5 rfl) ?_
      refine w_icmp_gt (tgt := 113) hx hb dX0_fillFixed_18 (by decide) (by omega) (by omega) (fun c_18_1 => ?_) (fun c_18_1 => ?_)
      · refine lv_ldc2 (v := lI 10) hx hb hown (show (Jvm.Cond.constantLong RX0 62 (lI 10)).before args s = true from (by rw [show (lI 10) = (10 : Int64) from by decide]; exact (hts (.constantLong RX0 62 (10)) (by decide +kernel)))) dX0_fillFixed_113 ?_
        refine lv_iload_n hx hb dX0_fillFixed_116 rfl (lv_at hl 4 rfl) ?_
        refine cRSl (As := [.long (lI 10), .int (iI n)]) (rest := []) ⟨hx, hb, hml, hown, hts⟩ (c_X2_power l G 10 n (by omega)) (va_cwS 2 hts gX0_fillFixed_X2_power rfl rfl rfl (by decide +kernel) ⟨Nat.le_of_ble_eq_true rfl, Nat.le_of_ble_eq_true rfl⟩) rfl hl.1 rfl (Nat.le_of_ble_eq_true rfl) dX0_fillFixed_117 ⟨Nat.le_of_ble_eq_true rfl, Nat.le_of_ble_eq_true rfl⟩ va_P_nil hK hT hN hS ?_
        refine lv_lload hx hb dX0_fillFixed_120 (lv_at hl 1 rfl) ?_
        refine w_lmul hx hb dX0_fillFixed_122 ?_
        exact rtWl hx hb hr hlocks dX0_fillFixed_123 (F2) ⟨rfl, fun j hj => by rw [hF j hj, show g = k + 1 from by omega]⟩ hP hD hS
      · refine lv_iconst (v := iI 0) hx hb dX0_fillFixed_21 rfl ?_
        refine lv_istore (lv' := [(8, .int (iI 0)), (7, .int (iI g)), (5, .long (lI (evenT n.toNat))), (4, .int (iI (10 - a))), (0, .ref c0), (1, .int (iI n)), (2, .int (iI k)), (3, .int (iI a))]) hx hb dX0_fillFixed_22 hl (by decide) rfl (fun ls hl => ?_)
        have lp_24 : ∀ (μ24 : Nat) (bd : Int) (F3 : Nat → Int) (hbd : 0 ≤ bd ∧ bd ≤ n - k + 1) (hF3 : ∀ j : Nat, j < nn → F3 j = F2 j + fxR n k a g j bd.toNat) (hμ24 : (n - k + 1 - bd).toNat < μ24) (H : Heap) (locs : List Loc) (ls : Array Slot) (hP : va_P G.1 vwCl ([(c0, .inl (G.2.1 1, nn, .inr (.inl (aL F3))))]) H) (hD : va_D A ([(c0, .inl (G.2.1 1, nn, .inr (.inl (aL F3))))])) (hS : va_S A s.heap H locs) (hl : lv_has ls 12 [(8, .int (iI bd)), (7, .int (iI g)), (5, .long (lI (evenT n.toNat))), (4, .int (iI (10 - a))), (0, .ref c0), (1, .int (iI n)), (2, .int (iI k)), (3, .int (iI a))]), W p l e rm_c_X0_fillFixed s m args below meth c H locs 0 0 (MQ below (va_Ql (fun (rv : Int64) (u : (Nat → Int)) => rv = (lI (10 ^ n.toNat * evenT n.toNat)) ∧ (∀ j : Nat, j < nn → u j = F j + fxC n k a j (k + 1).toNat)) (Bw G.1 vwCl (fun (u : (Nat → Int)) => [(c0, .inl (G.2.1 1, nn, .inr (.inl (aL u))))]) A) A) args s 0 0 A) (F0 m 24 ls []) := by
          intro μ24
          induction μ24 with
          | zero => intro bd F3 hbd hF3 hμ24; exact absurd hμ24 (Nat.not_lt_zero _)
          | succ μ24 ih24 =>
            intro bd F3 hbd hF3 hμ24 H locs ls hP hD hS hl
            refine lv_iload hx hb dX0_fillFixed_24 (lv_at hl 0 rfl) ?_
            refine lv_iload_n hx hb dX0_fillFixed_26 rfl (lv_at hl 5 rfl) ?_
            refine lv_iload_n hx hb dX0_fillFixed_27 rfl (lv_at hl 6 rfl) ?_
            refine w_isub hx hb dX0_fillFixed_28 ?_
            refine w_icmp_gt (tgt := 107) hx hb dX0_fillFixed_29 (by decide) (by omega) (by omega) (fun c_29_2 => ?_) (fun c_29_2 => ?_)
            · refine w_iinc (k := 1) (lv' := [(7, .int (iI (g + 1))), (8, .int (iI bd)), (5, .long (lI (evenT n.toNat))), (4, .int (iI (10 - a))), (0, .ref c0), (1, .int (iI n)), (2, .int (iI k)), (3, .int (iI a))]) hx hb dX0_fillFixed_107 hl rfl (by decide) rfl (fun ls hl => ?_)
              refine lv_goto (tgt := 15) hx hb dX0_fillFixed_110 (by decide) ?_
              exact ih15 (g + 1) F3 (by omega) (by exact fx_2 hg.1 hF (by rw [show n - k + 1 = bd from by omega]; exact hF3)) (by omega) _ _ _ hP hD hS (lv_sub hl [0, 2, 3, 4, 5, 6, 7] rfl)
            · refine lv_iload hx hb dX0_fillFixed_32 (lv_at hl 1 rfl) ?_
              refine lv_iload_n hx hb dX0_fillFixed_34 rfl (lv_at hl 5 rfl) ?_
              refine w_iadd hx hb dX0_fillFixed_35 ?_
              refine lv_iload_n hx hb dX0_fillFixed_36 rfl (lv_at hl 6 rfl) ?_
              refine w_isub hx hb dX0_fillFixed_37 ?_
              refine lv_iload hx hb dX0_fillFixed_38 (lv_at hl 0 rfl) ?_
              refine w_isub hx hb dX0_fillFixed_40 ?_
              refine lv_istore (lv' := [(9, .int (iI (((g + n) - k) - bd))), (8, .int (iI bd)), (7, .int (iI g)), (5, .long (lI (evenT n.toNat))), (4, .int (iI (10 - a))), (0, .ref c0), (1, .int (iI n)), (2, .int (iI k)), (3, .int (iI a))]) hx hb dX0_fillFixed_41 hl (by decide) rfl (fun ls hl => ?_)
              refine lv_iload_n hx hb dX0_fillFixed_43 rfl (lv_at hl 7 rfl) ?_
              refine lv_iload hx hb dX0_fillFixed_44 (lv_at hl 2 rfl) ?_
              refine cRSl (As := [.int (iI k), .int (iI g)]) (rest := []) ⟨hx, hb, hml, hown, hts⟩ (c_X2_ways l G k g (by omega)) (va_cwS 2 hts gX0_fillFixed_X2_ways rfl rfl rfl (by decide +kernel) ⟨Nat.le_of_ble_eq_true rfl, Nat.le_of_ble_eq_true rfl⟩) rfl hl.1 rfl (Nat.le_of_ble_eq_true rfl) dX0_fillFixed_46 ⟨Nat.le_of_ble_eq_true rfl, Nat.le_of_ble_eq_true rfl⟩ va_P_nil hK hT hN hS ?_
              refine lv_iload_n hx hb dX0_fillFixed_49 rfl (lv_at hl 6 rfl) ?_
              refine lv_iload_n hx hb dX0_fillFixed_50 rfl (lv_at hl 7 rfl) ?_
              refine w_isub hx hb dX0_fillFixed_51 ?_
              refine lv_iload hx hb dX0_fillFixed_52 (lv_at hl 1 rfl) ?_
              refine cRSl (As := [.int (iI (n - k)), .int (iI bd)]) (rest := [.long (lI (wayF k g))]) ⟨hx, hb, hml, hown, hts⟩ (c_X2_ways l G (n - k) bd (by omega)) (va_cwS 2 hts gX0_fillFixed_X2_ways rfl rfl rfl (by decide +kernel) ⟨Nat.le_of_ble_eq_true rfl, Nat.le_of_ble_eq_true rfl⟩) rfl hl.1 rfl (Nat.le_of_ble_eq_true rfl) dX0_fillFixed_54 ⟨Nat.le_of_ble_eq_true rfl, Nat.le_of_ble_eq_true rfl⟩ va_P_nil hK hT hN hS ?_
              refine w_lmul hx hb dX0_fillFixed_57 ?_
              refine lv_iload_n hx hb dX0_fillFixed_58 rfl (lv_at hl 8 rfl) ?_
              refine w_i2l hx hb dX0_fillFixed_59 (by omega) ?_
              refine lv_iload hx hb dX0_fillFixed_60 (lv_at hl 0 rfl) ?_
              refine cRSl (As := [.long (lI a), .int (iI (((g + n) - k) - bd))]) (rest := [.long (lI ((wayF k g) * (wayF (n - k) bd)))]) ⟨hx, hb, hml, hown, hts⟩ (c_X2_power l G a (((g + n) - k) - bd) (by omega)) (va_cwS 2 hts gX0_fillFixed_X2_power rfl rfl rfl (by decide +kernel) ⟨Nat.le_of_ble_eq_true rfl, Nat.le_of_ble_eq_true rfl⟩) rfl hl.1 rfl (Nat.le_of_ble_eq_true rfl) dX0_fillFixed_62 ⟨Nat.le_of_ble_eq_true rfl, Nat.le_of_ble_eq_true rfl⟩ va_P_nil hK hT hN hS ?_
              refine w_lmul hx hb dX0_fillFixed_65 ?_
              refine lv_iload hx hb dX0_fillFixed_66 (lv_at hl 4 rfl) ?_
              refine w_i2l hx hb dX0_fillFixed_68 (by omega) ?_
              refine lv_iload_n hx hb dX0_fillFixed_69 rfl (lv_at hl 6 rfl) ?_
              refine lv_iload hx hb dX0_fillFixed_70 (lv_at hl 0 rfl) ?_
              refine w_isub hx hb dX0_fillFixed_72 ?_
              refine cRSl (As := [.long (lI (10 - a)), .int (iI (n - (((g + n) - k) - bd)))]) (rest := [.long (lI (((wayF k g) * (wayF (n - k) bd)) * (a ^ (((g + n) - k) - bd).toNat)))]) ⟨hx, hb, hml, hown, hts⟩ (c_X2_power l G (10 - a) (n - (((g + n) - k) - bd)) (by omega)) (va_cwS 2 hts gX0_fillFixed_X2_power rfl rfl rfl (by decide +kernel) ⟨Nat.le_of_ble_eq_true rfl, Nat.le_of_ble_eq_true rfl⟩) rfl hl.1 rfl (Nat.le_of_ble_eq_true rfl) dX0_fillFixed_73 ⟨Nat.le_of_ble_eq_true rfl, Nat.le_of_ble_eq_true rfl⟩ va_P_nil hK hT hN hS ?_
              refine w_lmul hx hb dX0_fillFixed_76 ?_
              refine W.eq (g2 := F0 m 77 ls [.long (lI (seZ n k a g bd))]) (by first | rfl | (rw [show (.long (lI ((((wayF k g) * (wayF (n - k) bd)) * (a ^ (((g + n) - k) - bd).toNat)) * ((10 - a) ^ (n - (((g + n) - k) - bd)).toNat))) : Value) = .long (lI (seZ n k a g bd)) from by rfl])) ?_
              refine lv_lstore (lv' := [(10, .long (lI (seZ n k a g bd))), (9, .int (iI (((g + n) - k) - bd))), (8, .int (iI bd)), (7, .int (iI g)), (5, .long (lI (evenT n.toNat))), (4, .int (iI (10 - a))), (0, .ref c0), (1, .int (iI n)), (2, .int (iI k)), (3, .int (iI a))]) hx hb dX0_fillFixed_77 hl (by decide) rfl (fun ls hl => ?_)
              have hse := se_b hn.1 hk ha (by omega : 0 ≤ g ∧ g ≤ k) (by omega : 0 ≤ bd ∧ bd ≤ n - k)
              have hev := evenT_b n.toNat (by omega)
              have hse2 := Int.le_trans (Int.le_of_eq (Int.mul_one _).symm) (Int.mul_le_mul_of_nonneg_left hev.1 hse.1)
              have hse3 := Int.mul_nonneg hse.1 (by omega : 0 ≤ evenT n.toNat)
              refine lv_lload hx hb dX0_fillFixed_79 (lv_at hl 0 rfl) ?_
              refine lv_lconst (v := lI 0) hx hb dX0_fillFixed_81 (by decide) ?_
              refine w_lc_eq (tgt := 101) hx hb dX0_fillFixed_82 dX0_fillFixed_83 (by decide) (by omega) (by decide) (fun c_82_3 => ?_) (fun c_82_3 => ?_)
              · refine w_iinc (k := 2) (lv' := [(8, .int (iI (bd + 1))), (10, .long (lI (seZ n k a g bd))), (9, .int (iI (((g + n) - k) - bd))), (7, .int (iI g)), (5, .long (lI (evenT n.toNat))), (4, .int (iI (10 - a))), (0, .ref c0), (1, .int (iI n)), (2, .int (iI k)), (3, .int (iI a))]) hx hb dX0_fillFixed_101 hl rfl (by decide) rfl (fun ls hl => ?_)
                refine lv_goto (tgt := 24) hx hb dX0_fillFixed_104 (by decide) ?_
                exact ih24 (bd + 1) F3 (by omega) (by exact fx_0 hbd.1 (by assumption) hF3) (by omega) _ _ _ hP hD hS (lv_sub hl [0, 3, 4, 5, 6, 7, 8, 9] rfl)
              · refine lv_aload_n hx hb dX0_fillFixed_86 rfl (lv_at hl 6 rfl) ?_
                refine lv_iload_n hx hb dX0_fillFixed_87 rfl (lv_at hl 7 rfl) ?_
                refine lv_iload_n hx hb dX0_fillFixed_88 rfl (lv_at hl 8 rfl) ?_
                refine lv_iload hx hb dX0_fillFixed_89 (lv_at hl 3 rfl) ?_
                refine lv_iload hx hb dX0_fillFixed_91 (lv_at hl 2 rfl) ?_
                refine lv_lload hx hb dX0_fillFixed_93 (lv_at hl 0 rfl) ?_
                refine lv_lload hx hb dX0_fillFixed_95 (lv_at hl 4 rfl) ?_
                refine w_lmul hx hb dX0_fillFixed_97 ?_
                refine cWSv0 (As := [.ref c0, .int (iI n), .int (iI k), .int (iI g), .int (iI bd), .long (lI ((seZ n k a g bd) * (evenT n.toNat)))]) (rest := []) (wr0 := []) ⟨hx, hb, hml, hown, hts⟩ (c_X0_addNamed l G c0 nn F3 n k g bd ((seZ n k a g bd) * (evenT n.toNat)) H.size (by omega) (by omega) (by omega) (by omega) (by exact ⟨hse3, hse.2⟩)) (va_cwS 6 hts gX0_fillFixed_X0_addNamed rfl rfl rfl (by decide +kernel) ⟨Nat.le_of_ble_eq_true rfl, Nat.le_of_ble_eq_true rfl⟩) rfl hl.1 rfl (Nat.le_of_ble_eq_true rfl) dX0_fillFixed_98 ⟨Nat.le_of_ble_eq_true rfl, Nat.le_of_ble_eq_true rfl⟩ hP hD hK hT hN hS hA [0] [] rfl rfl (by decide) (by decide) (by decide) (fun u_4 hu_4 H locs hz_4 hP hD hS => ?_)
                generalize u_4 = F2_4 at *
                try dsimp only at hu_4
                have hP : va_P G.1 vwCl ([(c0, .inl (G.2.1 1, nn, .inr (.inl (aL F2_4))))]) H := hP
                have hD : va_D A ([(c0, .inl (G.2.1 1, nn, .inr (.inl (aL F2_4))))]) := hD
                have hu9 := hu_4
                refine w_iinc (k := 2) (lv' := [(8, .int (iI (bd + 1))), (10, .long (lI (seZ n k a g bd))), (9, .int (iI (((g + n) - k) - bd))), (7, .int (iI g)), (5, .long (lI (evenT n.toNat))), (4, .int (iI (10 - a))), (0, .ref c0), (1, .int (iI n)), (2, .int (iI k)), (3, .int (iI a))]) hx hb dX0_fillFixed_101 hl rfl (by decide) rfl (fun ls hl => ?_)
                refine lv_goto (tgt := 24) hx hb dX0_fillFixed_104 (by decide) ?_
                exact ih24 (bd + 1) F2_4 (by omega) (by exact fx_1 hbd.1 hF3 hu9) (by omega) _ _ _ hP hD hS (lv_sub hl [0, 3, 4, 5, 6, 7, 8, 9] rfl)
        exact lp_24 ((n - k + 1 - (0 : Int)).toNat + 1) 0 F2 (by omega) (by intro j hj; show _ = _ + (0 : Int); omega) (Nat.lt_succ_self _) _ _ _ hP hD hS (lv_sub hl [0, 1, 2, 3, 4, 5, 6, 7] rfl)
  exact lp_15 ((k + 1 - (0 : Int)).toNat + 1) 0 F (by omega) (by intro j hj; show _ = _ + (0 : Int); omega) (Nat.lt_succ_self _) _ _ _ hP hD hS (lv_sub hl [0, 1, 2, 3, 4, 5, 6] rfl)
abbrev rm_c_X0_joinBlock : Room := { frames := 1, cells := 0, slots := 0, locals := 48 }
set_option maxHeartbeats 4000000 in
set_option maxRecDepth 100000 in
theorem c_X0_joinBlock (l : Launch) (G : Gx) (h0 : Nat) (c0 : Nat) (b0 : Nat) (j0 : Nat) (F : Nat → Int) (Bk : Nat → Int) (Jd : Nat → Int) (al : Int) (mo : Int) (sz : Nat) : Met l yX0_joinBlock wsX0_joinBlock rm_c_X0_joinBlock (va_Pc [.ref h0] (wr G ([(h0, .inr (1, [.ref c0, .ref b0, .ref j0, .long (lI al), .int (iI mo)])), (c0, .inl (G.2.1 1, 13, .inr (.inl (aL F)))), (b0, .inl (G.2.1 1, 5, .inr (.inl (aL Bk)))), (j0, .inl (G.2.1 1, 13, .inr (.inl (aL Jd))))]) sz)) (va_Qv (fun (u : (Nat → Int) × (Nat → Int)) => ∀ r : Nat, r < 13 → u.1 r = cvC F Bk r 13) (Bw G.1 vwCl (fun (u : (Nat → Int) × (Nat → Int)) => [(h0, .inr (1, [.ref c0, .ref b0, .ref j0, .long (lI al), .int (iI mo)])), (c0, .inl (G.2.1 1, 13, .inr (.inl (aL u.1)))), (b0, .inl (G.2.1 1, 5, .inr (.inl (aL Bk)))), (j0, .inl (G.2.1 1, 13, .inr (.inl (aL u.2))))]) (va_A ([(h0, .inr (1, [.ref c0, .ref b0, .ref j0, .long (lI al), .int (iI mo)])), (c0, .inl (G.2.1 1, 13, .inr (.inl (aL F)))), (b0, .inl (G.2.1 1, 5, .inr (.inl (aL Bk)))), (j0, .inl (G.2.1 1, 13, .inr (.inl (aL Jd))))]) sz)) (va_A ([(h0, .inr (1, [.ref c0, .ref b0, .ref j0, .long (lI al), .int (iI mo)])), (c0, .inl (G.2.1 1, 13, .inr (.inl (aL F)))), (b0, .inl (G.2.1 1, 5, .inr (.inl (aL Bk)))), (j0, .inl (G.2.1 1, 13, .inr (.inl (aL Jd))))]) sz)) 0 0 (va_A ([(h0, .inr (1, [.ref c0, .ref b0, .ref j0, .long (lI al), .int (iI mo)])), (c0, .inl (G.2.1 1, 13, .inr (.inl (aL F)))), (b0, .inl (G.2.1 1, 5, .inr (.inl (aL Bk)))), (j0, .inl (G.2.1 1, 13, .inr (.inl (aL Jd))))]) sz) := by
  refine enW (Qc := fun A => (va_Qv (fun (u : (Nat → Int) × (Nat → Int)) => ∀ r : Nat, r < 13 → u.1 r = cvC F Bk r 13) (Bw G.1 vwCl (fun (u : (Nat → Int) × (Nat → Int)) => [(h0, .inr (1, [.ref c0, .ref b0, .ref j0, .long (lI al), .int (iI mo)])), (c0, .inl (G.2.1 1, 13, .inr (.inl (aL u.1)))), (b0, .inl (G.2.1 1, 5, .inr (.inl (aL Bk)))), (j0, .inl (G.2.1 1, 13, .inr (.inl (aL u.2))))]) A) A)) (mc := 0) (ms := 0) (cc := cX0_joinBlock) (maxL := 3) (ret := none) (C := RX0) [(0, .ref h0)] (by decide) rfl rfl (Nat.le_of_ble_eq_true rfl) rfl ?_
  intro p e s m args below meth c ls A hx hb hr hml hown hts hlocks hin hP hK hD hT hN hA hS hl
  show W p l e rm_c_X0_joinBlock s m args below meth c s.heap [] 0 0 _ (F0 m 0 ls [])
  refine lv_aload_n hx hb dX0_joinBlock_0 rfl (lv_at hl 0 rfl) ?_
  refine va_get (D := G.1) (ci := 1) (v := .ref j0) (C := RX0) (T := TX0) (N := 5) hx hb hts (by decide +kernel) hown hK hP 0 rfl rfl 2 (by decide) (hts (.fieldLink RX0 18 "MilkFirst$Ends" "joined" "[J") (by decide +kernel)) (fun _ h9 => h9) rfl dX0_joinBlock_1 ?_
  refine lv_lconst (v := lI 0) hx hb dX0_joinBlock_4 (by decide) ?_
  refine cWSv0 (As := [.ref j0, .long (lI 0)]) (rest := []) (wr0 := [(h0, .inr (1, [.ref c0, .ref b0, .ref j0, .long (lI al), .int (iI mo)])), (c0, .inl (G.2.1 1, 13, .inr (.inl (aL F)))), (b0, .inl (G.2.1 1, 5, .inr (.inl (aL Bk))))]) ⟨hx, hb, hml, hown, hts⟩ (c_J7_fill_d0a16 l G j0 13 Jd 0 s.heap.size (by omega)) (va_cwS 2 hts gX0_joinBlock_J7_fill_d0a16 rfl rfl rfl (by decide +kernel) ⟨Nat.le_of_ble_eq_true rfl, Nat.le_of_ble_eq_true rfl⟩) rfl hl.1 rfl (Nat.le_of_ble_eq_true rfl) dX0_joinBlock_5 ⟨Nat.le_of_ble_eq_true rfl, Nat.le_of_ble_eq_true rfl⟩ hP hD hK hT hN hS hA [3] [0, 1, 2] rfl rfl (by decide) (by decide) (by decide) (fun u_1 hu_1 H locs hz_1 hP hD hS => ?_)
  generalize u_1 = F2_1 at *
  try dsimp only at hu_1
  have hP : va_P G.1 vwCl ([(h0, .inr (1, [.ref c0, .ref b0, .ref j0, .long (lI al), .int (iI mo)])), (c0, .inl (G.2.1 1, 13, .inr (.inl (aL F)))), (b0, .inl (G.2.1 1, 5, .inr (.inl (aL Bk)))), (j0, .inl (G.2.1 1, 13, .inr (.inl (aL F2_1))))]) H := hP
  have hD : va_D A ([(h0, .inr (1, [.ref c0, .ref b0, .ref j0, .long (lI al), .int (iI mo)])), (c0, .inl (G.2.1 1, 13, .inr (.inl (aL F)))), (b0, .inl (G.2.1 1, 5, .inr (.inl (aL Bk)))), (j0, .inl (G.2.1 1, 13, .inr (.inl (aL F2_1))))]) := hD
  have hu5 := hu_1
  refine lv_iconst (v := iI 0) hx hb dX0_joinBlock_8 rfl ?_
  refine lv_istore_n (lv' := [(1, .int (iI 0)), (0, .ref h0)]) hx hb dX0_joinBlock_9 rfl hl (by decide) rfl (fun ls hl => ?_)
  have lp_10 : ∀ (μ10 : Nat) (i : Int) (J2 : Nat → Int) (hi : 0 ≤ i ∧ i ≤ 13) (hF : ∀ r : Nat, r < 13 → J2 r = cvC F Bk r i.toNat) (hμ10 : (13 - i).toNat < μ10) (H : Heap) (locs : List Loc) (ls : Array Slot) (hP : va_P G.1 vwCl ([(h0, .inr (1, [.ref c0, .ref b0, .ref j0, .long (lI al), .int (iI mo)])), (c0, .inl (G.2.1 1, 13, .inr (.inl (aL F)))), (b0, .inl (G.2.1 1, 5, .inr (.inl (aL Bk)))), (j0, .inl (G.2.1 1, 13, .inr (.inl (aL J2))))]) H) (hD : va_D A ([(h0, .inr (1, [.ref c0, .ref b0, .ref j0, .long (lI al), .int (iI mo)])), (c0, .inl (G.2.1 1, 13, .inr (.inl (aL F)))), (b0, .inl (G.2.1 1, 5, .inr (.inl (aL Bk)))), (j0, .inl (G.2.1 1, 13, .inr (.inl (aL J2))))])) (hS : va_S A s.heap H locs) (hl : lv_has ls 3 [(1, .int (iI i)), (0, .ref h0)]), W p l e rm_c_X0_joinBlock s m args below meth c H locs 0 0 (MQ below (va_Qv (fun (u : (Nat → Int) × (Nat → Int)) => ∀ r : Nat, r < 13 → u.1 r = cvC F Bk r 13) (Bw G.1 vwCl (fun (u : (Nat → Int) × (Nat → Int)) => [(h0, .inr (1, [.ref c0, .ref b0, .ref j0, .long (lI al), .int (iI mo)])), (c0, .inl (G.2.1 1, 13, .inr (.inl (aL u.1)))), (b0, .inl (G.2.1 1, 5, .inr (.inl (aL Bk)))), (j0, .inl (G.2.1 1, 13, .inr (.inl (aL u.2))))]) A) A) args s 0 0 A) (F0 m 10 ls []) := by
    intro μ10
    induction μ10 with
    | zero => intro i J2 hi hF hμ10; exact absurd hμ10 (Nat.not_lt_zero _)
    | succ μ10 ih10 =>
      intro i J2 hi hF hμ10 H locs ls hP hD hS hl
      refine lv_iload_n hx hb dX0_joinBlock_10 rfl (lv_at hl 0 rfl) ?_
      refine lv_aload_n hx hb dX0_joinBlock_11 rfl (lv_at hl 1 rfl) ?_
      refine va_get (D := G.1) (ci := 1) (v := .ref c0) (C := RX0) (T := TX0) (N := 5) hx hb hts (by decide +kernel) hown hK hP 0 rfl rfl 0 (by decide) (hts (.fieldLink RX0 9 "MilkFirst$Ends" "cases" "[J") (by decide +kernel)) (fun _ h9 => h9) rfl dX0_joinBlock_12 ?_
      refine va_alen (v := iI 13) hx hb hK hP 1 1 rfl rfl (iI_N 13) dX0_joinBlock_15 ?_
      refine w_icmp_ge (tgt := 77) hx hb dX0_joinBlock_16 (by decide) (by omega) (by decide) (fun c_16_2 => ?_) (fun c_16_2 => ?_)
      · refine lv_aload_n hx hb dX0_joinBlock_77 rfl (lv_at hl 1 rfl) ?_
        refine va_get (D := G.1) (ci := 1) (v := .ref j0) (C := RX0) (T := TX0) (N := 5) hx hb hts (by decide +kernel) hown hK hP 0 rfl rfl 2 (by decide) (hts (.fieldLink RX0 18 "MilkFirst$Ends" "joined" "[J") (by decide +kernel)) (fun _ h9 => h9) rfl dX0_joinBlock_78 ?_
        refine lv_iconst (v := iI 0) hx hb dX0_joinBlock_81 rfl ?_
        refine lv_aload_n hx hb dX0_joinBlock_82 rfl (lv_at hl 1 rfl) ?_
        refine va_get (D := G.1) (ci := 1) (v := .ref c0) (C := RX0) (T := TX0) (N := 5) hx hb hts (by decide +kernel) hown hK hP 0 rfl rfl 0 (by decide) (hts (.fieldLink RX0 9 "MilkFirst$Ends" "cases" "[J") (by decide +kernel)) (fun _ h9 => h9) rfl dX0_joinBlock_83 ?_
        refine lv_iconst (v := iI 0) hx hb dX0_joinBlock_86 rfl ?_
        refine lv_aload_n hx hb dX0_joinBlock_87 rfl (lv_at hl 1 rfl) ?_
        refine va_get (D := G.1) (ci := 1) (v := .ref j0) (C := RX0) (T := TX0) (N := 5) hx hb hts (by decide +kernel) hown hK hP 0 rfl rfl 2 (by decide) (hts (.fieldLink RX0 18 "MilkFirst$Ends" "joined" "[J") (by decide +kernel)) (fun _ h9 => h9) rfl dX0_joinBlock_88 ?_
        refine va_alen (v := iI 13) hx hb hK hP 3 1 rfl rfl (iI_N 13) dX0_joinBlock_91 ?_
        refine lv_aload_n hx hb dX0_joinBlock_92 rfl (lv_at hl 1 rfl) ?_
        refine va_get (D := G.1) (ci := 1) (v := .ref c0) (C := RX0) (T := TX0) (N := 5) hx hb hts (by decide +kernel) hown hK hP 0 rfl rfl 0 (by decide) (hts (.fieldLink RX0 9 "MilkFirst$Ends" "cases" "[J") (by decide +kernel)) (fun _ h9 => h9) rfl dX0_joinBlock_93 ?_
        refine va_alen (v := iI 13) hx hb hK hP 1 1 rfl rfl (iI_N 13) dX0_joinBlock_96 ?_
        refine w_mmin hx hb (hml.trans hl.1.symm) hown (hts (.methodLink RX0 79 Lib.Math.min.name) (by decide +kernel)) (hts (.static Lib.Math.min.name) (by decide +kernel)) (hts (.initialized "java/lang/Math") (by decide +kernel)) (hts (.code Lib.Math.min.name Lib.Math.min.code 2 (some .int)) (by decide +kernel)) (Nat.le_of_ble_eq_true rfl) (Nat.le_of_ble_eq_true rfl) (Nat.le_of_ble_eq_true rfl) (Nat.le_of_ble_eq_true rfl) (by decide) (by decide) dX0_joinBlock_97 ?_
        refine w_copyl hx hb (hml.trans hl.1.symm) hown (hts (.methodLink RX0 84 arraycopyName) (by decide +kernel)) (hts (.native arraycopyName) (by decide +kernel)) (hts (.static arraycopyName) (by decide +kernel)) (hts (.initialized "java/lang/System") (by decide +kernel)) hK hP hD hS 3 1 rfl rfl 13 (by decide) (by omega) (by omega) (by omega) (Nat.le_of_ble_eq_true rfl) (Nat.le_of_ble_eq_true rfl) dX0_joinBlock_100 (fun H locs hP hD hS => ?_)
        have hP : va_P G.1 vwCl ([(h0, .inr (1, [.ref c0, .ref b0, .ref j0, .long (lI al), .int (iI mo)])), (c0, .inl (G.2.1 1, 13, .inr (.inl (aL (va_cpy J2 F 0 0 13))))), (b0, .inl (G.2.1 1, 5, .inr (.inl (aL Bk)))), (j0, .inl (G.2.1 1, 13, .inr (.inl (aL J2))))]) H := hP
        have hD : va_D A ([(h0, .inr (1, [.ref c0, .ref b0, .ref j0, .long (lI al), .int (iI mo)])), (c0, .inl (G.2.1 1, 13, .inr (.inl (aL (va_cpy J2 F 0 0 13))))), (b0, .inl (G.2.1 1, 5, .inr (.inl (aL Bk)))), (j0, .inl (G.2.1 1, 13, .inr (.inl (aL J2))))]) := hD
        exact rtWv hx hb hr hlocks dX0_joinBlock_103 (va_cpy J2 F 0 0 13, J2) (show ∀ r : Nat, r < 13 → (va_cpy J2 F 0 0 13) r = cvC F Bk r 13 from (fun r hr => by unfold va_cpy; rw [if_pos (by omega), show 0 + (r - 0) = r from by omega, hF r hr, show i.toNat = 13 from by omega])) hP hD hS
      · refine lv_iconst (v := iI 0) hx hb dX0_joinBlock_19 rfl ?_
        refine lv_istore_n (lv' := [(2, .int (iI 0)), (1, .int (iI i)), (0, .ref h0)]) hx hb dX0_joinBlock_20 rfl hl (by decide) rfl (fun ls hl => ?_)
        have lp_21 : ∀ (μ21 : Nat) (j : Int) (J3 : Nat → Int) (hj : 0 ≤ j ∧ j ≤ 5) (hF3 : ∀ r : Nat, r < 13 → J3 r = J2 r + cvI F Bk i.toNat r j.toNat) (hμ21 : (5 - j).toNat < μ21) (H : Heap) (locs : List Loc) (ls : Array Slot) (hP : va_P G.1 vwCl ([(h0, .inr (1, [.ref c0, .ref b0, .ref j0, .long (lI al), .int (iI mo)])), (c0, .inl (G.2.1 1, 13, .inr (.inl (aL F)))), (b0, .inl (G.2.1 1, 5, .inr (.inl (aL Bk)))), (j0, .inl (G.2.1 1, 13, .inr (.inl (aL J3))))]) H) (hD : va_D A ([(h0, .inr (1, [.ref c0, .ref b0, .ref j0, .long (lI al), .int (iI mo)])), (c0, .inl (G.2.1 1, 13, .inr (.inl (aL F)))), (b0, .inl (G.2.1 1, 5, .inr (.inl (aL Bk)))), (j0, .inl (G.2.1 1, 13, .inr (.inl (aL J3))))])) (hS : va_S A s.heap H locs) (hl : lv_has ls 3 [(2, .int (iI j)), (1, .int (iI i)), (0, .ref h0)]), W p l e rm_c_X0_joinBlock s m args below meth c H locs 0 0 (MQ below (va_Qv (fun (u : (Nat → Int) × (Nat → Int)) => ∀ r : Nat, r < 13 → u.1 r = cvC F Bk r 13) (Bw G.1 vwCl (fun (u : (Nat → Int) × (Nat → Int)) => [(h0, .inr (1, [.ref c0, .ref b0, .ref j0, .long (lI al), .int (iI mo)])), (c0, .inl (G.2.1 1, 13, .inr (.inl (aL u.1)))), (b0, .inl (G.2.1 1, 5, .inr (.inl (aL Bk)))), (j0, .inl (G.2.1 1, 13, .inr (.inl (aL u.2))))]) A) A) args s 0 0 A) (F0 m 21 ls []) := by
          intro μ21
          induction μ21 with
          | zero => intro j J3 hj hF3 hμ21; exact absurd hμ21 (Nat.not_lt_zero _)
          | succ μ21 ih21 =>
            intro j J3 hj hF3 hμ21 H locs ls hP hD hS hl
            refine lv_iload_n hx hb dX0_joinBlock_21 rfl (lv_at hl 0 rfl) ?_
            refine lv_aload_n hx hb dX0_joinBlock_22 rfl (lv_at hl 2 rfl) ?_
            refine va_get (D := G.1) (ci := 1) (v := .ref b0) (C := RX0) (T := TX0) (N := 5) hx hb hts (by decide +kernel) hown hK hP 0 rfl rfl 1 (by decide) (hts (.fieldLink RX0 15 "MilkFirst$Ends" "block" "[J") (by decide +kernel)) (fun _ h9 => h9) rfl dX0_joinBlock_23 ?_
            refine va_alen (v := iI 5) hx hb hK hP 2 1 rfl rfl (iI_N 5) dX0_joinBlock_26 ?_
            refine w_icmp_ge (tgt := 71) hx hb dX0_joinBlock_27 (by decide) (by omega) (by decide) (fun c_27_3 => ?_) (fun c_27_3 => ?_)
            · refine w_iinc (k := 1) (lv' := [(1, .int (iI (i + 1))), (2, .int (iI j)), (0, .ref h0)]) hx hb dX0_joinBlock_71 hl rfl (by decide) rfl (fun ls hl => ?_)
              refine lv_goto (tgt := 10) hx hb dX0_joinBlock_74 (by decide) ?_
              exact ih10 (i + 1) J3 (by omega) (by exact cv_2 hi.1 hF (cv_end (by omega) hF3)) (by omega) _ _ _ hP hD hS (lv_sub hl [0, 2] rfl)
            · refine lv_iload_n hx hb dX0_joinBlock_30 rfl (lv_at hl 1 rfl) ?_
              refine lv_iload_n hx hb dX0_joinBlock_31 rfl (lv_at hl 0 rfl) ?_
              refine w_iadd hx hb dX0_joinBlock_32 ?_
              refine lv_aload_n hx hb dX0_joinBlock_33 rfl (lv_at hl 2 rfl) ?_
              refine va_get (D := G.1) (ci := 1) (v := .ref j0) (C := RX0) (T := TX0) (N := 5) hx hb hts (by decide +kernel) hown hK hP 0 rfl rfl 2 (by decide) (hts (.fieldLink RX0 18 "MilkFirst$Ends" "joined" "[J") (by decide +kernel)) (fun _ h9 => h9) rfl dX0_joinBlock_34 ?_
              refine va_alen (v := iI 13) hx hb hK hP 3 1 rfl rfl (iI_N 13) dX0_joinBlock_37 ?_
              refine w_icmp_ge (tgt := 71) hx hb dX0_joinBlock_38 (by decide) (by omega) (by decide) (fun c_38_4 => ?_) (fun c_38_4 => ?_)
              · refine w_iinc (k := 1) (lv' := [(1, .int (iI (i + 1))), (2, .int (iI j)), (0, .ref h0)]) hx hb dX0_joinBlock_71 hl rfl (by decide) rfl (fun ls hl => ?_)
                refine lv_goto (tgt := 10) hx hb dX0_joinBlock_74 (by decide) ?_
                exact ih10 (i + 1) J3 (by omega) (by exact cv_2 hi.1 hF (cv_end (by omega) hF3)) (by omega) _ _ _ hP hD hS (lv_sub hl [0, 2] rfl)
              · refine lv_aload_n hx hb dX0_joinBlock_41 rfl (lv_at hl 2 rfl) ?_
                refine va_get (D := G.1) (ci := 1) (v := .ref j0) (C := RX0) (T := TX0) (N := 5) hx hb hts (by decide +kernel) hown hK hP 0 rfl rfl 2 (by decide) (hts (.fieldLink RX0 18 "MilkFirst$Ends" "joined" "[J") (by decide +kernel)) (fun _ h9 => h9) rfl dX0_joinBlock_42 ?_
                refine lv_iload_n hx hb dX0_joinBlock_45 rfl (lv_at hl 1 rfl) ?_
                refine lv_iload_n hx hb dX0_joinBlock_46 rfl (lv_at hl 0 rfl) ?_
                refine w_iadd hx hb dX0_joinBlock_47 ?_
                refine lv_dup2_11 hx hb dX0_joinBlock_48 rfl rfl ?_
                refine w_lald hx hb hK hP 3 1 rfl rfl (((i + j)).toNat) (by omega) (by omega) (by decide) dX0_joinBlock_49 ?_
                refine lv_aload_n hx hb dX0_joinBlock_50 rfl (lv_at hl 2 rfl) ?_
                refine va_get (D := G.1) (ci := 1) (v := .ref c0) (C := RX0) (T := TX0) (N := 5) hx hb hts (by decide +kernel) hown hK hP 0 rfl rfl 0 (by decide) (hts (.fieldLink RX0 9 "MilkFirst$Ends" "cases" "[J") (by decide +kernel)) (fun _ h9 => h9) rfl dX0_joinBlock_51 ?_
                refine lv_iload_n hx hb dX0_joinBlock_54 rfl (lv_at hl 1 rfl) ?_
                refine w_lald hx hb hK hP 1 1 rfl rfl ((i).toNat) (by omega) (by omega) (by decide) dX0_joinBlock_55 ?_
                refine lv_aload_n hx hb dX0_joinBlock_56 rfl (lv_at hl 2 rfl) ?_
                refine va_get (D := G.1) (ci := 1) (v := .ref b0) (C := RX0) (T := TX0) (N := 5) hx hb hts (by decide +kernel) hown hK hP 0 rfl rfl 1 (by decide) (hts (.fieldLink RX0 15 "MilkFirst$Ends" "block" "[J") (by decide +kernel)) (fun _ h9 => h9) rfl dX0_joinBlock_57 ?_
                refine lv_iload_n hx hb dX0_joinBlock_60 rfl (lv_at hl 0 rfl) ?_
                refine w_lald hx hb hK hP 2 1 rfl rfl ((j).toNat) (by omega) (by omega) (by decide) dX0_joinBlock_61 ?_
                refine w_lmul hx hb dX0_joinBlock_62 ?_
                refine w_ladd hx hb dX0_joinBlock_63 ?_
                refine w_last hx hb hK hP hD hS 3 1 rfl rfl (((i + j)).toNat) (by omega) (by omega) (by decide) dX0_joinBlock_64 (fun H locs hP hD hS => ?_)
                have hP : va_P G.1 vwCl ([(h0, .inr (1, [.ref c0, .ref b0, .ref j0, .long (lI al), .int (iI mo)])), (c0, .inl (G.2.1 1, 13, .inr (.inl (aL F)))), (b0, .inl (G.2.1 1, 5, .inr (.inl (aL Bk)))), (j0, .inl (G.2.1 1, 13, .inr (.inl (aL (va_up J3 (((i + j)).toNat) ((J3 (((i + j)).toNat)) + ((F ((i).toNat)) * (Bk ((j).toNat)))))))))]) H := hP
                have hD : va_D A ([(h0, .inr (1, [.ref c0, .ref b0, .ref j0, .long (lI al), .int (iI mo)])), (c0, .inl (G.2.1 1, 13, .inr (.inl (aL F)))), (b0, .inl (G.2.1 1, 5, .inr (.inl (aL Bk)))), (j0, .inl (G.2.1 1, 13, .inr (.inl (aL (va_up J3 (((i + j)).toNat) ((J3 (((i + j)).toNat)) + ((F ((i).toNat)) * (Bk ((j).toNat)))))))))]) := hD
                refine w_iinc (k := 0) (lv' := [(2, .int (iI (j + 1))), (1, .int (iI i)), (0, .ref h0)]) hx hb dX0_joinBlock_65 hl rfl (by decide) rfl (fun ls hl => ?_)
                refine lv_goto (tgt := 21) hx hb dX0_joinBlock_68 (by decide) ?_
                exact ih21 (j + 1) (va_up J3 (((i + j)).toNat) ((J3 (((i + j)).toNat)) + ((F ((i).toNat)) * (Bk ((j).toNat))))) (by omega) (by exact cv_1 hi.1 hj.1 hF3) (by omega) _ _ _ hP hD hS (lv_sub hl [0, 1, 2] rfl)
        exact lp_21 ((5 - (0 : Int)).toNat + 1) 0 J2 (by omega) (by intro r hr; show _ = _ + (0 : Int); omega) (Nat.lt_succ_self _) _ _ _ hP hD hS (lv_sub hl [0, 1, 2] rfl)
  exact lp_10 ((13 - (0 : Int)).toNat + 1) 0 F2_1 (by omega) (by intro r hr; rw [hu5 r hr]; rfl) (Nat.lt_succ_self _) _ _ _ hP hD hS (lv_sub hl [0, 1] rfl)
abbrev rm_c_X0_fillBlocks : Room := { frames := 3, cells := 0, slots := 0, locals := 90 }
set_option maxHeartbeats 4000000 in
set_option maxRecDepth 100000 in
theorem c_X0_fillBlocks (l : Launch) (G : Gx) (h0 : Nat) (c0 : Nat) (b0 : Nat) (j0 : Nat) (F : Nat → Int) (Bk : Nat → Int) (Jd : Nat → Int) (al : Int) (mo : Int) (n : Int) (k : Int) (a : Int) (sz : Nat) (hn : 1 ≤ n ∧ n ≤ 3) (hk : 1 ≤ k ∧ k ≤ 3) (ha : 0 ≤ a ∧ a ≤ 10) (hF0 : ∀ j : Nat, j < 13 → F j = 0) : Met l yX0_fillBlocks wsX0_fillBlocks rm_c_X0_fillBlocks (va_Pc [.ref h0, .int (iI n), .int (iI k), .int (iI a)] (wr G ([(h0, .inr (1, [.ref c0, .ref b0, .ref j0, .long (lI al), .int (iI mo)])), (c0, .inl (G.2.1 1, 13, .inr (.inl (aL F)))), (b0, .inl (G.2.1 1, 5, .inr (.inl (aL Bk)))), (j0, .inl (G.2.1 1, 13, .inr (.inl (aL Jd))))]) sz)) (va_Qv (fun (u : (Nat → Int) × (Nat → Int) × (Nat → Int)) => ∀ r : Nat, r < 13 → u.1 r = cvN (fun j => fxC 4 k a j (k + 1).toNat) n.toNat r) (Bw G.1 vwCl (fun (u : (Nat → Int) × (Nat → Int) × (Nat → Int)) => [(h0, .inr (1, [.ref c0, .ref b0, .ref j0, .long (lI ((10 ^ 4 * evenT 4) ^ n.toNat)), .int (iI mo)])), (c0, .inl (G.2.1 1, 13, .inr (.inl (aL u.1)))), (b0, .inl (G.2.1 1, 5, .inr (.inl (aL u.2.1)))), (j0, .inl (G.2.1 1, 13, .inr (.inl (aL u.2.2))))]) (va_A ([(h0, .inr (1, [.ref c0, .ref b0, .ref j0, .long (lI al), .int (iI mo)])), (c0, .inl (G.2.1 1, 13, .inr (.inl (aL F)))), (b0, .inl (G.2.1 1, 5, .inr (.inl (aL Bk)))), (j0, .inl (G.2.1 1, 13, .inr (.inl (aL Jd))))]) sz)) (va_A ([(h0, .inr (1, [.ref c0, .ref b0, .ref j0, .long (lI al), .int (iI mo)])), (c0, .inl (G.2.1 1, 13, .inr (.inl (aL F)))), (b0, .inl (G.2.1 1, 5, .inr (.inl (aL Bk)))), (j0, .inl (G.2.1 1, 13, .inr (.inl (aL Jd))))]) sz)) 0 0 (va_A ([(h0, .inr (1, [.ref c0, .ref b0, .ref j0, .long (lI al), .int (iI mo)])), (c0, .inl (G.2.1 1, 13, .inr (.inl (aL F)))), (b0, .inl (G.2.1 1, 5, .inr (.inl (aL Bk)))), (j0, .inl (G.2.1 1, 13, .inr (.inl (aL Jd))))]) sz) := by
  refine enW (Qc := fun A => (va_Qv (fun (u : (Nat → Int) × (Nat → Int) × (Nat → Int)) => ∀ r : Nat, r < 13 → u.1 r = cvN (fun j => fxC 4 k a j (k + 1).toNat) n.toNat r) (Bw G.1 vwCl (fun (u : (Nat → Int) × (Nat → Int) × (Nat → Int)) => [(h0, .inr (1, [.ref c0, .ref b0, .ref j0, .long (lI ((10 ^ 4 * evenT 4) ^ n.toNat)), .int (iI mo)])), (c0, .inl (G.2.1 1, 13, .inr (.inl (aL u.1)))), (b0, .inl (G.2.1 1, 5, .inr (.inl (aL u.2.1)))), (j0, .inl (G.2.1 1, 13, .inr (.inl (aL u.2.2))))]) A) A)) (mc := 0) (ms := 0) (cc := cX0_fillBlocks) (maxL := 7) (ret := none) (C := RX0) [(0, .ref h0), (1, .int (iI n)), (2, .int (iI k)), (3, .int (iI a))] (by decide) rfl rfl (Nat.le_of_ble_eq_true rfl) rfl ?_
  intro p e s m args below meth c ls A hx hb hr hml hown hts hlocks hin hP hK hD hT hN hA hS hl
  show W p l e rm_c_X0_fillBlocks s m args below meth c s.heap [] 0 0 _ (F0 m 0 ls [])
  refine lv_aload_n hx hb dX0_fillBlocks_0 rfl (lv_at hl 0 rfl) ?_
  refine va_get (D := G.1) (ci := 1) (v := .ref b0) (C := RX0) (T := TX0) (N := 5) hx hb hts (by decide +kernel) hown hK hP 0 rfl rfl 1 (by decide) (hts (.fieldLink RX0 15 "MilkFirst$Ends" "block" "[J") (by decide +kernel)) (fun _ h9 => h9) rfl dX0_fillBlocks_1 ?_
  refine lv_lconst (v := lI 0) hx hb dX0_fillBlocks_4 (by decide) ?_
  refine cWSv0 (As := [.ref b0, .long (lI 0)]) (rest := []) (wr0 := [(h0, .inr (1, [.ref c0, .ref b0, .ref j0, .long (lI al), .int (iI mo)])), (c0, .inl (G.2.1 1, 13, .inr (.inl (aL F)))), (j0, .inl (G.2.1 1, 13, .inr (.inl (aL Jd))))]) ⟨hx, hb, hml, hown, hts⟩ (c_J7_fill_d0a16 l G b0 5 Bk 0 s.heap.size (by omega)) (va_cwS 2 hts gX0_fillBlocks_J7_fill_d0a16 rfl rfl rfl (by decide +kernel) ⟨Nat.le_of_ble_eq_true rfl, Nat.le_of_ble_eq_true rfl⟩) rfl hl.1 rfl (Nat.le_of_ble_eq_true rfl) dX0_fillBlocks_5 ⟨Nat.le_of_ble_eq_true rfl, Nat.le_of_ble_eq_true rfl⟩ hP hD hK hT hN hS hA [2] [0, 1, 3] rfl rfl (by decide) (by decide) (by decide) (fun u_1 hu_1 H locs hz_1 hP hD hS => ?_)
  generalize u_1 = F2_1 at *
  try dsimp only at hu_1
  have hP : va_P G.1 vwCl ([(h0, .inr (1, [.ref c0, .ref b0, .ref j0, .long (lI al), .int (iI mo)])), (c0, .inl (G.2.1 1, 13, .inr (.inl (aL F)))), (j0, .inl (G.2.1 1, 13, .inr (.inl (aL Jd)))), (b0, .inl (G.2.1 1, 5, .inr (.inl (aL F2_1))))]) H := hP
  have hD : va_D A ([(h0, .inr (1, [.ref c0, .ref b0, .ref j0, .long (lI al), .int (iI mo)])), (c0, .inl (G.2.1 1, 13, .inr (.inl (aL F)))), (j0, .inl (G.2.1 1, 13, .inr (.inl (aL Jd)))), (b0, .inl (G.2.1 1, 5, .inr (.inl (aL F2_1))))]) := hD
  have hu5 := hu_1
  refine lv_aload_n hx hb dX0_fillBlocks_8 rfl (lv_at hl 0 rfl) ?_
  refine va_get (D := G.1) (ci := 1) (v := .ref b0) (C := RX0) (T := TX0) (N := 5) hx hb hts (by decide +kernel) hown hK hP 0 rfl rfl 1 (by decide) (hts (.fieldLink RX0 15 "MilkFirst$Ends" "block" "[J") (by decide +kernel)) (fun _ h9 => h9) rfl dX0_fillBlocks_9 ?_
  refine lv_iconst (v := iI 4) hx hb dX0_fillBlocks_12 rfl ?_
  refine lv_iload_n hx hb dX0_fillBlocks_13 rfl (lv_at hl 2 rfl) ?_
  refine lv_iload_n hx hb dX0_fillBlocks_14 rfl (lv_at hl 3 rfl) ?_
  refine cWSl0 (As := [.ref b0, .int (iI 4), .int (iI k), .int (iI a)]) (rest := []) (wr0 := [(h0, .inr (1, [.ref c0, .ref b0, .ref j0, .long (lI al), .int (iI mo)])), (c0, .inl (G.2.1 1, 13, .inr (.inl (aL F)))), (j0, .inl (G.2.1 1, 13, .inr (.inl (aL Jd))))]) ⟨hx, hb, hml, hown, hts⟩ (c_X0_fillFixed l G b0 5 F2_1 4 k a H.size (by omega) (by omega) (by omega)) (va_cwS 4 hts gX0_fillBlocks_X0_fillFixed rfl rfl rfl (by decide +kernel) ⟨Nat.le_of_ble_eq_true rfl, Nat.le_of_ble_eq_true rfl⟩) rfl hl.1 rfl (Nat.le_of_ble_eq_true rfl) dX0_fillBlocks_15 ⟨Nat.le_of_ble_eq_true rfl, Nat.le_of_ble_eq_true rfl⟩ hP hD hK hT hN hS hA [3] [0, 1, 2] rfl rfl (by decide) (by decide) (by decide) (fun r_ u_2 hu_2 H locs hz_2 hP hD hS => ?_)
  generalize u_2 = F2_2 at *
  obtain ⟨rfl, hu_2⟩ := hu_2
  try dsimp only at hu_2
  have hP : va_P G.1 vwCl ([(h0, .inr (1, [.ref c0, .ref b0, .ref j0, .long (lI al), .int (iI mo)])), (c0, .inl (G.2.1 1, 13, .inr (.inl (aL F)))), (j0, .inl (G.2.1 1, 13, .inr (.inl (aL Jd)))), (b0, .inl (G.2.1 1, 5, .inr (.inl (aL F2_2))))]) H := hP
  have hD : va_D A ([(h0, .inr (1, [.ref c0, .ref b0, .ref j0, .long (lI al), .int (iI mo)])), (c0, .inl (G.2.1 1, 13, .inr (.inl (aL F)))), (j0, .inl (G.2.1 1, 13, .inr (.inl (aL Jd)))), (b0, .inl (G.2.1 1, 5, .inr (.inl (aL F2_2))))]) := hD
  have hu15 := hu_2
  have hB9 := cv_B hu5 hu15
  refine lv_lstore (lv' := [(4, .long (lI (10 ^ (4 : Int).toNat * evenT (4 : Int).toNat))), (0, .ref h0), (1, .int (iI n)), (2, .int (iI k)), (3, .int (iI a))]) hx hb dX0_fillBlocks_18 hl (by decide) rfl (fun ls hl => ?_)
  refine lv_aload_n hx hb dX0_fillBlocks_20 rfl (lv_at hl 1 rfl) ?_
  refine va_get (D := G.1) (ci := 1) (v := .ref c0) (C := RX0) (T := TX0) (N := 5) hx hb hts (by decide +kernel) hown hK hP 0 rfl rfl 0 (by decide) (hts (.fieldLink RX0 9 "MilkFirst$Ends" "cases" "[J") (by decide +kernel)) (fun _ h9 => h9) rfl dX0_fillBlocks_21 ?_
  refine va_alen (v := iI 13) hx hb hK hP 1 1 rfl rfl (iI_N 13) dX0_fillBlocks_24 ?_
  refine w_if_le (tgt := 35) hx hb dX0_fillBlocks_25 (by decide) (by decide) (fun c_ => absurd c_ (by decide)) (fun _ => ?_)
  refine lv_aload_n hx hb dX0_fillBlocks_28 rfl (lv_at hl 1 rfl) ?_
  refine va_get (D := G.1) (ci := 1) (v := .ref c0) (C := RX0) (T := TX0) (N := 5) hx hb hts (by decide +kernel) hown hK hP 0 rfl rfl 0 (by decide) (hts (.fieldLink RX0 9 "MilkFirst$Ends" "cases" "[J") (by decide +kernel)) (fun _ h9 => h9) rfl dX0_fillBlocks_29 ?_
  refine lv_iconst (v := iI 0) hx hb dX0_fillBlocks_32 rfl ?_
  refine lv_lconst (v := lI 1) hx hb dX0_fillBlocks_33 (by decide) ?_
  refine w_last hx hb hK hP hD hS 1 1 rfl rfl 0 rfl (by decide) (by decide) dX0_fillBlocks_34 (fun H locs hP hD hS => ?_)
  have hP : va_P G.1 vwCl ([(h0, .inr (1, [.ref c0, .ref b0, .ref j0, .long (lI al), .int (iI mo)])), (c0, .inl (G.2.1 1, 13, .inr (.inl (aL (va_up F 0 1))))), (j0, .inl (G.2.1 1, 13, .inr (.inl (aL Jd)))), (b0, .inl (G.2.1 1, 5, .inr (.inl (aL F2_2))))]) H := hP
  have hD : va_D A ([(h0, .inr (1, [.ref c0, .ref b0, .ref j0, .long (lI al), .int (iI mo)])), (c0, .inl (G.2.1 1, 13, .inr (.inl (aL (va_up F 0 1))))), (j0, .inl (G.2.1 1, 13, .inr (.inl (aL Jd)))), (b0, .inl (G.2.1 1, 5, .inr (.inl (aL F2_2))))]) := hD
  refine lv_aload_n hx hb dX0_fillBlocks_35 rfl (lv_at hl 1 rfl) ?_
  refine lv_lconst (v := lI 1) hx hb dX0_fillBlocks_36 (by decide) ?_
  refine va_put (D := G.1) (ci := 1) (v := .long (lI 1)) (ty := .long) (C := RX0) (T := TX0) (N := 5) hx hb hts (by decide +kernel) tyX0 tyX0_ok nmX0 hown hK hP hD hS 0 rfl rfl 3 (by decide) (hts (.fieldLink RX0 21 "MilkFirst$Ends" "allCases" "J") (by decide +kernel)) (fun _ h9 => h9) rfl (by decide +kernel) rfl rfl (Nat.le_of_ble_eq_true rfl) dX0_fillBlocks_37 (fun H locs hP hD hS => ?_)
  have hP : va_P G.1 vwCl ([(h0, .inr (1, [.ref c0, .ref b0, .ref j0, .long (lI 1), .int (iI mo)])), (c0, .inl (G.2.1 1, 13, .inr (.inl (aL (va_up F 0 1))))), (j0, .inl (G.2.1 1, 13, .inr (.inl (aL Jd)))), (b0, .inl (G.2.1 1, 5, .inr (.inl (aL F2_2))))]) H := hP
  have hD : va_D A ([(h0, .inr (1, [.ref c0, .ref b0, .ref j0, .long (lI 1), .int (iI mo)])), (c0, .inl (G.2.1 1, 13, .inr (.inl (aL (va_up F 0 1))))), (j0, .inl (G.2.1 1, 13, .inr (.inl (aL Jd)))), (b0, .inl (G.2.1 1, 5, .inr (.inl (aL F2_2))))]) := hD
  refine lv_iconst (v := iI 0) hx hb dX0_fillBlocks_40 rfl ?_
  refine lv_istore (lv' := [(6, .int (iI 0)), (4, .long (lI (10 ^ (4 : Int).toNat * evenT (4 : Int).toNat))), (0, .ref h0), (1, .int (iI n)), (2, .int (iI k)), (3, .int (iI a))]) hx hb dX0_fillBlocks_41 hl (by decide) rfl (fun ls hl => ?_)
  have lp_43 : ∀ (μ43 : Nat) (i : Int) (F2 : Nat → Int) (J2 : Nat → Int) (al2 : Int) (hi : 0 ≤ i ∧ i ≤ n) (hF : ∀ r : Nat, r < 13 → F2 r = cvN (fun j => fxC 4 k a j (k + 1).toNat) i.toNat r) (hal : al2 = (10 ^ 4 * evenT 4) ^ i.toNat) (hμ43 : (n - i).toNat < μ43) (H : Heap) (locs : List Loc) (ls : Array Slot) (hP : va_P G.1 vwCl ([(h0, .inr (1, [.ref c0, .ref b0, .ref j0, .long (lI al2), .int (iI mo)])), (c0, .inl (G.2.1 1, 13, .inr (.inl (aL F2)))), (j0, .inl (G.2.1 1, 13, .inr (.inl (aL J2)))), (b0, .inl (G.2.1 1, 5, .inr (.inl (aL F2_2))))]) H) (hD : va_D A ([(h0, .inr (1, [.ref c0, .ref b0, .ref j0, .long (lI al2), .int (iI mo)])), (c0, .inl (G.2.1 1, 13, .inr (.inl (aL F2)))), (j0, .inl (G.2.1 1, 13, .inr (.inl (aL J2)))), (b0, .inl (G.2.1 1, 5, .inr (.inl (aL F2_2))))])) (hS : va_S A s.heap H locs) (hl : lv_has ls 7 [(6, .int (iI i)), (4, .long (lI (10 ^ (4 : Int).toNat * evenT (4 : Int).toNat))), (0, .ref h0), (1, .int (iI n)), (2, .int (iI k)), (3, .int (iI a))]), W p l e rm_c_X0_fillBlocks s m args below meth c H locs 0 0 (MQ below (va_Qv (fun (u : (Nat → Int) × (Nat → Int) × (Nat → Int)) => ∀ r : Nat, r < 13 → u.1 r = cvN (fun j => fxC 4 k a j (k + 1).toNat) n.toNat r) (Bw G.1 vwCl (fun (u : (Nat → Int) × (Nat → Int) × (Nat → Int)) => [(h0, .inr (1, [.ref c0, .ref b0, .ref j0, .long (lI ((10 ^ 4 * evenT 4) ^ n.toNat)), .int (iI mo)])), (c0, .inl (G.2.1 1, 13, .inr (.inl (aL u.1)))), (b0, .inl (G.2.1 1, 5, .inr (.inl (aL u.2.1)))), (j0, .inl (G.2.1 1, 13, .inr (.inl (aL u.2.2))))]) A) A) args s 0 0 A) (F0 m 43 ls []) := by
    intro μ43
    induction μ43 with
    | zero => intro i F2 J2 al2 hi hF hal hμ43; exact absurd hμ43 (Nat.not_lt_zero _)
    | succ μ43 ih43 =>
      intro i F2 J2 al2 hi hF hal hμ43 H locs ls hP hD hS hl
      refine lv_iload hx hb dX0_fillBlocks_43 (lv_at hl 0 rfl) ?_
      refine lv_iload_n hx hb dX0_fillBlocks_45 rfl (lv_at hl 3 rfl) ?_
      refine w_icmp_ge (tgt := 70) hx hb dX0_fillBlocks_46 (by decide) (by omega) (by omega) (fun c_46_4 => ?_) (fun c_46_4 => ?_)
      · have hwe : ([(h0, .inr (1, [.ref c0, .ref b0, .ref j0, .long (lI al2), .int (iI mo)])), (c0, .inl (G.2.1 1, 13, .inr (.inl (aL F2)))), (b0, .inl (G.2.1 1, 5, .inr (.inl (aL F2_2)))), (j0, .inl (G.2.1 1, 13, .inr (.inl (aL J2))))] : va_W) = [(h0, .inr (1, [.ref c0, .ref b0, .ref j0, .long (lI ((10 ^ 4 * evenT 4) ^ n.toNat)), .int (iI mo)])), (c0, .inl (G.2.1 1, 13, .inr (.inl (aL F2)))), (b0, .inl (G.2.1 1, 5, .inr (.inl (aL F2_2)))), (j0, .inl (G.2.1 1, 13, .inr (.inl (aL J2))))] := by rw [hal, show i = n from by omega]
        have hP9 : va_P G.1 vwCl ([(h0, .inr (1, [.ref c0, .ref b0, .ref j0, .long (lI ((10 ^ 4 * evenT 4) ^ n.toNat)), .int (iI mo)])), (c0, .inl (G.2.1 1, 13, .inr (.inl (aL F2)))), (b0, .inl (G.2.1 1, 5, .inr (.inl (aL F2_2)))), (j0, .inl (G.2.1 1, 13, .inr (.inl (aL J2))))]) H := hwe ▸ (hP.sub [0, 1, 3, 2] rfl)
        have hD9 : va_D A ([(h0, .inr (1, [.ref c0, .ref b0, .ref j0, .long (lI ((10 ^ 4 * evenT 4) ^ n.toNat)), .int (iI mo)])), (c0, .inl (G.2.1 1, 13, .inr (.inl (aL F2)))), (b0, .inl (G.2.1 1, 5, .inr (.inl (aL F2_2)))), (j0, .inl (G.2.1 1, 13, .inr (.inl (aL J2))))]) := hwe ▸ (hD.sub [0, 1, 3, 2] (by decide) rfl)
        exact rtWv hx hb hr hlocks dX0_fillBlocks_70 (F2, F2_2, J2) (show ∀ r : Nat, r < 13 → F2 r = cvN (fun j => fxC 4 k a j (k + 1).toNat) n.toNat r from (fun r hr => by rw [hF r hr, show i = n from by omega])) hP9 hD9 hS
      · refine lv_aload_n hx hb dX0_fillBlocks_49 rfl (lv_at hl 2 rfl) ?_
        refine cWVv0 (As := []) (rest := []) (wr0 := []) ⟨hx, hb, hml, hown, hts⟩ (c_X0_joinBlock l G h0 c0 b0 j0 F2 F2_2 J2 al2 mo H.size ) (cwV 0 hts gX0_fillBlocks_X0_joinBlock rfl rfl rfl (by decide +kernel) ⟨Nat.le_of_ble_eq_true rfl, Nat.le_of_ble_eq_true rfl⟩) rfl hl.1 rfl (Nat.le_of_ble_eq_true rfl) dX0_fillBlocks_50 ⟨Nat.le_of_ble_eq_true rfl, Nat.le_of_ble_eq_true rfl⟩ hP hD hK hT hN hS hA [0, 1, 3, 2] [] rfl rfl (by decide) (by decide) (by decide) (ci := 1) rfl rfl (fun u_5 hu_5 H locs hz_5 hP hD hS => ?_)
        obtain ⟨F2_5, J2_5⟩ := u_5
        try dsimp only at hu_5
        have hP : va_P G.1 vwCl ([(h0, .inr (1, [.ref c0, .ref b0, .ref j0, .long (lI al2), .int (iI mo)])), (c0, .inl (G.2.1 1, 13, .inr (.inl (aL F2_5)))), (b0, .inl (G.2.1 1, 5, .inr (.inl (aL F2_2)))), (j0, .inl (G.2.1 1, 13, .inr (.inl (aL J2_5))))]) H := hP
        have hD : va_D A ([(h0, .inr (1, [.ref c0, .ref b0, .ref j0, .long (lI al2), .int (iI mo)])), (c0, .inl (G.2.1 1, 13, .inr (.inl (aL F2_5)))), (b0, .inl (G.2.1 1, 5, .inr (.inl (aL F2_2)))), (j0, .inl (G.2.1 1, 13, .inr (.inl (aL J2_5))))]) := hD
        have hu9 := hu_5
        refine lv_aload_n hx hb dX0_fillBlocks_53 rfl (lv_at hl 2 rfl) ?_
        refine lv_aload_n hx hb dX0_fillBlocks_54 rfl (lv_at hl 2 rfl) ?_
        refine va_get (D := G.1) (ci := 1) (v := .long (lI al2)) (C := RX0) (T := TX0) (N := 5) hx hb hts (by decide +kernel) hown hK hP 0 rfl rfl 3 (by decide) (hts (.fieldLink RX0 21 "MilkFirst$Ends" "allCases" "J") (by decide +kernel)) (fun _ h9 => h9) rfl dX0_fillBlocks_55 ?_
        refine lv_lload hx hb dX0_fillBlocks_58 (lv_at hl 1 rfl) ?_
        refine w_lmul hx hb dX0_fillBlocks_60 ?_
        refine va_put (D := G.1) (ci := 1) (v := .long (lI (al2 * (10 ^ (4 : Int).toNat * evenT (4 : Int).toNat)))) (ty := .long) (C := RX0) (T := TX0) (N := 5) hx hb hts (by decide +kernel) tyX0 tyX0_ok nmX0 hown hK hP hD hS 0 rfl rfl 3 (by decide) (hts (.fieldLink RX0 21 "MilkFirst$Ends" "allCases" "J") (by decide +kernel)) (fun _ h9 => h9) rfl (by decide +kernel) rfl rfl (Nat.le_of_ble_eq_true rfl) dX0_fillBlocks_61 (fun H locs hP hD hS => ?_)
        have hP : va_P G.1 vwCl ([(h0, .inr (1, [.ref c0, .ref b0, .ref j0, .long (lI (al2 * (10 ^ (4 : Int).toNat * evenT (4 : Int).toNat))), .int (iI mo)])), (c0, .inl (G.2.1 1, 13, .inr (.inl (aL F2_5)))), (b0, .inl (G.2.1 1, 5, .inr (.inl (aL F2_2)))), (j0, .inl (G.2.1 1, 13, .inr (.inl (aL J2_5))))]) H := hP
        have hD : va_D A ([(h0, .inr (1, [.ref c0, .ref b0, .ref j0, .long (lI (al2 * (10 ^ (4 : Int).toNat * evenT (4 : Int).toNat))), .int (iI mo)])), (c0, .inl (G.2.1 1, 13, .inr (.inl (aL F2_5)))), (b0, .inl (G.2.1 1, 5, .inr (.inl (aL F2_2)))), (j0, .inl (G.2.1 1, 13, .inr (.inl (aL J2_5))))]) := hD
        refine w_iinc (k := 0) (lv' := [(6, .int (iI (i + 1))), (4, .long (lI (10 ^ (4 : Int).toNat * evenT (4 : Int).toNat))), (0, .ref h0), (1, .int (iI n)), (2, .int (iI k)), (3, .int (iI a))]) hx hb dX0_fillBlocks_64 hl rfl (by decide) rfl (fun ls hl => ?_)
        refine lv_goto (tgt := 43) hx hb dX0_fillBlocks_67 (by decide) ?_
        exact ih43 (i + 1) F2_5 J2_5 (al2 * (10 ^ (4 : Int).toNat * evenT (4 : Int).toNat)) (by omega) (by exact cvN_s hi.1 hF hB9 hu9) (by rw [hal, show (i + 1).toNat = i.toNat + 1 from by omega, Int.pow_succ]; rfl) (by omega) _ _ _ (hP.sub [0, 1, 3, 2] rfl) (hD.sub [0, 1, 3, 2] (by decide) rfl) hS (lv_sub hl [0, 1, 2, 3, 4, 5] rfl)
  exact lp_43 ((n - (0 : Int)).toNat + 1) 0 (va_up F 0 1) Jd 1 (by omega) (by exact cvN_0 hF0) (by rfl) (Nat.lt_succ_self _) _ _ _ hP hD hS (lv_sub hl [0, 1, 2, 3, 4, 5] rfl)
abbrev rm_c_X8_mostRight : Room := { frames := 0, cells := 0, slots := 0, locals := 0 }
set_option maxHeartbeats 4000000 in
set_option maxRecDepth 100000 in
theorem c_X8_mostRight (l : Launch) (G : Gx) (kd : Int) (n : Int) (hr : rI kd ∧ 0 ≤ n ∧ n ≤ 12) : Met l yX8_mostRight wsX8_mostRight rm_c_X8_mostRight (va_Pc [.int (iI kd), .int (iI n)] (rd G ([]))) (vp_Si (fun rv => rv = (iI (if kd = 4 then 4 * n else n)))) 0 0 (fun _ => False) := by
  refine enR (cc := cX8_mostRight) (maxL := 2) (ret := (some .int)) (C := RX8) [(0, .int (iI kd)), (1, .int (iI n))] (by decide) rfl rfl (Nat.le_of_ble_eq_true rfl) rfl ?_
  intro p e s m args below meth c ls hx hb hr hml hown hts hlocks hP hK hT hN hl
  have hS : va_S (fun _ => False) s.heap s.heap [] := va_S.rf
  show W p l e rm_c_X8_mostRight s m args below meth c s.heap [] 0 0 _ (F0 m 0 ls [])
  refine lv_iload_n hx hb dX8_mostRight_0 rfl (lv_at hl 0 rfl) ?_
  refine lv_iconst (v := iI 4) hx hb dX8_mostRight_1 rfl ?_
  refine w_icmp_ne (tgt := 11) hx hb dX8_mostRight_2 (by decide) (by omega) (by decide) (fun c_2_1 => ?_) (fun c_2_1 => ?_)
  · refine lv_iload_n hx hb dX8_mostRight_11 rfl (lv_at hl 1 rfl) ?_
    exact rtRi hx hb hr hlocks dX8_mostRight_12 (congrArg iI (by rw [if_neg (by omega)]))
  · refine lv_iconst (v := iI 4) hx hb dX8_mostRight_5 rfl ?_
    refine lv_iload_n hx hb dX8_mostRight_6 rfl (lv_at hl 1 rfl) ?_
    refine w_imul hx hb dX8_mostRight_7 ?_
    refine lv_goto (tgt := 12) hx hb dX8_mostRight_8 (by decide) ?_
    exact rtRi hx hb hr hlocks dX8_mostRight_12 (congrArg iI (by rw [if_pos (by omega)]))
abbrev rm_c_X0_fill : Room := { frames := 4, cells := 0, slots := 0, locals := 116 }
set_option maxHeartbeats 4000000 in
set_option maxRecDepth 100000 in
theorem c_X0_fill (l : Launch) (G : Gx) (h0 : Nat) (c0 : Nat) (b0 : Nat) (j0 : Nat) (F : Nat → Int) (Bk : Nat → Int) (Jd : Nat → Int) (al : Int) (mo : Int) (kd : Int) (n : Int) (k : Int) (a : Int) (sz : Nat) (hv : okP kd n k) (ha : 0 ≤ a ∧ a ≤ 10) (hrk : rI k) : Met l yX0_fill wsX0_fill rm_c_X0_fill (va_Pc [.ref h0, .int (iI kd), .int (iI n), .int (iI k), .int (iI a)] (wr G ([(h0, .inr (1, [.ref c0, .ref b0, .ref j0, .long (lI al), .int (iI mo)])), (c0, .inl (G.2.1 1, 13, .inr (.inl (aL F)))), (b0, .inl (G.2.1 1, 5, .inr (.inl (aL Bk)))), (j0, .inl (G.2.1 1, 13, .inr (.inl (aL Jd))))]) sz)) (va_Qv (fun (u : (Nat → Int) × (Nat → Int) × (Nat → Int)) => ∀ j : Nat, j < 13 → u.1 j = csZ kd n k a j) (Bw G.1 vwCl (fun (u : (Nat → Int) × (Nat → Int) × (Nat → Int)) => [(h0, .inr (1, [.ref c0, .ref b0, .ref j0, .long (lI (alZ kd n)), .int (iI (moZ kd n))])), (c0, .inl (G.2.1 1, 13, .inr (.inl (aL u.1)))), (b0, .inl (G.2.1 1, 5, .inr (.inl (aL u.2.1)))), (j0, .inl (G.2.1 1, 13, .inr (.inl (aL u.2.2))))]) (va_A ([(h0, .inr (1, [.ref c0, .ref b0, .ref j0, .long (lI al), .int (iI mo)])), (c0, .inl (G.2.1 1, 13, .inr (.inl (aL F)))), (b0, .inl (G.2.1 1, 5, .inr (.inl (aL Bk)))), (j0, .inl (G.2.1 1, 13, .inr (.inl (aL Jd))))]) sz)) (va_A ([(h0, .inr (1, [.ref c0, .ref b0, .ref j0, .long (lI al), .int (iI mo)])), (c0, .inl (G.2.1 1, 13, .inr (.inl (aL F)))), (b0, .inl (G.2.1 1, 5, .inr (.inl (aL Bk)))), (j0, .inl (G.2.1 1, 13, .inr (.inl (aL Jd))))]) sz)) 0 0 (va_A ([(h0, .inr (1, [.ref c0, .ref b0, .ref j0, .long (lI al), .int (iI mo)])), (c0, .inl (G.2.1 1, 13, .inr (.inl (aL F)))), (b0, .inl (G.2.1 1, 5, .inr (.inl (aL Bk)))), (j0, .inl (G.2.1 1, 13, .inr (.inl (aL Jd))))]) sz) := by
  refine enW (Qc := fun A => (va_Qv (fun (u : (Nat → Int) × (Nat → Int) × (Nat → Int)) => ∀ j : Nat, j < 13 → u.1 j = csZ kd n k a j) (Bw G.1 vwCl (fun (u : (Nat → Int) × (Nat → Int) × (Nat → Int)) => [(h0, .inr (1, [.ref c0, .ref b0, .ref j0, .long (lI (alZ kd n)), .int (iI (moZ kd n))])), (c0, .inl (G.2.1 1, 13, .inr (.inl (aL u.1)))), (b0, .inl (G.2.1 1, 5, .inr (.inl (aL u.2.1)))), (j0, .inl (G.2.1 1, 13, .inr (.inl (aL u.2.2))))]) A) A)) (mc := 0) (ms := 0) (cc := cX0_fill) (maxL := 5) (ret := none) (C := RX0) [(0, .ref h0), (1, .int (iI kd)), (2, .int (iI n)), (3, .int (iI k)), (4, .int (iI a))] (by decide) rfl rfl (Nat.le_of_ble_eq_true rfl) rfl ?_
  intro p e s m args below meth c ls A hx hb hr hml hown hts hlocks hin hP hK hD hT hN hA hS hl
  show W p l e rm_c_X0_fill s m args below meth c s.heap [] 0 0 _ (F0 m 0 ls [])
  have hv2 := hv
  unfold okP at hv2
  refine lv_aload_n hx hb dX0_fill_0 rfl (lv_at hl 0 rfl) ?_
  refine va_get (D := G.1) (ci := 1) (v := .ref c0) (C := RX0) (T := TX0) (N := 5) hx hb hts (by decide +kernel) hown hK hP 0 rfl rfl 0 (by decide) (hts (.fieldLink RX0 9 "MilkFirst$Ends" "cases" "[J") (by decide +kernel)) (fun _ h9 => h9) rfl dX0_fill_1 ?_
  refine lv_lconst (v := lI 0) hx hb dX0_fill_4 (by decide) ?_
  refine cWSv0 (As := [.ref c0, .long (lI 0)]) (rest := []) (wr0 := [(h0, .inr (1, [.ref c0, .ref b0, .ref j0, .long (lI al), .int (iI mo)])), (b0, .inl (G.2.1 1, 5, .inr (.inl (aL Bk)))), (j0, .inl (G.2.1 1, 13, .inr (.inl (aL Jd))))]) ⟨hx, hb, hml, hown, hts⟩ (c_J7_fill_d0a16 l G c0 13 F 0 s.heap.size (by omega)) (va_cwS 2 hts gX0_fill_J7_fill_d0a16 rfl rfl rfl (by decide +kernel) ⟨Nat.le_of_ble_eq_true rfl, Nat.le_of_ble_eq_true rfl⟩) rfl hl.1 rfl (Nat.le_of_ble_eq_true rfl) dX0_fill_5 ⟨Nat.le_of_ble_eq_true rfl, Nat.le_of_ble_eq_true rfl⟩ hP hD hK hT hN hS hA [1] [0, 2, 3] rfl rfl (by decide) (by decide) (by decide) (fun u_1 hu_1 H locs hz_1 hP hD hS => ?_)
  generalize u_1 = F2_1 at *
  try dsimp only at hu_1
  have hP : va_P G.1 vwCl ([(h0, .inr (1, [.ref c0, .ref b0, .ref j0, .long (lI al), .int (iI mo)])), (b0, .inl (G.2.1 1, 5, .inr (.inl (aL Bk)))), (j0, .inl (G.2.1 1, 13, .inr (.inl (aL Jd)))), (c0, .inl (G.2.1 1, 13, .inr (.inl (aL F2_1))))]) H := hP
  have hD : va_D A ([(h0, .inr (1, [.ref c0, .ref b0, .ref j0, .long (lI al), .int (iI mo)])), (b0, .inl (G.2.1 1, 5, .inr (.inl (aL Bk)))), (j0, .inl (G.2.1 1, 13, .inr (.inl (aL Jd)))), (c0, .inl (G.2.1 1, 13, .inr (.inl (aL F2_1))))]) := hD
  have hu5 := hu_1
  refine lv_aload_n hx hb dX0_fill_8 rfl (lv_at hl 0 rfl) ?_
  refine lv_iload_n hx hb dX0_fill_9 rfl (lv_at hl 1 rfl) ?_
  refine lv_iload_n hx hb dX0_fill_10 rfl (lv_at hl 2 rfl) ?_
  refine cRSNi (As := [.int (iI kd), .int (iI n)]) (rest := [.ref h0]) ⟨hx, hb, hml, hown, hts⟩ (c_X8_mostRight l G kd n (by omega)) ⟨va_cnB 2 hts gX0_fill_X8_mostRight_n35 rfl rfl rfl (hN.1 (.methodLinkNest RX0 35 yX8_mostRight "MilkFirst") (by decide +kernel)) (hts (.initialized yX8_mostRight.cls) (by decide +kernel)) (by decide +kernel) ⟨Nat.le_of_ble_eq_true rfl, Nat.le_of_ble_eq_true rfl⟩, (hts (.static yX8_mostRight) (by decide +kernel)), trivial⟩ rfl hl.1 rfl (Nat.le_of_ble_eq_true rfl) dX0_fill_11 ⟨Nat.le_of_ble_eq_true rfl, Nat.le_of_ble_eq_true rfl⟩ va_P_nil hK hT hN hS ?_
  refine va_put (D := G.1) (ci := 1) (v := .int (iI (if kd = 4 then 4 * n else n))) (ty := .int) (C := RX0) (T := TX0) (N := 5) hx hb hts (by decide +kernel) tyX0 tyX0_ok nmX0 hown hK hP hD hS 0 rfl rfl 4 (by decide) (hts (.fieldLink RX0 25 "MilkFirst$Ends" "most" "I") (by decide +kernel)) (fun _ h9 => h9) rfl (by decide +kernel) rfl rfl (Nat.le_of_ble_eq_true rfl) dX0_fill_14 (fun H locs hP hD hS => ?_)
  have hP : va_P G.1 vwCl ([(h0, .inr (1, [.ref c0, .ref b0, .ref j0, .long (lI al), .int (iI (if kd = 4 then 4 * n else n))])), (b0, .inl (G.2.1 1, 5, .inr (.inl (aL Bk)))), (j0, .inl (G.2.1 1, 13, .inr (.inl (aL Jd)))), (c0, .inl (G.2.1 1, 13, .inr (.inl (aL F2_1))))]) H := hP
  have hD : va_D A ([(h0, .inr (1, [.ref c0, .ref b0, .ref j0, .long (lI al), .int (iI (if kd = 4 then 4 * n else n))])), (b0, .inl (G.2.1 1, 5, .inr (.inl (aL Bk)))), (j0, .inl (G.2.1 1, 13, .inr (.inl (aL Jd)))), (c0, .inl (G.2.1 1, 13, .inr (.inl (aL F2_1))))]) := hD
  refine lv_iload_n hx hb dX0_fill_17 rfl (lv_at hl 1 rfl) ?_
  by_cases sw_2_1 : kd = 1
  · refine lv_tableIn (off := 30) (tgt := 48) hx hb dX0_fill_18 (by rw [sw_2_1]; decide) (by rw [sw_2_1]; decide) (by rw [sw_2_1]; decide) (by decide) ?_
    refine lv_aload_n hx hb dX0_fill_48 rfl (lv_at hl 0 rfl) ?_
    refine lv_aload_n hx hb dX0_fill_49 rfl (lv_at hl 0 rfl) ?_
    refine va_get (D := G.1) (ci := 1) (v := .ref c0) (C := RX0) (T := TX0) (N := 5) hx hb hts (by decide +kernel) hown hK hP 0 rfl rfl 0 (by decide) (hts (.fieldLink RX0 9 "MilkFirst$Ends" "cases" "[J") (by decide +kernel)) (fun _ h9 => h9) rfl dX0_fill_50 ?_
    refine lv_iload_n hx hb dX0_fill_53 rfl (lv_at hl 2 rfl) ?_
    refine lv_iload_n hx hb dX0_fill_54 rfl (lv_at hl 3 rfl) ?_
    refine lv_iload hx hb dX0_fill_55 (lv_at hl 4 rfl) ?_
    refine cWSl0 (As := [.ref c0, .int (iI n), .int (iI k), .int (iI a)]) (rest := [.ref h0]) (wr0 := [(h0, .inr (1, [.ref c0, .ref b0, .ref j0, .long (lI al), .int (iI (if kd = 4 then 4 * n else n))])), (b0, .inl (G.2.1 1, 5, .inr (.inl (aL Bk)))), (j0, .inl (G.2.1 1, 13, .inr (.inl (aL Jd))))]) ⟨hx, hb, hml, hown, hts⟩ (c_X0_fillFixed l G c0 13 F2_1 n k a H.size (by omega) (by omega) (by omega)) (va_cwS 4 hts gX0_fill_X0_fillFixed rfl rfl rfl (by decide +kernel) ⟨Nat.le_of_ble_eq_true rfl, Nat.le_of_ble_eq_true rfl⟩) rfl hl.1 rfl (Nat.le_of_ble_eq_true rfl) dX0_fill_57 ⟨Nat.le_of_ble_eq_true rfl, Nat.le_of_ble_eq_true rfl⟩ hP hD hK hT hN hS hA [3] [0, 1, 2] rfl rfl (by decide) (by decide) (by decide) (fun r_ u_3 hu_3 H locs hz_3 hP hD hS => ?_)
    generalize u_3 = F2_3 at *
    obtain ⟨rfl, hu_3⟩ := hu_3
    try dsimp only at hu_3
    have hP : va_P G.1 vwCl ([(h0, .inr (1, [.ref c0, .ref b0, .ref j0, .long (lI al), .int (iI (if kd = 4 then 4 * n else n))])), (b0, .inl (G.2.1 1, 5, .inr (.inl (aL Bk)))), (j0, .inl (G.2.1 1, 13, .inr (.inl (aL Jd)))), (c0, .inl (G.2.1 1, 13, .inr (.inl (aL F2_3))))]) H := hP
    have hD : va_D A ([(h0, .inr (1, [.ref c0, .ref b0, .ref j0, .long (lI al), .int (iI (if kd = 4 then 4 * n else n))])), (b0, .inl (G.2.1 1, 5, .inr (.inl (aL Bk)))), (j0, .inl (G.2.1 1, 13, .inr (.inl (aL Jd)))), (c0, .inl (G.2.1 1, 13, .inr (.inl (aL F2_3))))]) := hD
    have hz9 := hu_3
    refine va_put (D := G.1) (ci := 1) (v := .long (lI (10 ^ n.toNat * evenT n.toNat))) (ty := .long) (C := RX0) (T := TX0) (N := 5) hx hb hts (by decide +kernel) tyX0 tyX0_ok nmX0 hown hK hP hD hS 0 rfl rfl 3 (by decide) (hts (.fieldLink RX0 21 "MilkFirst$Ends" "allCases" "J") (by decide +kernel)) (fun _ h9 => h9) rfl (by decide +kernel) rfl rfl (Nat.le_of_ble_eq_true rfl) dX0_fill_60 (fun H locs hP hD hS => ?_)
    have hP : va_P G.1 vwCl ([(h0, .inr (1, [.ref c0, .ref b0, .ref j0, .long (lI (10 ^ n.toNat * evenT n.toNat)), .int (iI (if kd = 4 then 4 * n else n))])), (b0, .inl (G.2.1 1, 5, .inr (.inl (aL Bk)))), (j0, .inl (G.2.1 1, 13, .inr (.inl (aL Jd)))), (c0, .inl (G.2.1 1, 13, .inr (.inl (aL F2_3))))]) H := hP
    have hD : va_D A ([(h0, .inr (1, [.ref c0, .ref b0, .ref j0, .long (lI (10 ^ n.toNat * evenT n.toNat)), .int (iI (if kd = 4 then 4 * n else n))])), (b0, .inl (G.2.1 1, 5, .inr (.inl (aL Bk)))), (j0, .inl (G.2.1 1, 13, .inr (.inl (aL Jd)))), (c0, .inl (G.2.1 1, 13, .inr (.inl (aL F2_3))))]) := hD
    refine lv_goto (tgt := 120) hx hb dX0_fill_63 (by decide) ?_
    have hwe : ([(h0, .inr (1, [.ref c0, .ref b0, .ref j0, .long (lI (10 ^ n.toNat * evenT n.toNat)), .int (iI (if kd = 4 then 4 * n else n))])), (c0, .inl (G.2.1 1, 13, .inr (.inl (aL F2_3)))), (b0, .inl (G.2.1 1, 5, .inr (.inl (aL Bk)))), (j0, .inl (G.2.1 1, 13, .inr (.inl (aL Jd))))] : va_W) = [(h0, .inr (1, [.ref c0, .ref b0, .ref j0, .long (lI (alZ kd n)), .int (iI (moZ kd n))])), (c0, .inl (G.2.1 1, 13, .inr (.inl (aL F2_3)))), (b0, .inl (G.2.1 1, 5, .inr (.inl (aL Bk)))), (j0, .inl (G.2.1 1, 13, .inr (.inl (aL Jd))))] := by rw [show alZ kd n = 10 ^ n.toNat * evenT n.toNat from by unfold alZ; rw [if_pos sw_2_1]]; rfl
    have hP9 : va_P G.1 vwCl ([(h0, .inr (1, [.ref c0, .ref b0, .ref j0, .long (lI (alZ kd n)), .int (iI (moZ kd n))])), (c0, .inl (G.2.1 1, 13, .inr (.inl (aL F2_3)))), (b0, .inl (G.2.1 1, 5, .inr (.inl (aL Bk)))), (j0, .inl (G.2.1 1, 13, .inr (.inl (aL Jd))))]) H := hwe ▸ (hP.sub [0, 3, 1, 2] rfl)
    have hD9 : va_D A ([(h0, .inr (1, [.ref c0, .ref b0, .ref j0, .long (lI (alZ kd n)), .int (iI (moZ kd n))])), (c0, .inl (G.2.1 1, 13, .inr (.inl (aL F2_3)))), (b0, .inl (G.2.1 1, 5, .inr (.inl (aL Bk)))), (j0, .inl (G.2.1 1, 13, .inr (.inl (aL Jd))))]) := hwe ▸ (hD.sub [0, 3, 1, 2] (by decide) rfl)
    exact rtWv hx hb hr hlocks dX0_fill_120 (F2_3, Bk, Jd) (show ∀ j : Nat, j < 13 → F2_3 j = csZ kd n k a j from (fun j hj => by unfold csZ; rw [if_pos sw_2_1]; rw [hz9 j hj, hu5 j hj]; omega)) hP9 hD9 hS
  · skip
    by_cases sw_2_2 : kd = 2
    · refine lv_tableIn (off := 48) (tgt := 66) hx hb dX0_fill_18 (by rw [sw_2_2]; decide) (by rw [sw_2_2]; decide) (by rw [sw_2_2]; decide) (by decide) ?_
      refine lv_aload_n hx hb dX0_fill_66 rfl (lv_at hl 0 rfl) ?_
      refine lv_iload_n hx hb dX0_fill_67 rfl (lv_at hl 2 rfl) ?_
      refine lv_iload hx hb dX0_fill_68 (lv_at hl 4 rfl) ?_
      refine cRSl (As := [.int (iI a)]) (rest := [.int (iI n), .ref h0]) ⟨hx, hb, hml, hown, hts⟩ (c_X0_rightOfPair l G a (by omega)) (va_cwS 1 hts gX0_fill_X0_rightOfPair rfl rfl rfl (by decide +kernel) ⟨Nat.le_of_ble_eq_true rfl, Nat.le_of_ble_eq_true rfl⟩) rfl hl.1 rfl (Nat.le_of_ble_eq_true rfl) dX0_fill_70 ⟨Nat.le_of_ble_eq_true rfl, Nat.le_of_ble_eq_true rfl⟩ va_P_nil hK hT hN hS ?_
      refine lv_ldc2 (v := lI 200) hx hb hown (show (Jvm.Cond.constantLong RX0 47 (lI 200)).before args s = true from (by rw [show (lI 200) = (200 : Int64) from by decide]; exact (hts (.constantLong RX0 47 (200)) (by decide +kernel)))) dX0_fill_73 ?_
      refine cWVv0 (As := [.int (iI n), .long (lI (2 * a * a + 2 * a * (10 - a))), .long (lI 200)]) (rest := []) (wr0 := [(b0, .inl (G.2.1 1, 5, .inr (.inl (aL Bk)))), (j0, .inl (G.2.1 1, 13, .inr (.inl (aL Jd))))]) ⟨hx, hb, hml, hown, hts⟩ (c_X0_fillEach l G h0 c0 b0 j0 F2_1 al (if kd = 4 then 4 * n else n) n (2 * a * a + 2 * a * (10 - a)) 200 H.size (by omega)) (cwV 3 hts gX0_fill_X0_fillEach rfl rfl rfl (by decide +kernel) ⟨Nat.le_of_ble_eq_true rfl, Nat.le_of_ble_eq_true rfl⟩) rfl hl.1 rfl (Nat.le_of_ble_eq_true rfl) dX0_fill_76 ⟨Nat.le_of_ble_eq_true rfl, Nat.le_of_ble_eq_true rfl⟩ hP hD hK hT hN hS hA [0, 3] [1, 2] rfl rfl (by decide) (by decide) (by decide) (ci := 1) rfl rfl (fun u_4 hu_4 H locs hz_4 hP hD hS => ?_)
      generalize u_4 = F2_4 at *
      try dsimp only at hu_4
      have hP : va_P G.1 vwCl ([(b0, .inl (G.2.1 1, 5, .inr (.inl (aL Bk)))), (j0, .inl (G.2.1 1, 13, .inr (.inl (aL Jd)))), (h0, .inr (1, [.ref c0, .ref b0, .ref j0, .long (lI ((200 : Int) ^ n.toNat)), .int (iI (if kd = 4 then 4 * n else n))])), (c0, .inl (G.2.1 1, 13, .inr (.inl (aL F2_4))))]) H := hP
      have hD : va_D A ([(b0, .inl (G.2.1 1, 5, .inr (.inl (aL Bk)))), (j0, .inl (G.2.1 1, 13, .inr (.inl (aL Jd)))), (h0, .inr (1, [.ref c0, .ref b0, .ref j0, .long (lI ((200 : Int) ^ n.toNat)), .int (iI (if kd = 4 then 4 * n else n))])), (c0, .inl (G.2.1 1, 13, .inr (.inl (aL F2_4))))]) := hD
      have hz9 := hu_4
      refine lv_goto (tgt := 120) hx hb dX0_fill_79 (by decide) ?_
      have hwe : ([(h0, .inr (1, [.ref c0, .ref b0, .ref j0, .long (lI ((200 : Int) ^ n.toNat)), .int (iI (if kd = 4 then 4 * n else n))])), (c0, .inl (G.2.1 1, 13, .inr (.inl (aL F2_4)))), (b0, .inl (G.2.1 1, 5, .inr (.inl (aL Bk)))), (j0, .inl (G.2.1 1, 13, .inr (.inl (aL Jd))))] : va_W) = [(h0, .inr (1, [.ref c0, .ref b0, .ref j0, .long (lI (alZ kd n)), .int (iI (moZ kd n))])), (c0, .inl (G.2.1 1, 13, .inr (.inl (aL F2_4)))), (b0, .inl (G.2.1 1, 5, .inr (.inl (aL Bk)))), (j0, .inl (G.2.1 1, 13, .inr (.inl (aL Jd))))] := by rw [show alZ kd n = 200 ^ n.toNat from by unfold alZ; rw [if_neg (by omega), if_pos sw_2_2]]; rfl
      have hP9 : va_P G.1 vwCl ([(h0, .inr (1, [.ref c0, .ref b0, .ref j0, .long (lI (alZ kd n)), .int (iI (moZ kd n))])), (c0, .inl (G.2.1 1, 13, .inr (.inl (aL F2_4)))), (b0, .inl (G.2.1 1, 5, .inr (.inl (aL Bk)))), (j0, .inl (G.2.1 1, 13, .inr (.inl (aL Jd))))]) H := hwe ▸ (hP.sub [2, 3, 0, 1] rfl)
      have hD9 : va_D A ([(h0, .inr (1, [.ref c0, .ref b0, .ref j0, .long (lI (alZ kd n)), .int (iI (moZ kd n))])), (c0, .inl (G.2.1 1, 13, .inr (.inl (aL F2_4)))), (b0, .inl (G.2.1 1, 5, .inr (.inl (aL Bk)))), (j0, .inl (G.2.1 1, 13, .inr (.inl (aL Jd))))]) := hwe ▸ (hD.sub [2, 3, 0, 1] (by decide) rfl)
      exact rtWv hx hb hr hlocks dX0_fill_120 (F2_4, Bk, Jd) (show ∀ j : Nat, j < 13 → F2_4 j = csZ kd n k a j from (fun j hj => by unfold csZ; rw [if_neg (by omega), if_pos sw_2_2]; rw [hz9 j hj, hu5 j hj])) hP9 hD9 hS
    · skip
      by_cases sw_2_3 : kd = 3
      · refine lv_tableIn (off := 64) (tgt := 82) hx hb dX0_fill_18 (by rw [sw_2_3]; decide) (by rw [sw_2_3]; decide) (by rw [sw_2_3]; decide) (by decide) ?_
        refine lv_aload_n hx hb dX0_fill_82 rfl (lv_at hl 0 rfl) ?_
        refine lv_iload_n hx hb dX0_fill_83 rfl (lv_at hl 2 rfl) ?_
        refine lv_iload hx hb dX0_fill_84 (lv_at hl 4 rfl) ?_
        refine cRSl (As := [.int (iI a)]) (rest := [.int (iI n), .ref h0]) ⟨hx, hb, hml, hown, hts⟩ (c_X0_rightOfThree l G a (by omega)) (va_cwS 1 hts gX0_fill_X0_rightOfThree rfl rfl rfl (by decide +kernel) ⟨Nat.le_of_ble_eq_true rfl, Nat.le_of_ble_eq_true rfl⟩) rfl hl.1 rfl (Nat.le_of_ble_eq_true rfl) dX0_fill_86 ⟨Nat.le_of_ble_eq_true rfl, Nat.le_of_ble_eq_true rfl⟩ va_P_nil hK hT hN hS ?_
        refine lv_ldc2 (v := lI 3000) hx hb hown (show (Jvm.Cond.constantLong RX0 56 (lI 3000)).before args s = true from (by rw [show (lI 3000) = (3000 : Int64) from by decide]; exact (hts (.constantLong RX0 56 (3000)) (by decide +kernel)))) dX0_fill_89 ?_
        refine cWVv0 (As := [.int (iI n), .long (lI (3 * (a * a * a + (10 - a) * (10 - a) * (10 - a)) + a * (10 - a) * (10 - a) + a * a * (10 - a))), .long (lI 3000)]) (rest := []) (wr0 := [(b0, .inl (G.2.1 1, 5, .inr (.inl (aL Bk)))), (j0, .inl (G.2.1 1, 13, .inr (.inl (aL Jd))))]) ⟨hx, hb, hml, hown, hts⟩ (c_X0_fillEach l G h0 c0 b0 j0 F2_1 al (if kd = 4 then 4 * n else n) n (3 * (a * a * a + (10 - a) * (10 - a) * (10 - a)) + a * (10 - a) * (10 - a) + a * a * (10 - a)) 3000 H.size (by omega)) (cwV 3 hts gX0_fill_X0_fillEach rfl rfl rfl (by decide +kernel) ⟨Nat.le_of_ble_eq_true rfl, Nat.le_of_ble_eq_true rfl⟩) rfl hl.1 rfl (Nat.le_of_ble_eq_true rfl) dX0_fill_92 ⟨Nat.le_of_ble_eq_true rfl, Nat.le_of_ble_eq_true rfl⟩ hP hD hK hT hN hS hA [0, 3] [1, 2] rfl rfl (by decide) (by decide) (by decide) (ci := 1) rfl rfl (fun u_5 hu_5 H locs hz_5 hP hD hS => ?_)
        generalize u_5 = F2_5 at *
        try dsimp only at hu_5
        have hP : va_P G.1 vwCl ([(b0, .inl (G.2.1 1, 5, .inr (.inl (aL Bk)))), (j0, .inl (G.2.1 1, 13, .inr (.inl (aL Jd)))), (h0, .inr (1, [.ref c0, .ref b0, .ref j0, .long (lI ((3000 : Int) ^ n.toNat)), .int (iI (if kd = 4 then 4 * n else n))])), (c0, .inl (G.2.1 1, 13, .inr (.inl (aL F2_5))))]) H := hP
        have hD : va_D A ([(b0, .inl (G.2.1 1, 5, .inr (.inl (aL Bk)))), (j0, .inl (G.2.1 1, 13, .inr (.inl (aL Jd)))), (h0, .inr (1, [.ref c0, .ref b0, .ref j0, .long (lI ((3000 : Int) ^ n.toNat)), .int (iI (if kd = 4 then 4 * n else n))])), (c0, .inl (G.2.1 1, 13, .inr (.inl (aL F2_5))))]) := hD
        have hz9 := hu_5
        refine lv_goto (tgt := 120) hx hb dX0_fill_95 (by decide) ?_
        have hwe : ([(h0, .inr (1, [.ref c0, .ref b0, .ref j0, .long (lI ((3000 : Int) ^ n.toNat)), .int (iI (if kd = 4 then 4 * n else n))])), (c0, .inl (G.2.1 1, 13, .inr (.inl (aL F2_5)))), (b0, .inl (G.2.1 1, 5, .inr (.inl (aL Bk)))), (j0, .inl (G.2.1 1, 13, .inr (.inl (aL Jd))))] : va_W) = [(h0, .inr (1, [.ref c0, .ref b0, .ref j0, .long (lI (alZ kd n)), .int (iI (moZ kd n))])), (c0, .inl (G.2.1 1, 13, .inr (.inl (aL F2_5)))), (b0, .inl (G.2.1 1, 5, .inr (.inl (aL Bk)))), (j0, .inl (G.2.1 1, 13, .inr (.inl (aL Jd))))] := by rw [show alZ kd n = 3000 ^ n.toNat from by unfold alZ; rw [if_neg (by omega), if_neg (by omega), if_pos sw_2_3]]; rfl
        have hP9 : va_P G.1 vwCl ([(h0, .inr (1, [.ref c0, .ref b0, .ref j0, .long (lI (alZ kd n)), .int (iI (moZ kd n))])), (c0, .inl (G.2.1 1, 13, .inr (.inl (aL F2_5)))), (b0, .inl (G.2.1 1, 5, .inr (.inl (aL Bk)))), (j0, .inl (G.2.1 1, 13, .inr (.inl (aL Jd))))]) H := hwe ▸ (hP.sub [2, 3, 0, 1] rfl)
        have hD9 : va_D A ([(h0, .inr (1, [.ref c0, .ref b0, .ref j0, .long (lI (alZ kd n)), .int (iI (moZ kd n))])), (c0, .inl (G.2.1 1, 13, .inr (.inl (aL F2_5)))), (b0, .inl (G.2.1 1, 5, .inr (.inl (aL Bk)))), (j0, .inl (G.2.1 1, 13, .inr (.inl (aL Jd))))]) := hwe ▸ (hD.sub [2, 3, 0, 1] (by decide) rfl)
        exact rtWv hx hb hr hlocks dX0_fill_120 (F2_5, Bk, Jd) (show ∀ j : Nat, j < 13 → F2_5 j = csZ kd n k a j from (fun j hj => by unfold csZ; rw [if_neg (by omega), if_neg (by omega), if_pos sw_2_3]; rw [hz9 j hj, hu5 j hj])) hP9 hD9 hS
      · skip
        by_cases sw_2_4 : kd = 4
        · refine lv_tableIn (off := 80) (tgt := 98) hx hb dX0_fill_18 (by rw [sw_2_4]; decide) (by rw [sw_2_4]; decide) (by rw [sw_2_4]; decide) (by decide) ?_
          refine lv_aload_n hx hb dX0_fill_98 rfl (lv_at hl 0 rfl) ?_
          refine lv_iload_n hx hb dX0_fill_99 rfl (lv_at hl 2 rfl) ?_
          refine lv_iload_n hx hb dX0_fill_100 rfl (lv_at hl 3 rfl) ?_
          refine lv_iload hx hb dX0_fill_101 (lv_at hl 4 rfl) ?_
          refine cWVv0 (As := [.int (iI n), .int (iI k), .int (iI a)]) (rest := []) (wr0 := []) ⟨hx, hb, hml, hown, hts⟩ (c_X0_fillBlocks l G h0 c0 b0 j0 F2_1 Bk Jd al (if kd = 4 then 4 * n else n) n k a H.size (by omega) (by omega) (by omega) (by exact hu5)) (cwV 3 hts gX0_fill_X0_fillBlocks rfl rfl rfl (by decide +kernel) ⟨Nat.le_of_ble_eq_true rfl, Nat.le_of_ble_eq_true rfl⟩) rfl hl.1 rfl (Nat.le_of_ble_eq_true rfl) dX0_fill_103 ⟨Nat.le_of_ble_eq_true rfl, Nat.le_of_ble_eq_true rfl⟩ hP hD hK hT hN hS hA [0, 3, 1, 2] [] rfl rfl (by decide) (by decide) (by decide) (ci := 1) rfl rfl (fun u_6 hu_6 H locs hz_6 hP hD hS => ?_)
          obtain ⟨F2_6, B2_6, J2_6⟩ := u_6
          try dsimp only at hu_6
          have hP : va_P G.1 vwCl ([(h0, .inr (1, [.ref c0, .ref b0, .ref j0, .long (lI ((10 ^ 4 * evenT 4) ^ n.toNat)), .int (iI (if kd = 4 then 4 * n else n))])), (c0, .inl (G.2.1 1, 13, .inr (.inl (aL F2_6)))), (b0, .inl (G.2.1 1, 5, .inr (.inl (aL B2_6)))), (j0, .inl (G.2.1 1, 13, .inr (.inl (aL J2_6))))]) H := hP
          have hD : va_D A ([(h0, .inr (1, [.ref c0, .ref b0, .ref j0, .long (lI ((10 ^ 4 * evenT 4) ^ n.toNat)), .int (iI (if kd = 4 then 4 * n else n))])), (c0, .inl (G.2.1 1, 13, .inr (.inl (aL F2_6)))), (b0, .inl (G.2.1 1, 5, .inr (.inl (aL B2_6)))), (j0, .inl (G.2.1 1, 13, .inr (.inl (aL J2_6))))]) := hD
          have hz9 := hu_6
          refine lv_goto (tgt := 120) hx hb dX0_fill_106 (by decide) ?_
          have hwe : ([(h0, .inr (1, [.ref c0, .ref b0, .ref j0, .long (lI ((10 ^ 4 * evenT 4) ^ n.toNat)), .int (iI (if kd = 4 then 4 * n else n))])), (c0, .inl (G.2.1 1, 13, .inr (.inl (aL F2_6)))), (b0, .inl (G.2.1 1, 5, .inr (.inl (aL B2_6)))), (j0, .inl (G.2.1 1, 13, .inr (.inl (aL J2_6))))] : va_W) = [(h0, .inr (1, [.ref c0, .ref b0, .ref j0, .long (lI (alZ kd n)), .int (iI (moZ kd n))])), (c0, .inl (G.2.1 1, 13, .inr (.inl (aL F2_6)))), (b0, .inl (G.2.1 1, 5, .inr (.inl (aL B2_6)))), (j0, .inl (G.2.1 1, 13, .inr (.inl (aL J2_6))))] := by rw [show alZ kd n = (10 ^ 4 * evenT 4) ^ n.toNat from by unfold alZ; rw [if_neg (by omega), if_neg (by omega), if_neg (by omega), if_pos sw_2_4]]; rfl
          have hP9 : va_P G.1 vwCl ([(h0, .inr (1, [.ref c0, .ref b0, .ref j0, .long (lI (alZ kd n)), .int (iI (moZ kd n))])), (c0, .inl (G.2.1 1, 13, .inr (.inl (aL F2_6)))), (b0, .inl (G.2.1 1, 5, .inr (.inl (aL B2_6)))), (j0, .inl (G.2.1 1, 13, .inr (.inl (aL J2_6))))]) H := hwe ▸ hP
          have hD9 : va_D A ([(h0, .inr (1, [.ref c0, .ref b0, .ref j0, .long (lI (alZ kd n)), .int (iI (moZ kd n))])), (c0, .inl (G.2.1 1, 13, .inr (.inl (aL F2_6)))), (b0, .inl (G.2.1 1, 5, .inr (.inl (aL B2_6)))), (j0, .inl (G.2.1 1, 13, .inr (.inl (aL J2_6))))]) := hwe ▸ hD
          exact rtWv hx hb hr hlocks dX0_fill_120 (F2_6, B2_6, J2_6) (show ∀ j : Nat, j < 13 → F2_6 j = csZ kd n k a j from (fun j hj => by unfold csZ; rw [if_neg (by omega), if_neg (by omega), if_neg (by omega), if_pos sw_2_4]; exact hz9 j hj)) hP9 hD9 hS
        · skip
          refine lv_tableOut (tgt := 109) hx hb dX0_fill_18 (by rw [iI_T (by omega)]; omega) (by decide) ?_
          refine lv_aload_n hx hb dX0_fill_109 rfl (lv_at hl 0 rfl) ?_
          refine lv_iload_n hx hb dX0_fill_110 rfl (lv_at hl 2 rfl) ?_
          refine lv_iload hx hb dX0_fill_111 (lv_at hl 4 rfl) ?_
          refine w_i2l hx hb dX0_fill_113 (by omega) ?_
          refine lv_ldc2 (v := lI 10) hx hb hown (show (Jvm.Cond.constantLong RX0 62 (lI 10)).before args s = true from (by rw [show (lI 10) = (10 : Int64) from by decide]; exact (hts (.constantLong RX0 62 (10)) (by decide +kernel)))) dX0_fill_114 ?_
          refine cWVv0 (As := [.int (iI n), .long (lI a), .long (lI 10)]) (rest := []) (wr0 := [(b0, .inl (G.2.1 1, 5, .inr (.inl (aL Bk)))), (j0, .inl (G.2.1 1, 13, .inr (.inl (aL Jd))))]) ⟨hx, hb, hml, hown, hts⟩ (c_X0_fillEach l G h0 c0 b0 j0 F2_1 al (if kd = 4 then 4 * n else n) n a 10 H.size (by omega)) (cwV 3 hts gX0_fill_X0_fillEach rfl rfl rfl (by decide +kernel) ⟨Nat.le_of_ble_eq_true rfl, Nat.le_of_ble_eq_true rfl⟩) rfl hl.1 rfl (Nat.le_of_ble_eq_true rfl) dX0_fill_117 ⟨Nat.le_of_ble_eq_true rfl, Nat.le_of_ble_eq_true rfl⟩ hP hD hK hT hN hS hA [0, 3] [1, 2] rfl rfl (by decide) (by decide) (by decide) (ci := 1) rfl rfl (fun u_7 hu_7 H locs hz_7 hP hD hS => ?_)
          generalize u_7 = F2_7 at *
          try dsimp only at hu_7
          have hP : va_P G.1 vwCl ([(b0, .inl (G.2.1 1, 5, .inr (.inl (aL Bk)))), (j0, .inl (G.2.1 1, 13, .inr (.inl (aL Jd)))), (h0, .inr (1, [.ref c0, .ref b0, .ref j0, .long (lI ((10 : Int) ^ n.toNat)), .int (iI (if kd = 4 then 4 * n else n))])), (c0, .inl (G.2.1 1, 13, .inr (.inl (aL F2_7))))]) H := hP
          have hD : va_D A ([(b0, .inl (G.2.1 1, 5, .inr (.inl (aL Bk)))), (j0, .inl (G.2.1 1, 13, .inr (.inl (aL Jd)))), (h0, .inr (1, [.ref c0, .ref b0, .ref j0, .long (lI ((10 : Int) ^ n.toNat)), .int (iI (if kd = 4 then 4 * n else n))])), (c0, .inl (G.2.1 1, 13, .inr (.inl (aL F2_7))))]) := hD
          have hz9 := hu_7
          have hwe : ([(h0, .inr (1, [.ref c0, .ref b0, .ref j0, .long (lI ((10 : Int) ^ n.toNat)), .int (iI (if kd = 4 then 4 * n else n))])), (c0, .inl (G.2.1 1, 13, .inr (.inl (aL F2_7)))), (b0, .inl (G.2.1 1, 5, .inr (.inl (aL Bk)))), (j0, .inl (G.2.1 1, 13, .inr (.inl (aL Jd))))] : va_W) = [(h0, .inr (1, [.ref c0, .ref b0, .ref j0, .long (lI (alZ kd n)), .int (iI (moZ kd n))])), (c0, .inl (G.2.1 1, 13, .inr (.inl (aL F2_7)))), (b0, .inl (G.2.1 1, 5, .inr (.inl (aL Bk)))), (j0, .inl (G.2.1 1, 13, .inr (.inl (aL Jd))))] := by rw [show alZ kd n = 10 ^ n.toNat from by unfold alZ; rw [if_neg (by omega), if_neg (by omega), if_neg (by omega), if_neg (by omega)]]; rfl
          have hP9 : va_P G.1 vwCl ([(h0, .inr (1, [.ref c0, .ref b0, .ref j0, .long (lI (alZ kd n)), .int (iI (moZ kd n))])), (c0, .inl (G.2.1 1, 13, .inr (.inl (aL F2_7)))), (b0, .inl (G.2.1 1, 5, .inr (.inl (aL Bk)))), (j0, .inl (G.2.1 1, 13, .inr (.inl (aL Jd))))]) H := hwe ▸ (hP.sub [2, 3, 0, 1] rfl)
          have hD9 : va_D A ([(h0, .inr (1, [.ref c0, .ref b0, .ref j0, .long (lI (alZ kd n)), .int (iI (moZ kd n))])), (c0, .inl (G.2.1 1, 13, .inr (.inl (aL F2_7)))), (b0, .inl (G.2.1 1, 5, .inr (.inl (aL Bk)))), (j0, .inl (G.2.1 1, 13, .inr (.inl (aL Jd))))]) := hwe ▸ (hD.sub [2, 3, 0, 1] (by decide) rfl)
          exact rtWv hx hb hr hlocks dX0_fill_120 (F2_7, Bk, Jd) (show ∀ j : Nat, j < 13 → F2_7 j = csZ kd n k a j from (fun j hj => by unfold csZ; rw [if_neg (by omega), if_neg (by omega), if_neg (by omega), if_neg (by omega)]; rw [hz9 j hj, hu5 j hj])) hP9 hD9 hS
