abbrev rm_c_J6_bitCount_0f7a4 : Room := { frames := 0, cells := 0, slots := 0, locals := 0 }
set_option maxHeartbeats 4000000 in
set_option maxRecDepth 100000 in
theorem c_J6_bitCount_0f7a4 (l : Launch) (G : Gx) (x : Int) (hx0 : 0 ≤ x ∧ x < 8192) : Met l yJ6_bitCount_0f7a4 wsJ6_bitCount_0f7a4 rm_c_J6_bitCount_0f7a4 (va_Pc [.int (iI x)] (rd G ([]))) (vp_Si (fun rv => rv = (iI (pcZ x)))) 0 0 (fun _ => False) := by
  refine enR (cc := cJ6_bitCount_0f7a4) (maxL := 1) (ret := (some .int)) (C := RJ6) [(0, .int (iI x))] (by decide) rfl rfl (Nat.le_of_ble_eq_true rfl) rfl ?_
  intro p e s m args below meth c ls hx hb hr hml hown hts hlocks hP hK hT hN hl
  have hS : va_S (fun _ => False) s.heap s.heap [] := va_S.rf
  show W p l e rm_c_J6_bitCount_0f7a4 s m args below meth c s.heap [] 0 0 _ (F0 m 0 ls [])
  refine lv_iload_n hx hb dJ6_bitCount_0f7a4_0 rfl (lv_at hl 0 rfl) ?_
  refine lv_iload_n hx hb dJ6_bitCount_0f7a4_1 rfl (lv_at hl 0 rfl) ?_
  refine lv_iconst (v := iI 1) hx hb dJ6_bitCount_0f7a4_2 rfl ?_
  refine lv_iushr hx hb dJ6_bitCount_0f7a4_3 rfl ?_
  refine lv_ldcw (v := iI 1431655765) hx hb hown (show (Jvm.Cond.constant RJ6 265 (iI 1431655765)).before args s = true from (by rw [show (iI 1431655765) = (1431655765 : Int32) from by decide]; exact (hts (.constant RJ6 265 (1431655765)) (by decide +kernel)))) dJ6_bitCount_0f7a4_4 ?_
  refine lv_iand hx hb dJ6_bitCount_0f7a4_7 ?_
  refine lv_isub hx hb dJ6_bitCount_0f7a4_8 ?_
  refine W.eq (g2 := F0 m 9 ls [.int (bc1 (iI x))]) (by first | rfl | (rw [show (.int ((iI x) - ((((iI x).toUInt32 >>> ((iI 1).toUInt32 &&& Int32.toUInt32 31)).toInt32) &&& (iI 1431655765))) : Value) = .int (bc1 (iI x)) from by rfl])) ?_
  refine lv_istore_n (lv' := [(0, .int (bc1 (iI x)))]) hx hb dJ6_bitCount_0f7a4_9 rfl hl (by decide) rfl (fun ls hl => ?_)
  refine lv_iload_n hx hb dJ6_bitCount_0f7a4_10 rfl (lv_at hl 0 rfl) ?_
  refine lv_ldcw (v := iI 858993459) hx hb hown (show (Jvm.Cond.constant RJ6 266 (iI 858993459)).before args s = true from (by rw [show (iI 858993459) = (858993459 : Int32) from by decide]; exact (hts (.constant RJ6 266 (858993459)) (by decide +kernel)))) dJ6_bitCount_0f7a4_11 ?_
  refine lv_iand hx hb dJ6_bitCount_0f7a4_14 ?_
  refine lv_iload_n hx hb dJ6_bitCount_0f7a4_15 rfl (lv_at hl 0 rfl) ?_
  refine lv_iconst (v := iI 2) hx hb dJ6_bitCount_0f7a4_16 rfl ?_
  refine lv_iushr hx hb dJ6_bitCount_0f7a4_17 rfl ?_
  refine lv_ldcw (v := iI 858993459) hx hb hown (show (Jvm.Cond.constant RJ6 266 (iI 858993459)).before args s = true from (by rw [show (iI 858993459) = (858993459 : Int32) from by decide]; exact (hts (.constant RJ6 266 (858993459)) (by decide +kernel)))) dJ6_bitCount_0f7a4_18 ?_
  refine lv_iand hx hb dJ6_bitCount_0f7a4_21 ?_
  refine lv_iadd hx hb dJ6_bitCount_0f7a4_22 ?_
  refine W.eq (g2 := F0 m 23 ls [.int (bc2 (bc1 (iI x)))]) (by first | rfl | (rw [show (.int (((bc1 (iI x)) &&& (iI 858993459)) + ((((bc1 (iI x)).toUInt32 >>> ((iI 2).toUInt32 &&& Int32.toUInt32 31)).toInt32) &&& (iI 858993459))) : Value) = .int (bc2 (bc1 (iI x))) from by rfl])) ?_
  refine lv_istore_n (lv' := [(0, .int (bc2 (bc1 (iI x))))]) hx hb dJ6_bitCount_0f7a4_23 rfl hl (by decide) rfl (fun ls hl => ?_)
  refine lv_iload_n hx hb dJ6_bitCount_0f7a4_24 rfl (lv_at hl 0 rfl) ?_
  refine lv_iload_n hx hb dJ6_bitCount_0f7a4_25 rfl (lv_at hl 0 rfl) ?_
  refine lv_iconst (v := iI 4) hx hb dJ6_bitCount_0f7a4_26 rfl ?_
  refine lv_iushr hx hb dJ6_bitCount_0f7a4_27 rfl ?_
  refine lv_iadd hx hb dJ6_bitCount_0f7a4_28 ?_
  refine lv_ldcw (v := iI 252645135) hx hb hown (show (Jvm.Cond.constant RJ6 267 (iI 252645135)).before args s = true from (by rw [show (iI 252645135) = (252645135 : Int32) from by decide]; exact (hts (.constant RJ6 267 (252645135)) (by decide +kernel)))) dJ6_bitCount_0f7a4_29 ?_
  refine lv_iand hx hb dJ6_bitCount_0f7a4_32 ?_
  refine W.eq (g2 := F0 m 33 ls [.int (bc3 (bc2 (bc1 (iI x))))]) (by first | rfl | (rw [show (.int (((bc2 (bc1 (iI x))) + (((bc2 (bc1 (iI x))).toUInt32 >>> ((iI 4).toUInt32 &&& Int32.toUInt32 31)).toInt32)) &&& (iI 252645135)) : Value) = .int (bc3 (bc2 (bc1 (iI x)))) from by rfl])) ?_
  refine lv_istore_n (lv' := [(0, .int (bc3 (bc2 (bc1 (iI x)))))]) hx hb dJ6_bitCount_0f7a4_33 rfl hl (by decide) rfl (fun ls hl => ?_)
  refine lv_iload_n hx hb dJ6_bitCount_0f7a4_34 rfl (lv_at hl 0 rfl) ?_
  refine lv_iload_n hx hb dJ6_bitCount_0f7a4_35 rfl (lv_at hl 0 rfl) ?_
  refine lv_bipush (v := iI 8) hx hb dJ6_bitCount_0f7a4_36 (by decide) ?_
  refine lv_iushr hx hb dJ6_bitCount_0f7a4_38 rfl ?_
  refine lv_iadd hx hb dJ6_bitCount_0f7a4_39 ?_
  refine W.eq (g2 := F0 m 40 ls [.int (bc4 (bc3 (bc2 (bc1 (iI x)))))]) (by first | rfl | (rw [show (.int ((bc3 (bc2 (bc1 (iI x)))) + (((bc3 (bc2 (bc1 (iI x)))).toUInt32 >>> ((iI 8).toUInt32 &&& Int32.toUInt32 31)).toInt32)) : Value) = .int (bc4 (bc3 (bc2 (bc1 (iI x))))) from by rfl])) ?_
  refine lv_istore_n (lv' := [(0, .int (bc4 (bc3 (bc2 (bc1 (iI x))))))]) hx hb dJ6_bitCount_0f7a4_40 rfl hl (by decide) rfl (fun ls hl => ?_)
  refine lv_iload_n hx hb dJ6_bitCount_0f7a4_41 rfl (lv_at hl 0 rfl) ?_
  refine lv_iload_n hx hb dJ6_bitCount_0f7a4_42 rfl (lv_at hl 0 rfl) ?_
  refine lv_bipush (v := iI 16) hx hb dJ6_bitCount_0f7a4_43 (by decide) ?_
  refine lv_iushr hx hb dJ6_bitCount_0f7a4_45 rfl ?_
  refine lv_iadd hx hb dJ6_bitCount_0f7a4_46 ?_
  refine W.eq (g2 := F0 m 47 ls [.int (bc5 (bc4 (bc3 (bc2 (bc1 (iI x))))))]) (by first | rfl | (rw [show (.int ((bc4 (bc3 (bc2 (bc1 (iI x))))) + (((bc4 (bc3 (bc2 (bc1 (iI x))))).toUInt32 >>> ((iI 16).toUInt32 &&& Int32.toUInt32 31)).toInt32)) : Value) = .int (bc5 (bc4 (bc3 (bc2 (bc1 (iI x)))))) from by rfl])) ?_
  refine lv_istore_n (lv' := [(0, .int (bc5 (bc4 (bc3 (bc2 (bc1 (iI x)))))))]) hx hb dJ6_bitCount_0f7a4_47 rfl hl (by decide) rfl (fun ls hl => ?_)
  refine lv_iload_n hx hb dJ6_bitCount_0f7a4_48 rfl (lv_at hl 0 rfl) ?_
  refine lv_bipush (v := iI 63) hx hb dJ6_bitCount_0f7a4_49 (by decide) ?_
  refine lv_iand hx hb dJ6_bitCount_0f7a4_51 ?_
  exact rtRi hx hb hr hlocks dJ6_bitCount_0f7a4_52 (bc_ok hx0)
abbrev rm_c_X5_places : Room := { frames := 0, cells := 0, slots := 0, locals := 0 }
set_option maxHeartbeats 4000000 in
set_option maxRecDepth 100000 in
theorem c_X5_places (l : Launch) (G : Gx) (n : Int) (st : Int) (hn : 0 ≤ n ∧ n ≤ 12) (hst : 0 ≤ st ∧ st < 8192) : Met l yX5_places wsX5_places rm_c_X5_places (va_Pc [.int (iI n), .int (iI st)] (rd G ([]))) (vp_Si (fun rv => rv = (iI (plS st n.toNat)))) 0 0 (fun _ => False) := by
  refine enR (cc := cX5_places) (maxL := 4) (ret := (some .int)) (C := RX5) [(0, .int (iI n)), (1, .int (iI st))] (by decide) rfl rfl (Nat.le_of_ble_eq_true rfl) rfl ?_
  intro p e s m args below meth c ls hx hb hr hml hown hts hlocks hP hK hT hN hl
  have hS : va_S (fun _ => False) s.heap s.heap [] := va_S.rf
  show W p l e rm_c_X5_places s m args below meth c s.heap [] 0 0 _ (F0 m 0 ls [])
  refine lv_iconst (v := iI 0) hx hb dX5_places_0 rfl ?_
  refine lv_istore_n (lv' := [(2, .int (iI 0)), (0, .int (iI n)), (1, .int (iI st))]) hx hb dX5_places_1 rfl hl (by decide) rfl (fun ls hl => ?_)
  refine lv_iconst (v := iI 0) hx hb dX5_places_2 rfl ?_
  refine lv_istore_n (lv' := [(3, .int (iI 0)), (2, .int (iI 0)), (0, .int (iI n)), (1, .int (iI st))]) hx hb dX5_places_3 rfl hl (by decide) rfl (fun ls hl => ?_)
  have lp_4 : ∀ (μ4 : Nat) (i : Int) (sm : Int) (hi : 0 ≤ i ∧ i ≤ n) (hs : sm = plS st i.toNat) (hμ4 : (n - i).toNat < μ4) (ls : Array Slot) (hl : lv_has ls 4 [(3, .int (iI i)), (2, .int (iI sm)), (0, .int (iI n)), (1, .int (iI st))]), W p l e rm_c_X5_places s m args below meth c s.heap [] 0 0 (MQ below (vp_Si (fun rv => rv = (iI (plS st n.toNat)))) args s 0 0 (fun _ => False)) (F0 m 4 ls []) := by
    intro μ4
    induction μ4 with
    | zero => intro i sm hi hs hμ4; exact absurd hμ4 (Nat.not_lt_zero _)
    | succ μ4 ih4 =>
      intro i sm hi hs hμ4 ls hl
      refine lv_iload_n hx hb dX5_places_4 rfl (lv_at hl 0 rfl) ?_
      refine lv_iload_n hx hb dX5_places_5 rfl (lv_at hl 2 rfl) ?_
      refine w_icmp_ge (tgt := 28) hx hb dX5_places_6 (by decide) (by omega) (by omega) (fun c_6_1 => ?_) (fun c_6_1 => ?_)
      · refine lv_iload_n hx hb dX5_places_28 rfl (lv_at hl 1 rfl) ?_
        exact rtRi hx hb hr hlocks dX5_places_29 (congrArg iI (by rw [hs, show i = n from by omega]))
      · refine lv_iload_n hx hb dX5_places_9 rfl (lv_at hl 3 rfl) ?_
        refine lv_iload_n hx hb dX5_places_10 rfl (lv_at hl 0 rfl) ?_
        refine lv_ishr hx hb dX5_places_11 ?_
        refine lv_iconst (v := iI 1) hx hb dX5_places_12 rfl ?_
        refine lv_iand hx hb dX5_places_13 ?_
        refine W.eq (g2 := F0 m 14 ls [.int (iI (bitZ st i))]) (by first | rfl | (rw [show (.int (((iI st) >>> ((iI i) &&& 31)) &&& (iI 1)) : Value) = .int (iI (bitZ st i)) from by exact congrArg Value.int (bit_sh (by omega) (by omega))])) ?_
        refine lv_iconst (v := iI 1) hx hb dX5_places_14 rfl ?_
        refine w_icmp_ne (tgt := 22) hx hb dX5_places_15 (by decide) (by have := bitZ_01 st i; omega) (by decide) (fun c_15_2 => ?_) (fun c_15_2 => ?_)
        · refine w_iinc (k := 0) (lv' := [(3, .int (iI (i + 1))), (2, .int (iI sm)), (0, .int (iI n)), (1, .int (iI st))]) hx hb dX5_places_22 hl rfl (by decide) rfl (fun ls hl => ?_)
          refine lv_goto (tgt := 4) hx hb dX5_places_25 (by decide) ?_
          exact ih4 (i + 1) sm (by omega) (by rw [hs, show (i + 1).toNat = i.toNat + 1 from by omega]; show _ = plS st i.toNat + (if bitZ st (i.toNat : Int) = 1 then ((i.toNat : Nat) : Int) else 0); rw [show ((i.toNat : Nat) : Int) = i from by omega, if_neg (by omega)]; omega) (by omega) _ (lv_sub hl [0, 1, 2, 3] rfl)
        · refine lv_iload_n hx hb dX5_places_18 rfl (lv_at hl 1 rfl) ?_
          refine lv_iload_n hx hb dX5_places_19 rfl (lv_at hl 0 rfl) ?_
          refine w_iadd hx hb dX5_places_20 ?_
          refine lv_istore_n (lv' := [(2, .int (iI (sm + i))), (3, .int (iI i)), (0, .int (iI n)), (1, .int (iI st))]) hx hb dX5_places_21 rfl hl (by decide) rfl (fun ls hl => ?_)
          refine w_iinc (k := 1) (lv' := [(3, .int (iI (i + 1))), (2, .int (iI (sm + i))), (0, .int (iI n)), (1, .int (iI st))]) hx hb dX5_places_22 hl rfl (by decide) rfl (fun ls hl => ?_)
          refine lv_goto (tgt := 4) hx hb dX5_places_25 (by decide) ?_
          exact ih4 (i + 1) (sm + i) (by omega) (by rw [hs, show (i + 1).toNat = i.toNat + 1 from by omega]; show _ = plS st i.toNat + (if bitZ st (i.toNat : Int) = 1 then ((i.toNat : Nat) : Int) else 0); rw [show ((i.toNat : Nat) : Int) = i from by omega, if_pos (by omega)]) (by omega) _ (lv_sub hl [0, 1, 2, 3] rfl)
  exact lp_4 ((n - (0 : Int)).toNat + 1) 0 0 (by omega) (by rfl) (Nat.lt_succ_self _) _ (lv_sub hl [0, 1, 2, 3] rfl)
abbrev rm_c_X5_numberOf : Room := { frames := 1, cells := 0, slots := 0, locals := 22 }
set_option maxHeartbeats 4000000 in
set_option maxRecDepth 100000 in
theorem c_X5_numberOf (l : Launch) (G : Gx) (n : Int) (st : Int) (hn : 0 ≤ n ∧ n ≤ 12) (hst : 0 ≤ st ∧ st < 8192) : Met l yX5_numberOf wsX5_numberOf rm_c_X5_numberOf (va_Pc [.int (iI n), .int (iI st)] (rd G ([]))) (vp_Si (fun rv => rv = (iI ((nuS st n.toNat).2)))) 0 0 (fun _ => False) := by
  refine enR (cc := cX5_numberOf) (maxL := 6) (ret := (some .int)) (C := RX5) [(0, .int (iI n)), (1, .int (iI st))] (by decide) rfl rfl (Nat.le_of_ble_eq_true rfl) rfl ?_
  intro p e s m args below meth c ls hx hb hr hml hown hts hlocks hP hK hT hN hl
  have hS : va_S (fun _ => False) s.heap s.heap [] := va_S.rf
  show W p l e rm_c_X5_numberOf s m args below meth c s.heap [] 0 0 _ (F0 m 0 ls [])
  refine lv_lconst (v := lI 0) hx hb dX5_numberOf_0 (by decide) ?_
  refine lv_lstore_n (lv' := [(2, .long (lI 0)), (0, .int (iI n)), (1, .int (iI st))]) hx hb dX5_numberOf_1 rfl hl (by decide) rfl (fun ls hl => ?_)
  refine lv_iconst (v := iI 0) hx hb dX5_numberOf_2 rfl ?_
  refine lv_istore (lv' := [(4, .int (iI 0)), (2, .long (lI 0)), (0, .int (iI n)), (1, .int (iI st))]) hx hb dX5_numberOf_3 hl (by decide) rfl (fun ls hl => ?_)
  refine lv_iconst (v := iI 0) hx hb dX5_numberOf_5 rfl ?_
  refine lv_istore (lv' := [(5, .int (iI 0)), (4, .int (iI 0)), (2, .long (lI 0)), (0, .int (iI n)), (1, .int (iI st))]) hx hb dX5_numberOf_6 hl (by decide) rfl (fun ls hl => ?_)
  have lp_8 : ∀ (μ8 : Nat) (i : Int) (sm : Int) (hd : Int) (hi : 0 ≤ i ∧ i ≤ n) (hs : sm = (nuS st i.toNat).2) (hh : hd = (nuS st i.toNat).1) (hμ8 : (n - i).toNat < μ8) (ls : Array Slot) (hl : lv_has ls 6 [(5, .int (iI i)), (4, .int (iI hd)), (2, .long (lI sm)), (0, .int (iI n)), (1, .int (iI st))]), W p l e rm_c_X5_numberOf s m args below meth c s.heap [] 0 0 (MQ below (vp_Si (fun rv => rv = (iI ((nuS st n.toNat).2)))) args s 0 0 (fun _ => False)) (F0 m 8 ls []) := by
    intro μ8
    induction μ8 with
    | zero => intro i sm hd hi hs hh hμ8; exact absurd hμ8 (Nat.not_lt_zero _)
    | succ μ8 ih8 =>
      intro i sm hd hi hs hh hμ8 ls hl
      have hb9 := nuS_b st i.toNat
      refine lv_iload hx hb dX5_numberOf_8 (lv_at hl 0 rfl) ?_
      refine lv_iload_n hx hb dX5_numberOf_10 rfl (lv_at hl 3 rfl) ?_
      refine w_icmp_ge (tgt := 43) hx hb dX5_numberOf_11 (by decide) (by omega) (by omega) (fun c_11_1 => ?_) (fun c_11_1 => ?_)
      · refine lv_lload_n hx hb dX5_numberOf_43 rfl (lv_at hl 2 rfl) ?_
        refine w_l2i hx hb dX5_numberOf_44 ?_
        exact rtRi hx hb hr hlocks dX5_numberOf_45 (congrArg iI (by rw [hs, show i = n from by omega]))
      · refine lv_iload_n hx hb dX5_numberOf_14 rfl (lv_at hl 4 rfl) ?_
        refine lv_iload hx hb dX5_numberOf_15 (lv_at hl 0 rfl) ?_
        refine lv_ishr hx hb dX5_numberOf_17 ?_
        refine lv_iconst (v := iI 1) hx hb dX5_numberOf_18 rfl ?_
        refine lv_iand hx hb dX5_numberOf_19 ?_
        refine W.eq (g2 := F0 m 20 ls [.int (iI (bitZ st i))]) (by first | rfl | (rw [show (.int (((iI st) >>> ((iI i) &&& 31)) &&& (iI 1)) : Value) = .int (iI (bitZ st i)) from by exact congrArg Value.int (bit_sh (by omega) (by omega))])) ?_
        refine lv_iconst (v := iI 1) hx hb dX5_numberOf_20 rfl ?_
        refine w_icmp_ne (tgt := 37) hx hb dX5_numberOf_21 (by decide) (by have := bitZ_01 st i; omega) (by decide) (fun c_21_2 => ?_) (fun c_21_2 => ?_)
        · refine w_iinc (k := 0) (lv' := [(5, .int (iI (i + 1))), (4, .int (iI hd)), (2, .long (lI sm)), (0, .int (iI n)), (1, .int (iI st))]) hx hb dX5_numberOf_37 hl rfl (by decide) rfl (fun ls hl => ?_)
          refine lv_goto (tgt := 8) hx hb dX5_numberOf_40 (by decide) ?_
          exact ih8 (i + 1) sm hd (by omega) (by exact nu_s0 hi.1 hs (by omega)) (by exact nu_h0 hi.1 hh (by omega)) (by omega) _ (lv_sub hl [0, 1, 2, 3, 4] rfl)
        · refine w_iinc (k := 1) (lv' := [(4, .int (iI (hd + 1))), (5, .int (iI i)), (2, .long (lI sm)), (0, .int (iI n)), (1, .int (iI st))]) hx hb dX5_numberOf_24 hl rfl (by decide) rfl (fun ls hl => ?_)
          refine lv_lload_n hx hb dX5_numberOf_27 rfl (lv_at hl 2 rfl) ?_
          refine lv_iload hx hb dX5_numberOf_28 (lv_at hl 1 rfl) ?_
          refine lv_iload hx hb dX5_numberOf_30 (lv_at hl 0 rfl) ?_
          refine cRSl (As := [.int (iI i), .int (iI (hd + 1))]) (rest := [.long (lI sm)]) ⟨hx, hb, hml, hown, hts⟩ (c_X2_ways l G i (hd + 1) (by omega)) (va_cwS 2 hts gX5_numberOf_X2_ways rfl rfl rfl (by decide +kernel) ⟨Nat.le_of_ble_eq_true rfl, Nat.le_of_ble_eq_true rfl⟩) rfl hl.1 rfl (Nat.le_of_ble_eq_true rfl) dX5_numberOf_32 ⟨Nat.le_of_ble_eq_true rfl, Nat.le_of_ble_eq_true rfl⟩ va_P_nil hK hT hN hS ?_
          refine w_ladd hx hb dX5_numberOf_35 ?_
          refine lv_lstore_n (lv' := [(2, .long (lI (sm + (wayF i (hd + 1))))), (4, .int (iI (hd + 1))), (5, .int (iI i)), (0, .int (iI n)), (1, .int (iI st))]) hx hb dX5_numberOf_36 rfl hl (by decide) rfl (fun ls hl => ?_)
          refine w_iinc (k := 2) (lv' := [(5, .int (iI (i + 1))), (2, .long (lI (sm + (wayF i (hd + 1))))), (4, .int (iI (hd + 1))), (0, .int (iI n)), (1, .int (iI st))]) hx hb dX5_numberOf_37 hl rfl (by decide) rfl (fun ls hl => ?_)
          refine lv_goto (tgt := 8) hx hb dX5_numberOf_40 (by decide) ?_
          exact ih8 (i + 1) (sm + (wayF i (hd + 1))) (hd + 1) (by omega) (by exact nu_s1 hi.1 hs hh (by omega)) (by exact nu_h1 hi.1 hh (by omega)) (by omega) _ (lv_sub hl [0, 2, 1, 3, 4] rfl)
  exact lp_8 ((n - (0 : Int)).toNat + 1) 0 0 0 (by omega) (by rfl) (by rfl) (Nat.lt_succ_self _) _ (lv_sub hl [0, 1, 2, 3, 4] rfl)
abbrev rm_c_X5_numbered : Room := { frames := 1, cells := 0, slots := 0, locals := 22 }
set_option maxHeartbeats 4000000 in
set_option maxRecDepth 100000 in
theorem c_X5_numbered (l : Launch) (G : Gx) (n : Int) (k : Int) (nm : Int) (hn : 0 ≤ n ∧ n ≤ 12) (hk : 0 ≤ k ∧ k ≤ 12) (hnm : 0 ≤ nm ∧ nm < 100000) : Met l yX5_numbered wsX5_numbered rm_c_X5_numbered (va_Pc [.int (iI n), .int (iI k), .int (iI nm)] (rd G ([]))) (vp_Si (fun rv => rv = (iI (nbS n.toNat 0 k nm)))) 0 0 (fun _ => False) := by
  refine enR (cc := cX5_numbered) (maxL := 10) (ret := (some .int)) (C := RX5) [(0, .int (iI n)), (1, .int (iI k)), (2, .int (iI nm))] (by decide) rfl rfl (Nat.le_of_ble_eq_true rfl) rfl ?_
  intro p e s m args below meth c ls hx hb hr hml hown hts hlocks hP hK hT hN hl
  have hS : va_S (fun _ => False) s.heap s.heap [] := va_S.rf
  show W p l e rm_c_X5_numbered s m args below meth c s.heap [] 0 0 _ (F0 m 0 ls [])
  refine lv_iconst (v := iI 0) hx hb dX5_numbered_0 rfl ?_
  refine lv_istore_n (lv' := [(3, .int (iI 0)), (0, .int (iI n)), (1, .int (iI k)), (2, .int (iI nm))]) hx hb dX5_numbered_1 rfl hl (by decide) rfl (fun ls hl => ?_)
  refine lv_iload_n hx hb dX5_numbered_2 rfl (lv_at hl 2 rfl) ?_
  refine lv_istore (lv' := [(4, .int (iI k)), (3, .int (iI 0)), (0, .int (iI n)), (1, .int (iI k)), (2, .int (iI nm))]) hx hb dX5_numbered_3 hl (by decide) rfl (fun ls hl => ?_)
  refine lv_iload_n hx hb dX5_numbered_5 rfl (lv_at hl 4 rfl) ?_
  refine w_i2l hx hb dX5_numbered_6 (by omega) ?_
  refine lv_lstore (lv' := [(5, .long (lI nm)), (4, .int (iI k)), (3, .int (iI 0)), (0, .int (iI n)), (1, .int (iI k)), (2, .int (iI nm))]) hx hb dX5_numbered_7 hl (by decide) rfl (fun ls hl => ?_)
  refine lv_iload_n hx hb dX5_numbered_9 rfl (lv_at hl 3 rfl) ?_
  refine lv_iconst (v := iI 1) hx hb dX5_numbered_10 rfl ?_
  refine w_isub hx hb dX5_numbered_11 ?_
  refine lv_istore (lv' := [(7, .int (iI (n - 1))), (5, .long (lI nm)), (4, .int (iI k)), (3, .int (iI 0)), (0, .int (iI n)), (1, .int (iI k)), (2, .int (iI nm))]) hx hb dX5_numbered_12 hl (by decide) rfl (fun ls hl => ?_)
  have lp_14 : ∀ (μ14 : Nat) (i : Int) (sv : Int) (lk : Int) (lf : Int) (hi : -1 ≤ i ∧ i < n) (hsv : 0 ≤ sv ∧ sv < 4096) (hlk : 0 ≤ lk ∧ lk ≤ 12) (hlf : 0 ≤ lf ∧ lf < 100000) (hs : nbS n.toNat 0 k nm = nbS (i + 1).toNat sv lk lf) (hμ14 : (i + 1).toNat < μ14) (ls : Array Slot) (hl : lv_has ls 10 [(7, .int (iI i)), (5, .long (lI lf)), (4, .int (iI lk)), (3, .int (iI sv)), (0, .int (iI n)), (1, .int (iI k)), (2, .int (iI nm))]), W p l e rm_c_X5_numbered s m args below meth c s.heap [] 0 0 (MQ below (vp_Si (fun rv => rv = (iI (nbS n.toNat 0 k nm)))) args s 0 0 (fun _ => False)) (F0 m 14 ls []) := by
    intro μ14
    induction μ14 with
    | zero => intro i sv lk lf hi hsv hlk hlf hs hμ14; exact absurd hμ14 (Nat.not_lt_zero _)
    | succ μ14 ih14 =>
      intro i sv lk lf hi hsv hlk hlf hs hμ14 ls hl
      refine lv_iload hx hb dX5_numbered_14 (lv_at hl 0 rfl) ?_
      refine w_if_lt (tgt := 64) hx hb dX5_numbered_16 (by decide) (by omega) (fun c_16_1 => ?_) (fun c_16_1 => ?_)
      · refine lv_iload_n hx hb dX5_numbered_64 rfl (lv_at hl 3 rfl) ?_
        exact rtRi hx hb hr hlocks dX5_numbered_65 (congrArg iI (by rw [hs, show (i + 1).toNat = 0 from by omega]; rfl))
      · refine lv_iload hx hb dX5_numbered_19 (lv_at hl 0 rfl) ?_
        refine lv_iload hx hb dX5_numbered_21 (lv_at hl 2 rfl) ?_
        refine cRSl (As := [.int (iI i), .int (iI lk)]) (rest := []) ⟨hx, hb, hml, hown, hts⟩ (c_X2_ways l G i lk (by omega)) (va_cwS 2 hts gX5_numbered_X2_ways rfl rfl rfl (by decide +kernel) ⟨Nat.le_of_ble_eq_true rfl, Nat.le_of_ble_eq_true rfl⟩) rfl hl.1 rfl (Nat.le_of_ble_eq_true rfl) dX5_numbered_23 ⟨Nat.le_of_ble_eq_true rfl, Nat.le_of_ble_eq_true rfl⟩ va_P_nil hK hT hN hS ?_
        refine lv_lstore (lv' := [(8, .long (lI (wayF i lk))), (7, .int (iI i)), (5, .long (lI lf)), (4, .int (iI lk)), (3, .int (iI sv)), (0, .int (iI n)), (1, .int (iI k)), (2, .int (iI nm))]) hx hb dX5_numbered_26 hl (by decide) rfl (fun ls hl => ?_)
        refine lv_iload hx hb dX5_numbered_28 (lv_at hl 3 rfl) ?_
        refine w_if_le (tgt := 58) hx hb dX5_numbered_30 (by decide) (by omega) (fun c_30_2 => ?_) (fun c_30_2 => ?_)
        · refine w_iinc (k := 1) (lv' := [(7, .int (iI (i + (-1)))), (8, .long (lI (wayF i lk))), (5, .long (lI lf)), (4, .int (iI lk)), (3, .int (iI sv)), (0, .int (iI n)), (1, .int (iI k)), (2, .int (iI nm))]) hx hb dX5_numbered_58 hl rfl (by decide) rfl (fun ls hl => ?_)
          refine lv_goto (tgt := 14) hx hb dX5_numbered_61 (by decide) ?_
          exact ih14 (i + (-1)) sv lk lf (by omega) (by exact hsv) (by omega) (by have := wayF_b i lk; omega) (by exact nb_0 (by omega) hs (by omega)) (by omega) _ (lv_sub hl [0, 2, 3, 4, 5, 6, 7] rfl)
        · refine lv_lload hx hb dX5_numbered_33 (lv_at hl 2 rfl) ?_
          refine lv_lload hx hb dX5_numbered_35 (lv_at hl 0 rfl) ?_
          refine w_lc_lt (tgt := 58) hx hb dX5_numbered_37 dX5_numbered_38 (by decide) (by have := wayF_b i lk; omega) (by have := wayF_b i lk; omega) (fun c_37_3 => ?_) (fun c_37_3 => ?_)
          · refine w_iinc (k := 1) (lv' := [(7, .int (iI (i + (-1)))), (8, .long (lI (wayF i lk))), (5, .long (lI lf)), (4, .int (iI lk)), (3, .int (iI sv)), (0, .int (iI n)), (1, .int (iI k)), (2, .int (iI nm))]) hx hb dX5_numbered_58 hl rfl (by decide) rfl (fun ls hl => ?_)
            refine lv_goto (tgt := 14) hx hb dX5_numbered_61 (by decide) ?_
            exact ih14 (i + (-1)) sv lk lf (by omega) (by exact hsv) (by omega) (by have := wayF_b i lk; omega) (by exact nb_0 (by omega) hs (by omega)) (by omega) _ (lv_sub hl [0, 2, 3, 4, 5, 6, 7] rfl)
          · refine lv_iload_n hx hb dX5_numbered_41 rfl (lv_at hl 4 rfl) ?_
            refine lv_iconst (v := iI 1) hx hb dX5_numbered_42 rfl ?_
            refine lv_iload hx hb dX5_numbered_43 (lv_at hl 1 rfl) ?_
            refine lv_ishl hx hb dX5_numbered_45 ?_
            refine W.eq (g2 := F0 m 46 ls [.int (iI (p2 i)), .int (iI sv)]) (by first | rfl | (rw [show (.int ((iI 1) <<< ((iI i) &&& 31)) : Value) = .int (iI (p2 i)) from by exact congrArg Value.int (shl_1 (by omega))])) ?_
            refine lv_ior hx hb dX5_numbered_46 ?_
            refine W.eq (g2 := F0 m 47 ls [.int (iI (orZ sv (p2 i)))]) (by first | rfl | (rw [show (.int ((iI sv) ||| (iI (p2 i))) : Value) = .int (iI (orZ sv (p2 i))) from by exact congrArg Value.int (iI_or (by omega) (by have := p2_b (c := i) 12 (by omega); omega))])) ?_
            refine lv_istore_n (lv' := [(3, .int (iI (orZ sv (p2 i)))), (8, .long (lI (wayF i lk))), (7, .int (iI i)), (5, .long (lI lf)), (4, .int (iI lk)), (0, .int (iI n)), (1, .int (iI k)), (2, .int (iI nm))]) hx hb dX5_numbered_47 rfl hl (by decide) rfl (fun ls hl => ?_)
            refine lv_lload hx hb dX5_numbered_48 (lv_at hl 3 rfl) ?_
            refine lv_lload hx hb dX5_numbered_50 (lv_at hl 1 rfl) ?_
            refine w_lsub hx hb dX5_numbered_52 ?_
            refine lv_lstore (lv' := [(5, .long (lI (lf - (wayF i lk)))), (3, .int (iI (orZ sv (p2 i)))), (8, .long (lI (wayF i lk))), (7, .int (iI i)), (4, .int (iI lk)), (0, .int (iI n)), (1, .int (iI k)), (2, .int (iI nm))]) hx hb dX5_numbered_53 hl (by decide) rfl (fun ls hl => ?_)
            refine w_iinc (k := 4) (lv' := [(4, .int (iI (lk + (-1)))), (5, .long (lI (lf - (wayF i lk)))), (3, .int (iI (orZ sv (p2 i)))), (8, .long (lI (wayF i lk))), (7, .int (iI i)), (0, .int (iI n)), (1, .int (iI k)), (2, .int (iI nm))]) hx hb dX5_numbered_55 hl rfl (by decide) rfl (fun ls hl => ?_)
            refine w_iinc (k := 4) (lv' := [(7, .int (iI (i + (-1)))), (4, .int (iI (lk + (-1)))), (5, .long (lI (lf - (wayF i lk)))), (3, .int (iI (orZ sv (p2 i)))), (8, .long (lI (wayF i lk))), (0, .int (iI n)), (1, .int (iI k)), (2, .int (iI nm))]) hx hb dX5_numbered_58 hl rfl (by decide) rfl (fun ls hl => ?_)
            refine lv_goto (tgt := 14) hx hb dX5_numbered_61 (by decide) ?_
            exact ih14 (i + (-1)) (orZ sv (p2 i)) (lk + (-1)) (lf - (wayF i lk)) (by omega) (by exact or_b (b := p2 i) 12 hsv (by have := p2_b (c := i) 11 (by omega); omega)) (by omega) (by have := wayF_b i lk; omega) (by exact nb_1 (by omega) hs (by omega)) (by omega) _ (lv_sub hl [0, 2, 1, 3, 5, 6, 7] rfl)
  exact lp_14 (((n - 1) + 1).toNat + 1) (n - 1) 0 k nm (by omega) (by omega) (by omega) (by omega) (by rw [show (n - 1 + 1).toNat = n.toNat from by omega]) (Nat.lt_succ_self _) _ (lv_sub hl [0, 1, 2, 3, 4, 5, 6] rfl)
abbrev rm_c_X5_next : Room := { frames := 1, cells := 0, slots := 0, locals := 21 }
set_option maxHeartbeats 4000000 in
set_option maxRecDepth 100000 in
theorem c_X5_next (l : Launch) (G : Gx) (st : Int) (hst : 0 ≤ st ∧ st < 4096) : Met l yX5_next wsX5_next rm_c_X5_next (va_Pc [.int (iI st)] (rd G ([]))) (vp_Si (fun rv => rv = (iI (nxZ st)))) 0 0 (fun _ => False) := by
  refine enR (cc := cX5_next) (maxL := 3) (ret := (some .int)) (C := RX5) [(0, .int (iI st))] (by decide) rfl rfl (Nat.le_of_ble_eq_true rfl) rfl ?_
  intro p e s m args below meth c ls hx hb hr hml hown hts hlocks hP hK hT hN hl
  have hS : va_S (fun _ => False) s.heap s.heap [] := va_S.rf
  show W p l e rm_c_X5_next s m args below meth c s.heap [] 0 0 _ (F0 m 0 ls [])
  have hlo := low_b hst
  have hxo := xo_b (a := st) (b := st + lowZ st) 13 (by omega) (by omega)
  have hpc := pcZ_b (xoZ st (st + lowZ st))
  refine lv_iload_n hx hb dX5_next_0 rfl (lv_at hl 0 rfl) ?_
  refine lv_iload_n hx hb dX5_next_1 rfl (lv_at hl 0 rfl) ?_
  refine lv_iload_n hx hb dX5_next_2 rfl (lv_at hl 0 rfl) ?_
  refine w_ineg hx hb dX5_next_3 ?_
  refine lv_iand hx hb dX5_next_4 ?_
  refine W.eq (g2 := F0 m 5 ls [.int (iI (lowZ st)), .int (iI st)]) (by first | rfl | (rw [show (.int ((iI st) &&& (iI (-st))) : Value) = .int (iI (lowZ st)) from by exact congrArg Value.int (low_e st)])) ?_
  refine w_iadd hx hb dX5_next_5 ?_
  refine lv_istore_n (lv' := [(1, .int (iI (st + (lowZ st)))), (0, .int (iI st))]) hx hb dX5_next_6 rfl hl (by decide) rfl (fun ls hl => ?_)
  refine lv_iload_n hx hb dX5_next_7 rfl (lv_at hl 1 rfl) ?_
  refine lv_iload_n hx hb dX5_next_8 rfl (lv_at hl 0 rfl) ?_
  refine lv_ixor hx hb dX5_next_9 ?_
  refine W.eq (g2 := F0 m 10 ls [.int (iI (xoZ st (st + lowZ st)))]) (by first | rfl | (rw [show (.int ((iI st) ^^^ (iI (st + (lowZ st)))) : Value) = .int (iI (xoZ st (st + lowZ st))) from by exact congrArg Value.int (iI_xor (by omega) (by omega))])) ?_
  refine cRSi (As := [.int (iI (xoZ st (st + lowZ st)))]) (rest := []) ⟨hx, hb, hml, hown, hts⟩ (c_J6_bitCount_0f7a4 l G (xoZ st (st + lowZ st)) (by omega)) (va_cwS 1 hts gX5_next_J6_bitCount_0f7a4 rfl rfl rfl (by decide +kernel) ⟨Nat.le_of_ble_eq_true rfl, Nat.le_of_ble_eq_true rfl⟩) rfl hl.1 rfl (Nat.le_of_ble_eq_true rfl) dX5_next_10 ⟨Nat.le_of_ble_eq_true rfl, Nat.le_of_ble_eq_true rfl⟩ va_P_nil hK hT hN hS ?_
  refine lv_iconst (v := iI 2) hx hb dX5_next_13 rfl ?_
  refine w_isub hx hb dX5_next_14 ?_
  refine lv_istore_n (lv' := [(2, .int (iI ((pcZ (xoZ st (st + lowZ st))) - 2))), (1, .int (iI (st + (lowZ st)))), (0, .int (iI st))]) hx hb dX5_next_15 rfl hl (by decide) rfl (fun ls hl => ?_)
  refine lv_iload_n hx hb dX5_next_16 rfl (lv_at hl 1 rfl) ?_
  refine lv_iconst (v := iI 1) hx hb dX5_next_17 rfl ?_
  refine lv_iload_n hx hb dX5_next_18 rfl (lv_at hl 0 rfl) ?_
  refine lv_iconst (v := iI 0) hx hb dX5_next_19 rfl ?_
  refine w_mmax hx hb (hml.trans hl.1.symm) hown (hts (.methodLink RX5 19 Lib.Math.max.name) (by decide +kernel)) (hts (.static Lib.Math.max.name) (by decide +kernel)) (hts (.initialized "java/lang/Math") (by decide +kernel)) (hts (.code Lib.Math.max.name Lib.Math.max.code 2 (some .int)) (by decide +kernel)) (Nat.le_of_ble_eq_true rfl) (Nat.le_of_ble_eq_true rfl) (Nat.le_of_ble_eq_true rfl) (Nat.le_of_ble_eq_true rfl) (by omega) (by decide) dX5_next_20 ?_
  refine lv_ishl hx hb dX5_next_23 ?_
  refine W.eq (g2 := F0 m 24 ls [.int (iI (p2 (max (pcZ (xoZ st (st + lowZ st)) - 2) 0))), .int (iI (st + (lowZ st)))]) (by first | rfl | (rw [show (.int ((iI 1) <<< ((iI (max ((pcZ (xoZ st (st + lowZ st))) - 2) 0)) &&& 31)) : Value) = .int (iI (p2 (max (pcZ (xoZ st (st + lowZ st)) - 2) 0))) from by exact congrArg Value.int (shl_1 (by omega))])) ?_
  refine lv_iconst (v := iI 1) hx hb dX5_next_24 rfl ?_
  refine w_isub hx hb dX5_next_25 ?_
  refine lv_ior hx hb dX5_next_26 ?_
  refine W.eq (g2 := F0 m 27 ls [.int (iI (nxZ st))]) (by first | rfl | (rw [show (.int ((iI (st + (lowZ st))) ||| (iI ((p2 (max (pcZ (xoZ st (st + lowZ st)) - 2) 0)) - 1))) : Value) = .int (iI (nxZ st)) from by exact congrArg Value.int (iI_or (by omega) (by have := p2_b (c := max (pcZ (xoZ st (st + lowZ st)) - 2) 0) 12 (by omega); omega))])) ?_
  exact rtRi hx hb hr hlocks dX5_next_27 rfl
abbrev rm_c_X5_alike : Room := { frames := 1, cells := 0, slots := 0, locals := 20 }
set_option maxHeartbeats 4000000 in
set_option maxRecDepth 100000 in
theorem c_X5_alike (l : Launch) (G : Gx) (n : Int) (st : Int) (mk : Int) (hn : 0 ≤ n ∧ n ≤ 12) (hst : 0 ≤ st ∧ st < 4096) (hmk : 0 ≤ mk ∧ mk < 4096) : Met l yX5_alike wsX5_alike rm_c_X5_alike (va_Pc [.int (iI n), .int (iI st), .int (iI mk)] (rd G ([]))) (vp_Si (fun rv => rv = (iI (alZ2 n st mk)))) 0 0 (fun _ => False) := by
  refine enR (cc := cX5_alike) (maxL := 3) (ret := (some .int)) (C := RX5) [(0, .int (iI n)), (1, .int (iI st)), (2, .int (iI mk))] (by decide) rfl rfl (Nat.le_of_ble_eq_true rfl) rfl ?_
  intro p e s m args below meth c ls hx hb hr hml hown hts hlocks hP hK hT hN hl
  have hS : va_S (fun _ => False) s.heap s.heap [] := va_S.rf
  show W p l e rm_c_X5_alike s m args below meth c s.heap [] 0 0 _ (F0 m 0 ls [])
  have hxo := xo_b (a := st) (b := mk) 12 (by omega) (by omega)
  have hp2 := p2_b (c := n) 12 (by omega)
  have han := an_b (a := xoZ st mk) (b := p2 n - 1) (by omega)
  refine lv_iload_n hx hb dX5_alike_0 rfl (lv_at hl 0 rfl) ?_
  refine lv_iload_n hx hb dX5_alike_1 rfl (lv_at hl 1 rfl) ?_
  refine lv_iload_n hx hb dX5_alike_2 rfl (lv_at hl 2 rfl) ?_
  refine lv_ixor hx hb dX5_alike_3 ?_
  refine W.eq (g2 := F0 m 4 ls [.int (iI (xoZ st mk)), .int (iI n)]) (by first | rfl | (rw [show (.int ((iI st) ^^^ (iI mk)) : Value) = .int (iI (xoZ st mk)) from by exact congrArg Value.int (iI_xor (by omega) (by omega))])) ?_
  refine lv_iconst (v := iI 1) hx hb dX5_alike_4 rfl ?_
  refine lv_iload_n hx hb dX5_alike_5 rfl (lv_at hl 0 rfl) ?_
  refine lv_ishl hx hb dX5_alike_6 ?_
  refine W.eq (g2 := F0 m 7 ls [.int (iI (p2 n)), .int (iI (xoZ st mk)), .int (iI n)]) (by first | rfl | (rw [show (.int ((iI 1) <<< ((iI n) &&& 31)) : Value) = .int (iI (p2 n)) from by exact congrArg Value.int (shl_1 (by omega))])) ?_
  refine lv_iconst (v := iI 1) hx hb dX5_alike_7 rfl ?_
  refine w_isub hx hb dX5_alike_8 ?_
  refine lv_iand hx hb dX5_alike_9 ?_
  refine W.eq (g2 := F0 m 10 ls [.int (iI (anZ (xoZ st mk) (p2 n - 1))), .int (iI n)]) (by first | rfl | (rw [show (.int ((iI (xoZ st mk)) &&& (iI ((p2 n) - 1))) : Value) = .int (iI (anZ (xoZ st mk) (p2 n - 1))) from by exact congrArg Value.int (iI_and (by omega) (by omega))])) ?_
  refine cRSi (As := [.int (iI (anZ (xoZ st mk) (p2 n - 1)))]) (rest := [.int (iI n)]) ⟨hx, hb, hml, hown, hts⟩ (c_J6_bitCount_0f7a4 l G (anZ (xoZ st mk) (p2 n - 1)) (by omega)) (va_cwS 1 hts gX5_alike_J6_bitCount_0f7a4 rfl rfl rfl (by decide +kernel) ⟨Nat.le_of_ble_eq_true rfl, Nat.le_of_ble_eq_true rfl⟩) rfl hl.1 rfl (Nat.le_of_ble_eq_true rfl) dX5_alike_10 ⟨Nat.le_of_ble_eq_true rfl, Nat.le_of_ble_eq_true rfl⟩ va_P_nil hK hT hN hS ?_
  refine w_isub hx hb dX5_alike_13 ?_
  exact rtRi hx hb hr hlocks dX5_alike_14 rfl
