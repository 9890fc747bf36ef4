abbrev rm_c_X2_power : Room := { frames := 0, cells := 0, slots := 0, locals := 0 }
set_option maxHeartbeats 4000000 in
set_option maxRecDepth 100000 in
theorem c_X2_power (l : Launch) (G : Gx) (b : Int) (n : Int) (hn : 0 ≤ n ∧ n ≤ 12) : Met l yX2_power wsX2_power rm_c_X2_power (va_Pc [.long (lI b), .int (iI n)] (rd G ([]))) (vp_Sl (fun rv => rv = (lI (b ^ n.toNat)))) 0 0 (fun _ => False) := by
  refine enR (cc := cX2_power) (maxL := 6) (ret := (some .long)) (C := RX2) [(0, .long (lI b)), (2, .int (iI n))] (by decide) rfl rfl (Nat.le_of_ble_eq_true rfl) rfl ?_
  intro p e s m args below meth c ls hx hb hr hml hown hts hlocks hP hK hT hN hl
  have hS : va_S (fun _ => False) s.heap s.heap [] := va_S.rf
  show W p l e rm_c_X2_power s m args below meth c s.heap [] 0 0 _ (F0 m 0 ls [])
  refine lv_lconst (v := lI 1) hx hb dX2_power_0 (by decide) ?_
  refine lv_lstore_n (lv' := [(3, .long (lI 1)), (0, .long (lI b)), (2, .int (iI n))]) hx hb dX2_power_1 rfl hl (by decide) rfl (fun ls hl => ?_)
  refine lv_iconst (v := iI 0) hx hb dX2_power_2 rfl ?_
  refine lv_istore (lv' := [(5, .int (iI 0)), (3, .long (lI 1)), (0, .long (lI b)), (2, .int (iI n))]) hx hb dX2_power_3 hl (by decide) rfl (fun ls hl => ?_)
  have lp_5 : ∀ (μ5 : Nat) (i : Int) (P : Int) (hi : 0 ≤ i ∧ i ≤ n) (hp : P = b ^ i.toNat) (hμ5 : (n - i).toNat < μ5) (ls : Array Slot) (hl : lv_has ls 6 [(5, .int (iI i)), (3, .long (lI P)), (0, .long (lI b)), (2, .int (iI n))]), W p l e rm_c_X2_power s m args below meth c s.heap [] 0 0 (MQ below (vp_Sl (fun rv => rv = (lI (b ^ n.toNat)))) args s 0 0 (fun _ => False)) (F0 m 5 ls []) := by
    intro μ5
    induction μ5 with
    | zero => intro i P hi hp hμ5; exact absurd hμ5 (Nat.not_lt_zero _)
    | succ μ5 ih5 =>
      intro i P hi hp hμ5 ls hl
      refine lv_iload hx hb dX2_power_5 (lv_at hl 0 rfl) ?_
      refine lv_iload_n hx hb dX2_power_7 rfl (lv_at hl 3 rfl) ?_
      refine w_icmp_ge (tgt := 28) hx hb dX2_power_8 (by decide) (by omega) (by omega) (fun c_8_1 => ?_) (fun c_8_1 => ?_)
      · refine lv_lload_n hx hb dX2_power_28 rfl (lv_at hl 1 rfl) ?_
        exact rtRl hx hb hr hlocks dX2_power_29 (congrArg lI (by rw [hp, show i = n from by omega]))
      · refine lv_iload hx hb dX2_power_11 (lv_at hl 0 rfl) ?_
        refine lv_bipush (v := iI 12) hx hb dX2_power_13 (by decide) ?_
        refine w_icmp_gt (tgt := 28) hx hb dX2_power_15 (by decide) (by omega) (by decide) (fun c_15_2 => absurd c_15_2 (by omega)) (fun c_15_2 => ?_)
        refine lv_lload_n hx hb dX2_power_18 rfl (lv_at hl 1 rfl) ?_
        refine lv_lload_n hx hb dX2_power_19 rfl (lv_at hl 2 rfl) ?_
        refine w_lmul hx hb dX2_power_20 ?_
        refine lv_lstore_n (lv' := [(3, .long (lI (P * b))), (5, .int (iI i)), (0, .long (lI b)), (2, .int (iI n))]) hx hb dX2_power_21 rfl hl (by decide) rfl (fun ls hl => ?_)
        refine w_iinc (k := 1) (lv' := [(5, .int (iI (i + 1))), (3, .long (lI (P * b))), (0, .long (lI b)), (2, .int (iI n))]) hx hb dX2_power_22 hl rfl (by decide) rfl (fun ls hl => ?_)
        refine lv_goto (tgt := 5) hx hb dX2_power_25 (by decide) ?_
        exact ih5 (i + 1) (P * b) (by omega) (by rw [hp, show (i + 1).toNat = i.toNat + 1 from by omega, Int.pow_succ]) (by omega) _ (lv_sub hl [0, 1, 2, 3] rfl)
  exact lp_5 ((n - (0 : Int)).toNat + 1) 0 1 (by omega) (by simp) (Nat.lt_succ_self _) _ (lv_sub hl [0, 1, 2, 3] rfl)
abbrev rm_c_X2_ways : Room := { frames := 0, cells := 0, slots := 0, locals := 0 }
set_option maxHeartbeats 4000000 in
set_option maxRecDepth 100000 in
theorem c_X2_ways (l : Launch) (G : Gx) (n : Int) (k : Int) (hr : rI n ∧ rI k) : Met l yX2_ways wsX2_ways rm_c_X2_ways (va_Pc [.int (iI n), .int (iI k)] (rd G ([]))) (vp_Sl (fun rv => rv = (lI (wayF n k)))) 0 0 (fun _ => False) := by
  refine enR (cc := cX2_ways) (maxL := 3) (ret := (some .long)) (C := RX2) [(0, .int (iI n)), (1, .int (iI k))] (by decide) rfl rfl (Nat.le_of_ble_eq_true rfl) rfl ?_
  intro p e s m args below meth c ls hx hb hr hml hown hts hlocks hP hK hT hN hl
  have hS : va_S (fun _ => False) s.heap s.heap [] := va_S.rf
  show W p l e rm_c_X2_ways s m args below meth c s.heap [] 0 0 _ (F0 m 0 ls [])
  refine lv_iload_n hx hb dX2_ways_0 rfl (lv_at hl 0 rfl) ?_
  refine w_if_lt (tgt := 19) hx hb dX2_ways_1 (by decide) (by omega) (fun c_1_1 => ?_) (fun c_1_1 => ?_)
  · refine lv_lconst (v := lI 0) hx hb dX2_ways_19 (by decide) ?_
    exact rtRl hx hb hr hlocks dX2_ways_20 (congrArg lI (by unfold wayF; rw [if_pos (by omega)]))
  · refine lv_iload_n hx hb dX2_ways_4 rfl (lv_at hl 0 rfl) ?_
    refine lv_bipush (v := iI 12) hx hb dX2_ways_5 (by decide) ?_
    refine w_icmp_gt (tgt := 19) hx hb dX2_ways_7 (by decide) (by omega) (by decide) (fun c_7_2 => ?_) (fun c_7_2 => ?_)
    · refine lv_lconst (v := lI 0) hx hb dX2_ways_19 (by decide) ?_
      exact rtRl hx hb hr hlocks dX2_ways_20 (congrArg lI (by unfold wayF; rw [if_pos (by omega)]))
    · refine lv_iload_n hx hb dX2_ways_10 rfl (lv_at hl 1 rfl) ?_
      refine w_if_lt (tgt := 19) hx hb dX2_ways_11 (by decide) (by omega) (fun c_11_3 => ?_) (fun c_11_3 => ?_)
      · refine lv_lconst (v := lI 0) hx hb dX2_ways_19 (by decide) ?_
        exact rtRl hx hb hr hlocks dX2_ways_20 (congrArg lI (by unfold wayF; rw [if_pos (by omega)]))
      · refine lv_iload_n hx hb dX2_ways_14 rfl (lv_at hl 1 rfl) ?_
        refine lv_iload_n hx hb dX2_ways_15 rfl (lv_at hl 0 rfl) ?_
        refine w_icmp_le (tgt := 21) hx hb dX2_ways_16 (by decide) (by omega) (by omega) (fun c_16_4 => ?_) (fun c_16_4 => ?_)
        · have hnn := nn_b (n := n) (by omega) (by omega)
          refine lv_iload_n hx hb dX2_ways_21 rfl (lv_at hl 0 rfl) ?_
          refine lv_iload_n hx hb dX2_ways_22 rfl (lv_at hl 0 rfl) ?_
          refine lv_iconst (v := iI 1) hx hb dX2_ways_23 rfl ?_
          refine w_iadd hx hb dX2_ways_24 ?_
          refine w_imul hx hb dX2_ways_25 ?_
          refine lv_iconst (v := iI 2) hx hb dX2_ways_26 rfl ?_
          refine w_idiv hx hb dX2_ways_27 (by omega) (by decide) (by decide) (by decide) ?_
          refine lv_iload_n hx hb dX2_ways_28 rfl (lv_at hl 1 rfl) ?_
          refine w_iadd hx hb dX2_ways_29 ?_
          refine lv_istore_n (lv' := [(2, .int (iI (((n * (n + 1)).tdiv 2) + k))), (0, .int (iI n)), (1, .int (iI k))]) hx hb dX2_ways_30 rfl hl (by decide) rfl (fun ls hl => ?_)
          refine lv_iload_n hx hb dX2_ways_31 rfl (lv_at hl 0 rfl) ?_
          refine w_if_lt (tgt := 52) hx hb dX2_ways_32 (by decide) (by omega) (fun c_32_5 => absurd c_32_5 (by omega)) (fun c_32_5 => ?_)
          refine lv_iload_n hx hb dX2_ways_35 rfl (lv_at hl 0 rfl) ?_
          refine va_gets (v := .ref (G.2.2 0)) hx hb hT.1 hS hown (hts (.fieldLink RX2 9 "MilkFirst$Numbers" "WAYS" "[I") (by decide +kernel)) (fun _ h9 => h9) dX2_ways_36 ?_
          refine va_tlen (v := iI 91) hx hb hT.2.1 hS (by decide) dX2_ways_39 ?_
          refine w_icmp_ge (tgt := 52) hx hb dX2_ways_40 (by decide) (by omega) (by decide) (fun c_40_6 => absurd c_40_6 (by omega)) (fun c_40_6 => ?_)
          refine va_gets (v := .ref (G.2.2 0)) hx hb hT.1 hS hown (hts (.fieldLink RX2 9 "MilkFirst$Numbers" "WAYS" "[I") (by decide +kernel)) (fun _ h9 => h9) dX2_ways_43 ?_
          refine lv_iload_n hx hb dX2_ways_46 rfl (lv_at hl 0 rfl) ?_
          refine w_ti hx hb hT.2.1 hS (((((n * (n + 1)).tdiv 2) + k)).toNat) (by omega) (by omega) (by decide) dX2_ways_47 ?_
          refine w_i2l hx hb dX2_ways_48 (by have := wayT_b (((n * (n + 1)).tdiv 2 + k).toNat) (by omega); omega) ?_
          refine lv_goto (tgt := 53) hx hb dX2_ways_49 (by decide) ?_
          exact rtRl hx hb hr hlocks dX2_ways_53 (congrArg lI (by unfold wayF; rw [if_neg (by omega)]))
        · refine lv_lconst (v := lI 0) hx hb dX2_ways_19 (by decide) ?_
          exact rtRl hx hb hr hlocks dX2_ways_20 (congrArg lI (by unfold wayF; rw [if_pos (by omega)]))
abbrev rm_c_X2_evenLots : Room := { frames := 0, cells := 0, slots := 0, locals := 0 }
set_option maxHeartbeats 4000000 in
set_option maxRecDepth 100000 in
theorem c_X2_evenLots (l : Launch) (G : Gx) (n : Int) (hn : 0 ≤ n ∧ n ≤ 12) : Met l yX2_evenLots wsX2_evenLots rm_c_X2_evenLots (va_Pc [.int (iI n)] (rd G ([]))) (vp_Sl (fun rv => rv = (lI (evenT n.toNat)))) 0 0 (fun _ => False) := by
  refine enR (cc := cX2_evenLots) (maxL := 1) (ret := (some .long)) (C := RX2) [(0, .int (iI n))] (by decide) rfl rfl (Nat.le_of_ble_eq_true rfl) rfl ?_
  intro p e s m args below meth c ls hx hb hr hml hown hts hlocks hP hK hT hN hl
  have hS : va_S (fun _ => False) s.heap s.heap [] := va_S.rf
  show W p l e rm_c_X2_evenLots s m args below meth c s.heap [] 0 0 _ (F0 m 0 ls [])
  refine lv_iload_n hx hb dX2_evenLots_0 rfl (lv_at hl 0 rfl) ?_
  refine w_if_lt (tgt := 21) hx hb dX2_evenLots_1 (by decide) (by omega) (fun c_1_1 => absurd c_1_1 (by omega)) (fun c_1_1 => ?_)
  refine lv_iload_n hx hb dX2_evenLots_4 rfl (lv_at hl 0 rfl) ?_
  refine va_gets (v := .ref (G.2.2 1)) hx hb hT.2.2.1 hS hown (hts (.fieldLink RX2 15 "MilkFirst$Numbers" "EVEN_LOTS" "[I") (by decide +kernel)) (fun _ h9 => h9) dX2_evenLots_5 ?_
  refine va_tlen (v := iI 13) hx hb hT.2.2.2.1 hS (by decide) dX2_evenLots_8 ?_
  refine w_icmp_ge (tgt := 21) hx hb dX2_evenLots_9 (by decide) (by omega) (by decide) (fun c_9_2 => absurd c_9_2 (by omega)) (fun c_9_2 => ?_)
  refine va_gets (v := .ref (G.2.2 1)) hx hb hT.2.2.1 hS hown (hts (.fieldLink RX2 15 "MilkFirst$Numbers" "EVEN_LOTS" "[I") (by decide +kernel)) (fun _ h9 => h9) dX2_evenLots_12 ?_
  refine lv_iload_n hx hb dX2_evenLots_15 rfl (lv_at hl 0 rfl) ?_
  refine w_ti hx hb hT.2.2.2.1 hS ((n).toNat) (by omega) (by omega) (by decide) dX2_evenLots_16 ?_
  refine w_i2l hx hb dX2_evenLots_17 (by have := evenT_b n.toNat (by omega); omega) ?_
  refine lv_goto (tgt := 22) hx hb dX2_evenLots_18 (by decide) ?_
  exact rtRl hx hb hr hlocks dX2_evenLots_22 rfl
abbrev rm_c_J13_compare_74951 : Room := { frames := 0, cells := 0, slots := 0, locals := 0 }
set_option maxHeartbeats 4000000 in
set_option maxRecDepth 100000 in
theorem c_J13_compare_74951 (l : Launch) (G : Gx) (x : Int) (y : Int) (hr : rL x ∧ rL y) : Met l yJ13_compare_74951 wsJ13_compare_74951 rm_c_J13_compare_74951 (va_Pc [.long (lI x), .long (lI y)] (rd G ([]))) (vp_Si (fun rv => rv = (iI (kcm x y)))) 0 0 (fun _ => False) := by
  refine enR (cc := cJ13_compare_74951) (maxL := 4) (ret := (some .int)) (C := RJ13) [(0, .long (lI x)), (2, .long (lI y))] (by decide) rfl rfl (Nat.le_of_ble_eq_true rfl) rfl ?_
  intro p e s m args below meth c ls hx hb hr hml hown hts hlocks hP hK hT hN hl
  have hS : va_S (fun _ => False) s.heap s.heap [] := va_S.rf
  show W p l e rm_c_J13_compare_74951 s m args below meth c s.heap [] 0 0 _ (F0 m 0 ls [])
  refine lv_lload_n hx hb dJ13_compare_74951_0 rfl (lv_at hl 0 rfl) ?_
  refine lv_lload_n hx hb dJ13_compare_74951_1 rfl (lv_at hl 1 rfl) ?_
  refine w_lc_ge (tgt := 10) hx hb dJ13_compare_74951_2 dJ13_compare_74951_3 (by decide) (by omega) (by omega) (fun c_2_1 => ?_) (fun c_2_1 => ?_)
  · refine lv_lload_n hx hb dJ13_compare_74951_10 rfl (lv_at hl 0 rfl) ?_
    refine lv_lload_n hx hb dJ13_compare_74951_11 rfl (lv_at hl 1 rfl) ?_
    refine w_lc_ne (tgt := 20) hx hb dJ13_compare_74951_12 dJ13_compare_74951_13 (by decide) (by omega) (by omega) (fun c_12_2 => ?_) (fun c_12_2 => ?_)
    · refine lv_iconst (v := iI 1) hx hb dJ13_compare_74951_20 rfl ?_
      exact rtRi hx hb hr hlocks dJ13_compare_74951_21 (congrArg iI (kcm_gt (by omega)).symm)
    · refine lv_iconst (v := iI 0) hx hb dJ13_compare_74951_16 rfl ?_
      refine lv_goto (tgt := 21) hx hb dJ13_compare_74951_17 (by decide) ?_
      exact rtRi hx hb hr hlocks dJ13_compare_74951_21 (congrArg iI (kcm_eq (by omega)).symm)
  · refine lv_iconst (v := iI (-1)) hx hb dJ13_compare_74951_6 rfl ?_
    refine lv_goto (tgt := 21) hx hb dJ13_compare_74951_7 (by decide) ?_
    exact rtRi hx hb hr hlocks dJ13_compare_74951_21 (congrArg iI (kcm_lt (by omega)).symm)
abbrev rm_c_X2_commonFactor : Room := { frames := 1, cells := 0, slots := 0, locals := 21 }
set_option maxHeartbeats 4000000 in
set_option maxRecDepth 100000 in
theorem c_X2_commonFactor (l : Launch) (G : Gx) (a : Int) (b : Int) (ha : rL a ∧ a ≠ -9223372036854775808) (hb0 : rL b ∧ b ≠ -9223372036854775808) : Met l yX2_commonFactor wsX2_commonFactor rm_c_X2_commonFactor (va_Pc [.long (lI a), .long (lI b)] (rd G ([]))) (vp_Sl (fun rv => rv = (lI (gcI a b)))) 0 0 (fun _ => False) := by
  refine enR (cc := cX2_commonFactor) (maxL := 11) (ret := (some .long)) (C := RX2) [(0, .long (lI a)), (2, .long (lI b))] (by decide) rfl rfl (Nat.le_of_ble_eq_true rfl) rfl ?_
  intro p e s m args below meth c ls hx hb hr hml hown hts hlocks hP hK hT hN hl
  have hS : va_S (fun _ => False) s.heap s.heap [] := va_S.rf
  show W p l e rm_c_X2_commonFactor s m args below meth c s.heap [] 0 0 _ (F0 m 0 ls [])
  refine lv_lload_n hx hb dX2_commonFactor_0 rfl (lv_at hl 0 rfl) ?_
  refine w_mabsl hx hb (hml.trans hl.1.symm) hown (hts (.methodLink RX2 18 Lib.MathLoose.abs_long.x) (by decide +kernel)) (hts (.static Lib.MathLoose.abs_long.x) (by decide +kernel)) (hts (.initialized "java/lang/Math") (by decide +kernel)) (hts (.code Lib.MathLoose.abs_long.x Lib.MathLoose.abs_long.code 2 (some .long)) (by decide +kernel)) (Nat.le_of_ble_eq_true rfl) (Nat.le_of_ble_eq_true rfl) (Nat.le_of_ble_eq_true rfl) (Nat.le_of_ble_eq_true rfl) (by omega) dX2_commonFactor_1 ?_
  refine lv_lstore (lv' := [(4, .long (lI (ab a))), (0, .long (lI a)), (2, .long (lI b))]) hx hb dX2_commonFactor_4 hl (by decide) rfl (fun ls hl => ?_)
  refine lv_lload_n hx hb dX2_commonFactor_6 rfl (lv_at hl 2 rfl) ?_
  refine w_mabsl hx hb (hml.trans hl.1.symm) hown (hts (.methodLink RX2 18 Lib.MathLoose.abs_long.x) (by decide +kernel)) (hts (.static Lib.MathLoose.abs_long.x) (by decide +kernel)) (hts (.initialized "java/lang/Math") (by decide +kernel)) (hts (.code Lib.MathLoose.abs_long.x Lib.MathLoose.abs_long.code 2 (some .long)) (by decide +kernel)) (Nat.le_of_ble_eq_true rfl) (Nat.le_of_ble_eq_true rfl) (Nat.le_of_ble_eq_true rfl) (Nat.le_of_ble_eq_true rfl) (by omega) dX2_commonFactor_7 ?_
  refine lv_lstore (lv' := [(6, .long (lI (ab b))), (4, .long (lI (ab a))), (0, .long (lI a)), (2, .long (lI b))]) hx hb dX2_commonFactor_10 hl (by decide) rfl (fun ls hl => ?_)
  refine lv_iconst (v := iI 0) hx hb dX2_commonFactor_12 rfl ?_
  refine lv_istore (lv' := [(8, .int (iI 0)), (6, .long (lI (ab b))), (4, .long (lI (ab a))), (0, .long (lI a)), (2, .long (lI b))]) hx hb dX2_commonFactor_13 hl (by decide) rfl (fun ls hl => ?_)
  have lp_15 : ∀ (μ15 : Nat) (x : Int) (y : Int) (i : Int) (k : Nat) (hx0 : 0 ≤ x ∧ x < 9223372036854775808) (hy0 : 0 ≤ y ∧ y < 9223372036854775808) (hg : gcI x y = gcI a b) (hi : 0 ≤ i) (hk : x * y < 2 ^ k) (hq : (i + k ≤ 126 ∧ i = 0) ∨ (i + k ≤ 127 ∧ y ≤ x)) (hμ15 : (1000 - i).toNat < μ15) (ls : Array Slot) (hl : lv_has ls 11 [(8, .int (iI i)), (6, .long (lI y)), (4, .long (lI x)), (0, .long (lI a)), (2, .long (lI b))]), W p l e rm_c_X2_commonFactor s m args below meth c s.heap [] 0 0 (MQ below (vp_Sl (fun rv => rv = (lI (gcI a b)))) args s 0 0 (fun _ => False)) (F0 m 15 ls []) := by
    intro μ15
    induction μ15 with
    | zero => intro x y i k hx0 hy0 hg hi hk hq hμ15; exact absurd hμ15 (Nat.not_lt_zero _)
    | succ μ15 ih15 =>
      intro x y i k hx0 hy0 hg hi hk hq hμ15 ls hl
      refine lv_iload hx hb dX2_commonFactor_15 (lv_at hl 0 rfl) ?_
      refine lv_sipush (v := iI 1000) hx hb dX2_commonFactor_17 (by decide) ?_
      refine w_icmp_ge (tgt := 51) hx hb dX2_commonFactor_20 (by decide) (by omega) (by decide) (fun c_20_1 => absurd c_20_1 (by omega)) (fun c_20_1 => ?_)
      refine lv_lload hx hb dX2_commonFactor_23 (lv_at hl 1 rfl) ?_
      refine lv_lconst (v := lI 0) hx hb dX2_commonFactor_25 (by decide) ?_
      refine w_lc_eq (tgt := 51) hx hb dX2_commonFactor_26 dX2_commonFactor_27 (by decide) (by omega) (by decide) (fun c_26_2 => ?_) (fun c_26_2 => ?_)
      · refine lv_lload hx hb dX2_commonFactor_51 (lv_at hl 2 rfl) ?_
        exact rtRl hx hb hr hlocks dX2_commonFactor_53 (congrArg lI (by rw [← hg]; first | (have hy2 : y = 0 := (by omega); rw [hy2, gcI_0 hx0.1]) | (exfalso; omega)))
      · have hy1 : 0 < y := by omega
        have htm := tmod_b hx0.1 hy1
        refine lv_lload hx hb dX2_commonFactor_30 (lv_at hl 2 rfl) ?_
        refine lv_lload hx hb dX2_commonFactor_32 (lv_at hl 1 rfl) ?_
        refine w_lrem hx hb dX2_commonFactor_34 (by omega) (by omega) (by omega) (by omega) ?_
        refine lv_lstore (lv' := [(9, .long (lI (x.tmod y))), (8, .int (iI i)), (6, .long (lI y)), (4, .long (lI x)), (0, .long (lI a)), (2, .long (lI b))]) hx hb dX2_commonFactor_35 hl (by decide) rfl (fun ls hl => ?_)
        refine lv_lload hx hb dX2_commonFactor_37 (lv_at hl 2 rfl) ?_
        refine lv_lstore (lv' := [(4, .long (lI y)), (9, .long (lI (x.tmod y))), (8, .int (iI i)), (6, .long (lI y)), (0, .long (lI a)), (2, .long (lI b))]) hx hb dX2_commonFactor_39 hl (by decide) rfl (fun ls hl => ?_)
        refine lv_lload hx hb dX2_commonFactor_41 (lv_at hl 1 rfl) ?_
        refine lv_lstore (lv' := [(6, .long (lI (x.tmod y))), (4, .long (lI y)), (9, .long (lI (x.tmod y))), (8, .int (iI i)), (0, .long (lI a)), (2, .long (lI b))]) hx hb dX2_commonFactor_43 hl (by decide) rfl (fun ls hl => ?_)
        refine w_iinc (k := 3) (lv' := [(8, .int (iI (i + 1))), (6, .long (lI (x.tmod y))), (4, .long (lI y)), (9, .long (lI (x.tmod y))), (0, .long (lI a)), (2, .long (lI b))]) hx hb dX2_commonFactor_45 hl rfl (by decide) rfl (fun ls hl => ?_)
        refine lv_goto (tgt := 15) hx hb dX2_commonFactor_48 (by decide) ?_
        exact ih15 y (x.tmod y) (i + 1) (if y ≤ x then k - 1 else k) (by omega) (by omega) (by rw [← hg]; exact gcI_step x y) (by omega) (by exact eu_next hx0.1 hy1 hk) (by exact eu_q hy1 hk hq htm.2) (by omega) _ (lv_sub hl [0, 1, 2, 4, 5] rfl)
  exact lp_15 ((1000 - (0 : Int)).toNat + 1) (ab a) (ab b) 0 126 (by have := ab_r ha.1 ha.2; have := ab_nn a; omega) (by have := ab_r hb0.1 hb0.2; have := ab_nn b; omega) (by exact gcI_ab a b) (by omega) (by exact ab_mul ha hb0) (by exact Or.inl ⟨by decide, rfl⟩) (Nat.lt_succ_self _) _ (lv_sub hl [0, 1, 2, 3, 4] rfl)
abbrev rm_c_X2_partOf : Room := { frames := 2, cells := 0, slots := 0, locals := 51 }
set_option maxHeartbeats 4000000 in
set_option maxRecDepth 100000 in
theorem c_X2_partOf (l : Launch) (G : Gx) (a : Int) (b : Int) (q : Int) (ha : rL a ∧ a ≠ -9223372036854775808) (hb0 : rL b ∧ b ≠ -9223372036854775808) (hq : q = 0 ∨ q = 1) : Met l yX2_partOf wsX2_partOf rm_c_X2_partOf (va_Pc [.long (lI a), .long (lI b), .int (iI q)] (rd G ([]))) (vp_Sl (fun rv => rv = (lI (pO a b q)))) 0 0 (fun _ => False) := by
  refine enR (cc := cX2_partOf) (maxL := 7) (ret := (some .long)) (C := RX2) [(0, .long (lI a)), (2, .long (lI b)), (4, .int (iI q))] (by decide) rfl rfl (Nat.le_of_ble_eq_true rfl) rfl ?_
  intro p e s m args below meth c ls hx hb hr hml hown hts hlocks hP hK hT hN hl
  have hS : va_S (fun _ => False) s.heap s.heap [] := va_S.rf
  show W p l e rm_c_X2_partOf s m args below meth c s.heap [] 0 0 _ (F0 m 0 ls [])
  refine lv_lload_n hx hb dX2_partOf_0 rfl (lv_at hl 0 rfl) ?_
  refine lv_lload_n hx hb dX2_partOf_1 rfl (lv_at hl 1 rfl) ?_
  refine cRSl (As := [.long (lI a), .long (lI b)]) (rest := []) ⟨hx, hb, hml, hown, hts⟩ (c_X2_commonFactor l G a b (by omega) (by omega)) (va_cwS 2 hts gX2_partOf_X2_commonFactor rfl rfl rfl (by decide +kernel) ⟨Nat.le_of_ble_eq_true rfl, Nat.le_of_ble_eq_true rfl⟩) rfl hl.1 rfl (Nat.le_of_ble_eq_true rfl) dX2_partOf_2 ⟨Nat.le_of_ble_eq_true rfl, Nat.le_of_ble_eq_true rfl⟩ va_P_nil hK hT hN hS ?_
  have hg0 := gcI_r ha hb0
  refine lv_lstore (lv' := [(5, .long (lI (gcI a b))), (0, .long (lI a)), (2, .long (lI b)), (4, .int (iI q))]) hx hb dX2_partOf_5 hl (by decide) rfl (fun ls hl => ?_)
  refine lv_lload hx hb dX2_partOf_7 (lv_at hl 0 rfl) ?_
  refine lv_lconst (v := lI 0) hx hb dX2_partOf_9 (by decide) ?_
  refine w_lc_ne (tgt := 18) hx hb dX2_partOf_10 dX2_partOf_11 (by decide) (by omega) (by decide) (fun c_10_1 => ?_) (fun c_10_1 => ?_)
  · refine lv_iload hx hb dX2_partOf_18 (lv_at hl 3 rfl) ?_
    refine w_if_ne (tgt := 27) hx hb dX2_partOf_20 (by decide) (by omega) (fun c_20_2 => ?_) (fun c_20_2 => ?_)
    · refine lv_lload_n hx hb dX2_partOf_27 rfl (lv_at hl 2 rfl) ?_
      refine lv_lload hx hb dX2_partOf_28 (lv_at hl 0 rfl) ?_
      refine w_ldiv hx hb dX2_partOf_30 (by omega) (by omega) (by omega) (by omega) ?_
      exact rtRl hx hb hr hlocks dX2_partOf_31 (congrArg lI (by unfold pO; rw [if_neg (by omega), if_neg (by omega)]))
    · refine lv_lload_n hx hb dX2_partOf_23 rfl (lv_at hl 1 rfl) ?_
      refine lv_goto (tgt := 28) hx hb dX2_partOf_24 (by decide) ?_
      refine lv_lload hx hb dX2_partOf_28 (lv_at hl 0 rfl) ?_
      refine w_ldiv hx hb dX2_partOf_30 (by omega) (by omega) (by omega) (by omega) ?_
      exact rtRl hx hb hr hlocks dX2_partOf_31 (congrArg lI (by unfold pO; rw [if_neg (by omega), if_pos (by omega)]))
  · refine lv_iload hx hb dX2_partOf_14 (lv_at hl 3 rfl) ?_
    refine w_i2l hx hb dX2_partOf_16 (by omega) ?_
    exact rtRl hx hb hr hlocks dX2_partOf_17 (congrArg lI (by unfold pO; rw [if_pos (by omega)]))
abbrev rm_c_X2_inPartsOf : Room := { frames := 3, cells := 0, slots := 0, locals := 77 }
set_option maxHeartbeats 4000000 in
set_option maxRecDepth 100000 in
theorem c_X2_inPartsOf (l : Launch) (G : Gx) (w : Int) (a : Int) (b : Int) (hw : rL w) (ha : 0 ≤ a ∧ a < 9223372036854775808) (hb0 : 0 ≤ b ∧ b < 9223372036854775808) : Met l yX2_inPartsOf wsX2_inPartsOf rm_c_X2_inPartsOf (va_Pc [.long (lI w), .long (lI a), .long (lI b)] (rd G ([]))) (vp_Sl (fun rv => rv = (lI (if pO a b 1 = 0 then 0 else w.tdiv (pO a b 1) * pO a b 0)))) 0 0 (fun _ => False) := by
  refine enR (cc := cX2_inPartsOf) (maxL := 8) (ret := (some .long)) (C := RX2) [(0, .long (lI w)), (2, .long (lI a)), (4, .long (lI b))] (by decide) rfl rfl (Nat.le_of_ble_eq_true rfl) rfl ?_
  intro p e s m args below meth c ls hx hb hr hml hown hts hlocks hP hK hT hN hl
  have hS : va_S (fun _ => False) s.heap s.heap [] := va_S.rf
  show W p l e rm_c_X2_inPartsOf s m args below meth c s.heap [] 0 0 _ (F0 m 0 ls [])
  refine lv_lload_n hx hb dX2_inPartsOf_0 rfl (lv_at hl 1 rfl) ?_
  refine lv_lload hx hb dX2_inPartsOf_1 (lv_at hl 2 rfl) ?_
  refine lv_iconst (v := iI 1) hx hb dX2_inPartsOf_3 rfl ?_
  refine cRSl (As := [.long (lI a), .long (lI b), .int (iI 1)]) (rest := []) ⟨hx, hb, hml, hown, hts⟩ (c_X2_partOf l G a b 1 (by omega) (by omega) (by omega)) (va_cwS 3 hts gX2_inPartsOf_X2_partOf rfl rfl rfl (by decide +kernel) ⟨Nat.le_of_ble_eq_true rfl, Nat.le_of_ble_eq_true rfl⟩) rfl hl.1 rfl (Nat.le_of_ble_eq_true rfl) dX2_inPartsOf_4 ⟨Nat.le_of_ble_eq_true rfl, Nat.le_of_ble_eq_true rfl⟩ va_P_nil hK hT hN hS ?_
  have hp1 := pO_r1 ha hb0
  refine lv_lstore (lv' := [(6, .long (lI (pO a b (1 : Int)))), (0, .long (lI w)), (2, .long (lI a)), (4, .long (lI b))]) hx hb dX2_inPartsOf_7 hl (by decide) rfl (fun ls hl => ?_)
  refine lv_lload hx hb dX2_inPartsOf_9 (lv_at hl 0 rfl) ?_
  refine lv_lconst (v := lI 0) hx hb dX2_inPartsOf_11 (by decide) ?_
  refine w_lc_ne (tgt := 18) hx hb dX2_inPartsOf_12 dX2_inPartsOf_13 (by decide) (by omega) (by decide) (fun c_12_1 => ?_) (fun c_12_1 => ?_)
  · refine lv_lload_n hx hb dX2_inPartsOf_18 rfl (lv_at hl 1 rfl) ?_
    refine lv_lload hx hb dX2_inPartsOf_19 (lv_at hl 0 rfl) ?_
    refine w_ldiv hx hb dX2_inPartsOf_21 (by omega) (by omega) (by omega) (by omega) ?_
    refine lv_lload_n hx hb dX2_inPartsOf_22 rfl (lv_at hl 2 rfl) ?_
    refine lv_lload hx hb dX2_inPartsOf_23 (lv_at hl 3 rfl) ?_
    refine lv_iconst (v := iI 0) hx hb dX2_inPartsOf_25 rfl ?_
    refine cRSl (As := [.long (lI a), .long (lI b), .int (iI 0)]) (rest := [.long (lI (w.tdiv (pO a b (1 : Int))))]) ⟨hx, hb, hml, hown, hts⟩ (c_X2_partOf l G a b 0 (by omega) (by omega) (by omega)) (va_cwS 3 hts gX2_inPartsOf_X2_partOf rfl rfl rfl (by decide +kernel) ⟨Nat.le_of_ble_eq_true rfl, Nat.le_of_ble_eq_true rfl⟩) rfl hl.1 rfl (Nat.le_of_ble_eq_true rfl) dX2_inPartsOf_26 ⟨Nat.le_of_ble_eq_true rfl, Nat.le_of_ble_eq_true rfl⟩ va_P_nil hK hT hN hS ?_
    refine w_lmul hx hb dX2_inPartsOf_29 ?_
    exact rtRl hx hb hr hlocks dX2_inPartsOf_30 (congrArg lI (by rw [if_neg (by omega)]))
  · refine lv_lconst (v := lI 0) hx hb dX2_inPartsOf_16 (by decide) ?_
    exact rtRl hx hb hr hlocks dX2_inPartsOf_17 (congrArg lI (by rw [if_pos (by omega)]))
abbrev rm_c_X2_against : Room := { frames := 2, cells := 0, slots := 0, locals := 51 }
set_option maxHeartbeats 4000000 in
set_option maxRecDepth 100000 in
theorem c_X2_against (l : Launch) (G : Gx) (v : Int) (b : Int) (t : Int) (hv : rL v) (hb0 : rL b ∧ b ≠ -9223372036854775808) (ht : rI t) (h1 : rL ((1000 : Int).tdiv (gcI b 1000) * v)) (h2 : rL (b.tdiv (gcI b 1000) * t)) : Met l yX2_against wsX2_against rm_c_X2_against (va_Pc [.long (lI v), .long (lI b), .int (iI t)] (rd G ([]))) (vp_Si (fun rv => rv = (iI (kcm (1000 * v) (b * t))))) 0 0 (fun _ => False) := by
  refine enR (cc := cX2_against) (maxL := 7) (ret := (some .int)) (C := RX2) [(0, .long (lI v)), (2, .long (lI b)), (4, .int (iI t))] (by decide) rfl rfl (Nat.le_of_ble_eq_true rfl) rfl ?_
  intro p e s m args below meth c ls hx hb hr hml hown hts hlocks hP hK hT hN hl
  have hS : va_S (fun _ => False) s.heap s.heap [] := va_S.rf
  show W p l e rm_c_X2_against s m args below meth c s.heap [] 0 0 _ (F0 m 0 ls [])
  refine lv_lload_n hx hb dX2_against_0 rfl (lv_at hl 1 rfl) ?_
  refine lv_ldc2 (v := lI 1000) hx hb hown (show (Jvm.Cond.constantLong RX2 32 (lI 1000)).before args s = true from (by rw [show (lI 1000) = (1000 : Int64) from by decide]; exact (hts (.constantLong RX2 32 (1000)) (by decide +kernel)))) dX2_against_1 ?_
  refine cRSl (As := [.long (lI b), .long (lI 1000)]) (rest := []) ⟨hx, hb, hml, hown, hts⟩ (c_X2_commonFactor l G b 1000 (by omega) (by omega)) (va_cwS 2 hts gX2_against_X2_commonFactor rfl rfl rfl (by decide +kernel) ⟨Nat.le_of_ble_eq_true rfl, Nat.le_of_ble_eq_true rfl⟩) rfl hl.1 rfl (Nat.le_of_ble_eq_true rfl) dX2_against_4 ⟨Nat.le_of_ble_eq_true rfl, Nat.le_of_ble_eq_true rfl⟩ va_P_nil hK hT hN hS ?_
  have hg0 := gcI_pos (a := b) (b := 1000) (by decide)
  have hg1 := gcI_r hb0 (b := 1000) (by decide)
  refine lv_lstore (lv' := [(5, .long (lI (gcI b (1000 : Int)))), (0, .long (lI v)), (2, .long (lI b)), (4, .int (iI t))]) hx hb dX2_against_7 hl (by decide) rfl (fun ls hl => ?_)
  refine lv_lload hx hb dX2_against_9 (lv_at hl 0 rfl) ?_
  refine lv_lconst (v := lI 0) hx hb dX2_against_11 (by decide) ?_
  refine w_lc_ne (tgt := 18) hx hb dX2_against_12 dX2_against_13 (by decide) (by omega) (by decide) (fun c_12_1 => ?_) (fun c_12_1 => absurd c_12_1 (by omega))
  refine lv_ldc2 (v := lI 1000) hx hb hown (show (Jvm.Cond.constantLong RX2 32 (lI 1000)).before args s = true from (by rw [show (lI 1000) = (1000 : Int64) from by decide]; exact (hts (.constantLong RX2 32 (1000)) (by decide +kernel)))) dX2_against_18 ?_
  refine lv_lload hx hb dX2_against_21 (lv_at hl 0 rfl) ?_
  refine w_ldiv hx hb dX2_against_23 (by omega) (by omega) (by omega) (by omega) ?_
  refine lv_lload_n hx hb dX2_against_24 rfl (lv_at hl 1 rfl) ?_
  refine w_lmul hx hb dX2_against_25 ?_
  refine lv_lload_n hx hb dX2_against_26 rfl (lv_at hl 2 rfl) ?_
  refine lv_lload hx hb dX2_against_27 (lv_at hl 0 rfl) ?_
  refine w_ldiv hx hb dX2_against_29 (by omega) (by omega) (by omega) (by omega) ?_
  refine lv_iload hx hb dX2_against_30 (lv_at hl 3 rfl) ?_
  refine w_i2l hx hb dX2_against_32 (by omega) ?_
  refine w_lmul hx hb dX2_against_33 ?_
  refine cRSi (As := [.long (lI (((1000 : Int).tdiv (gcI b (1000 : Int))) * v)), .long (lI ((b.tdiv (gcI b (1000 : Int))) * t))]) (rest := []) ⟨hx, hb, hml, hown, hts⟩ (c_J13_compare_74951 l G (((1000 : Int).tdiv (gcI b (1000 : Int))) * v) ((b.tdiv (gcI b (1000 : Int))) * t) (by exact ⟨h1, h2⟩)) (va_cwS 2 hts gX2_against_J13_compare_74951 rfl rfl rfl (by decide +kernel) ⟨Nat.le_of_ble_eq_true rfl, Nat.le_of_ble_eq_true rfl⟩) rfl hl.1 rfl (Nat.le_of_ble_eq_true rfl) dX2_against_34 ⟨Nat.le_of_ble_eq_true rfl, Nat.le_of_ble_eq_true rfl⟩ va_P_nil hK hT hN hS ?_
  exact rtRi hx hb hr hlocks dX2_against_37 (congrArg iI (ag_eq v b t))
