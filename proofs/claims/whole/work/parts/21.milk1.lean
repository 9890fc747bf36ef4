abbrev rm_c_X8_noPart : Room := { frames := 0, cells := 0, slots := 0, locals := 0 }
set_option maxHeartbeats 4000000 in
set_option maxRecDepth 100000 in
theorem c_X8_noPart (l : Launch) (G : Gx) (q : Int) (hq : rI q) : Met l yX8_noPart wsX8_noPart rm_c_X8_noPart (va_Pc [.int (iI q)] (rd G ([]))) (vp_Si (fun rv => rv = (iI (bz (q ≠ 0 ∧ q ≠ 1))))) 0 0 (fun _ => False) := by
  refine enR (cc := cX8_noPart) (maxL := 1) (ret := (some .boolean)) (C := RX8) [(0, .int (iI q))] (by decide) rfl rfl (Nat.le_of_ble_eq_true rfl) rfl ?_
  intro p e s m args below meth c ls hx hb hr hml hown hts hlocks hP hK hT hN hl
  have hS : va_S (fun _ => False) s.heap s.heap [] := va_S.rf
  show W p l e rm_c_X8_noPart s m args below meth c s.heap [] 0 0 _ (F0 m 0 ls [])
  refine lv_iload_n hx hb dX8_noPart_0 rfl (lv_at hl 0 rfl) ?_
  refine w_if_eq (tgt := 13) hx hb dX8_noPart_1 (by decide) (by omega) (fun c_1_1 => ?_) (fun c_1_1 => ?_)
  · refine lv_iconst (v := iI 0) hx hb dX8_noPart_13 rfl ?_
    exact rtRz hx hb hr hlocks (by decide) dX8_noPart_14 (bz_neg (by omega))
  · refine lv_iload_n hx hb dX8_noPart_4 rfl (lv_at hl 0 rfl) ?_
    refine lv_iconst (v := iI 1) hx hb dX8_noPart_5 rfl ?_
    refine w_icmp_eq (tgt := 13) hx hb dX8_noPart_6 (by decide) (by omega) (by decide) (fun c_6_2 => ?_) (fun c_6_2 => ?_)
    · refine lv_iconst (v := iI 0) hx hb dX8_noPart_13 rfl ?_
      exact rtRz hx hb hr hlocks (by decide) dX8_noPart_14 (bz_neg (by omega))
    · refine lv_iconst (v := iI 1) hx hb dX8_noPart_9 rfl ?_
      refine lv_goto (tgt := 14) hx hb dX8_noPart_10 (by decide) ?_
      exact rtRz hx hb hr hlocks (by decide) dX8_noPart_14 (bz_pos (by omega))
abbrev rm_c_X8_refuse : Room := { frames := 0, cells := 0, slots := 0, locals := 0 }
set_option maxHeartbeats 4000000 in
set_option maxRecDepth 100000 in
theorem c_X8_refuse (l : Launch) (G : Gx) (x0 : Nat) (pl0 : Nat) (rl0 : Nat) (sl0 : Nat) (tp0 : Nat) (rf0 : Nat) (ab0 : Nat) (tr0 : Nat) (lk0 : Nat) (td : Int) (R : Nat → Int) (cd : Int) (sz : Nat) (hcd : -6 ≤ cd ∧ cd ≤ -1) : Met l yX8_refuse wsX8_refuse rm_c_X8_refuse (va_Pc [.ref x0, .int (iI cd)] (wr G ([(x0, .inr (7, [.ref pl0, .ref rl0, .ref sl0, .ref tp0, .int (iI td), .ref rf0, .ref ab0, .ref tr0, .ref lk0])), (rf0, .inl (G.2.1 0, 6, .inl (aI R)))]) sz)) (va_Qi (fun (rv : Int32) (u : Unit) => rv = (iI cd)) (Bw G.1 vwCl (fun (u : Unit) => [(x0, .inr (7, [.ref pl0, .ref rl0, .ref sl0, .ref tp0, .int (iI td), .ref rf0, .ref ab0, .ref tr0, .ref lk0])), (rf0, .inl (G.2.1 0, 6, .inl (aI (rfU R cd))))]) (va_A ([(x0, .inr (7, [.ref pl0, .ref rl0, .ref sl0, .ref tp0, .int (iI td), .ref rf0, .ref ab0, .ref tr0, .ref lk0])), (rf0, .inl (G.2.1 0, 6, .inl (aI R)))]) sz)) (va_A ([(x0, .inr (7, [.ref pl0, .ref rl0, .ref sl0, .ref tp0, .int (iI td), .ref rf0, .ref ab0, .ref tr0, .ref lk0])), (rf0, .inl (G.2.1 0, 6, .inl (aI R)))]) sz)) 0 0 (va_A ([(x0, .inr (7, [.ref pl0, .ref rl0, .ref sl0, .ref tp0, .int (iI td), .ref rf0, .ref ab0, .ref tr0, .ref lk0])), (rf0, .inl (G.2.1 0, 6, .inl (aI R)))]) sz) := by
  refine enW (y := yX8_refuse) (ws := wsX8_refuse) (As := [.ref x0, .int (iI cd)]) (Qc := fun A => (va_Qi (fun (rv : Int32) (u : Unit) => rv = (iI cd)) (Bw G.1 vwCl (fun (u : Unit) => [(x0, .inr (7, [.ref pl0, .ref rl0, .ref sl0, .ref tp0, .int (iI td), .ref rf0, .ref ab0, .ref tr0, .ref lk0])), (rf0, .inl (G.2.1 0, 6, .inl (aI (rfU R cd))))]) A) A)) (mc := 0) (ms := 0) (cc := cX8_refuse) (maxL := 3) (ret := (some .int)) (C := RX8) [(0, .ref x0), (1, .int (iI cd))] (by decide) rfl rfl (Nat.le_of_ble_eq_true rfl) rfl ?_
  intro p e s m args below meth c ls A hx hb hr hml hown hts hlocks hin hP hK hD hT hN hA hS hl
  show W p l e rm_c_X8_refuse s m args below meth c s.heap [] 0 0 _ (F0 m 0 ls [])
  refine lv_iconst (v := iI (-1)) hx hb dX8_refuse_0 rfl ?_
  refine lv_iload_n hx hb dX8_refuse_1 rfl (lv_at hl 1 rfl) ?_
  refine w_isub hx hb dX8_refuse_2 ?_
  refine lv_istore_n (lv' := [(2, .int (iI ((-1) - cd))), (0, .ref x0), (1, .int (iI cd))]) hx hb dX8_refuse_3 rfl hl (by decide) rfl (fun ls hl => ?_)
  refine lv_iload_n hx hb dX8_refuse_4 rfl (lv_at hl 0 rfl) ?_
  refine w_if_lt (tgt := 27) hx hb dX8_refuse_5 (by decide) (by omega) (fun c_5_1 => absurd c_5_1 (by omega)) (fun c_5_1 => ?_)
  refine lv_iload_n hx hb dX8_refuse_8 rfl (lv_at hl 0 rfl) ?_
  refine lv_aload_n hx hb dX8_refuse_9 rfl (lv_at hl 1 rfl) ?_
  refine va_get (D := G.1) (ci := 7) (v := .ref rf0) (C := RX8) (T := TX8) (N := 9) hx hb hts (by decide +kernel) hown hK hP 0 rfl rfl 5 (by decide) (hts (.fieldLink RX8 33 "MilkFirst" "refusals" "[I") (by decide +kernel)) (fun _ h9 => h9) rfl dX8_refuse_10 ?_
  refine va_alen (v := iI 6) hx hb hK hP 1 0 rfl rfl (iI_N 6) dX8_refuse_13 ?_
  refine w_icmp_ge (tgt := 27) hx hb dX8_refuse_14 (by decide) (by omega) (by decide) (fun c_14_2 => absurd c_14_2 (by omega)) (fun c_14_2 => ?_)
  refine lv_aload_n hx hb dX8_refuse_17 rfl (lv_at hl 1 rfl) ?_
  refine va_get (D := G.1) (ci := 7) (v := .ref rf0) (C := RX8) (T := TX8) (N := 9) hx hb hts (by decide +kernel) hown hK hP 0 rfl rfl 5 (by decide) (hts (.fieldLink RX8 33 "MilkFirst" "refusals" "[I") (by decide +kernel)) (fun _ h9 => h9) rfl dX8_refuse_18 ?_
  refine lv_iload_n hx hb dX8_refuse_21 rfl (lv_at hl 0 rfl) ?_
  refine lv_dup2_11 hx hb dX8_refuse_22 rfl rfl ?_
  refine w_iald hx hb hK hP 1 0 rfl rfl ((((-1) - cd)).toNat) (by omega) (by omega) (by decide) dX8_refuse_23 ?_
  refine lv_iconst (v := iI 1) hx hb dX8_refuse_24 rfl ?_
  refine w_iadd hx hb dX8_refuse_25 ?_
  refine w_iast hx hb hK hP hD hS 1 0 rfl rfl ((((-1) - cd)).toNat) (by omega) (by omega) (by decide) dX8_refuse_26 (fun H locs hP hD hS => ?_)
  have hP : va_P G.1 vwCl ([(x0, .inr (7, [.ref pl0, .ref rl0, .ref sl0, .ref tp0, .int (iI td), .ref rf0, .ref ab0, .ref tr0, .ref lk0])), (rf0, .inl (G.2.1 0, 6, .inl (aI (va_up R ((((-1) - cd)).toNat) ((R ((((-1) - cd)).toNat)) + 1)))))]) H := hP
  have hD : va_D A ([(x0, .inr (7, [.ref pl0, .ref rl0, .ref sl0, .ref tp0, .int (iI td), .ref rf0, .ref ab0, .ref tr0, .ref lk0])), (rf0, .inl (G.2.1 0, 6, .inl (aI (va_up R ((((-1) - cd)).toNat) ((R ((((-1) - cd)).toNat)) + 1)))))]) := hD
  refine lv_iload_n hx hb dX8_refuse_27 rfl (lv_at hl 2 rfl) ?_
  have hwe : ([(x0, .inr (7, [.ref pl0, .ref rl0, .ref sl0, .ref tp0, .int (iI td), .ref rf0, .ref ab0, .ref tr0, .ref lk0])), (rf0, .inl (G.2.1 0, 6, .inl (aI (va_up R ((((-1) - cd)).toNat) ((R ((((-1) - cd)).toNat)) + 1)))))] : va_W) = [(x0, .inr (7, [.ref pl0, .ref rl0, .ref sl0, .ref tp0, .int (iI td), .ref rf0, .ref ab0, .ref tr0, .ref lk0])), (rf0, .inl (G.2.1 0, 6, .inl (aI (rfU R cd))))] := by rw [show rfU R cd = va_up R (-1 - cd).toNat (R (-1 - cd).toNat + 1) from if_neg (by omega)]
  have hP9 : va_P G.1 vwCl ([(x0, .inr (7, [.ref pl0, .ref rl0, .ref sl0, .ref tp0, .int (iI td), .ref rf0, .ref ab0, .ref tr0, .ref lk0])), (rf0, .inl (G.2.1 0, 6, .inl (aI (rfU R cd))))]) H := hwe ▸ hP
  have hD9 : va_D A ([(x0, .inr (7, [.ref pl0, .ref rl0, .ref sl0, .ref tp0, .int (iI td), .ref rf0, .ref ab0, .ref tr0, .ref lk0])), (rf0, .inl (G.2.1 0, 6, .inl (aI (rfU R cd))))]) := hwe ▸ hD
  exact rtWi hx hb hr hlocks dX8_refuse_28 () rfl hP9 hD9 hS
abbrev rm_c_X8_refuseLong : Room := { frames := 1, cells := 0, slots := 0, locals := 22 }
set_option maxHeartbeats 4000000 in
set_option maxRecDepth 100000 in
theorem c_X8_refuseLong (l : Launch) (G : Gx) (x0 : Nat) (pl0 : Nat) (rl0 : Nat) (sl0 : Nat) (tp0 : Nat) (rf0 : Nat) (ab0 : Nat) (tr0 : Nat) (lk0 : Nat) (td : Int) (R : Nat → Int) (cd : Int) (sz : Nat) (hcd : -6 ≤ cd ∧ cd ≤ -1) : Met l yX8_refuseLong wsX8_refuseLong rm_c_X8_refuseLong (va_Pc [.ref x0, .int (iI cd)] (wr G ([(x0, .inr (7, [.ref pl0, .ref rl0, .ref sl0, .ref tp0, .int (iI td), .ref rf0, .ref ab0, .ref tr0, .ref lk0])), (rf0, .inl (G.2.1 0, 6, .inl (aI R)))]) sz)) (va_Ql (fun (rv : Int64) (u : Unit) => rv = (lI (4000000000000000000 - cd))) (Bw G.1 vwCl (fun (u : Unit) => [(x0, .inr (7, [.ref pl0, .ref rl0, .ref sl0, .ref tp0, .int (iI td), .ref rf0, .ref ab0, .ref tr0, .ref lk0])), (rf0, .inl (G.2.1 0, 6, .inl (aI (rfU R cd))))]) (va_A ([(x0, .inr (7, [.ref pl0, .ref rl0, .ref sl0, .ref tp0, .int (iI td), .ref rf0, .ref ab0, .ref tr0, .ref lk0])), (rf0, .inl (G.2.1 0, 6, .inl (aI R)))]) sz)) (va_A ([(x0, .inr (7, [.ref pl0, .ref rl0, .ref sl0, .ref tp0, .int (iI td), .ref rf0, .ref ab0, .ref tr0, .ref lk0])), (rf0, .inl (G.2.1 0, 6, .inl (aI R)))]) sz)) 0 0 (va_A ([(x0, .inr (7, [.ref pl0, .ref rl0, .ref sl0, .ref tp0, .int (iI td), .ref rf0, .ref ab0, .ref tr0, .ref lk0])), (rf0, .inl (G.2.1 0, 6, .inl (aI R)))]) sz) := by
  refine enW (y := yX8_refuseLong) (ws := wsX8_refuseLong) (As := [.ref x0, .int (iI cd)]) (Qc := fun A => (va_Ql (fun (rv : Int64) (u : Unit) => rv = (lI (4000000000000000000 - cd))) (Bw G.1 vwCl (fun (u : Unit) => [(x0, .inr (7, [.ref pl0, .ref rl0, .ref sl0, .ref tp0, .int (iI td), .ref rf0, .ref ab0, .ref tr0, .ref lk0])), (rf0, .inl (G.2.1 0, 6, .inl (aI (rfU R cd))))]) A) A)) (mc := 0) (ms := 0) (cc := cX8_refuseLong) (maxL := 2) (ret := (some .long)) (C := RX8) [(0, .ref x0), (1, .int (iI cd))] (by decide) rfl rfl (Nat.le_of_ble_eq_true rfl) rfl ?_
  intro p e s m args below meth c ls A hx hb hr hml hown hts hlocks hin hP hK hD hT hN hA hS hl
  show W p l e rm_c_X8_refuseLong s m args below meth c s.heap [] 0 0 _ (F0 m 0 ls [])
  refine lv_ldc2 (v := lI 4000000000000000000) hx hb hown (show (Jvm.Cond.constantLong RX8 256 (lI 4000000000000000000)).before args s = true from (by rw [show (lI 4000000000000000000) = (4000000000000000000 : Int64) from by decide]; exact (hts (.constantLong RX8 256 (4000000000000000000)) (by decide +kernel)))) dX8_refuseLong_0 ?_
  refine lv_aload_n hx hb dX8_refuseLong_3 rfl (lv_at hl 0 rfl) ?_
  refine lv_iload_n hx hb dX8_refuseLong_4 rfl (lv_at hl 1 rfl) ?_
  refine cWVi0 (As := [.int (iI cd)]) (rest := [.long (lI 4000000000000000000)]) (wr0 := []) ⟨hx, hb, hml, hown, hts⟩ (c_X8_refuse l G x0 pl0 rl0 sl0 tp0 rf0 ab0 tr0 lk0 td R cd s.heap.size (by omega)) (cwV 1 hts gX8_refuseLong_X8_refuse rfl rfl rfl (by decide +kernel) ⟨Nat.le_of_ble_eq_true rfl, Nat.le_of_ble_eq_true rfl⟩) rfl hl.1 rfl (Nat.le_of_ble_eq_true rfl) dX8_refuseLong_5 ⟨Nat.le_of_ble_eq_true rfl, Nat.le_of_ble_eq_true rfl⟩ hP hD hK hT hN hS hA [0, 1] [] rfl rfl (by decide) (by decide) (by decide) (ci := 7) rfl rfl (fun r_ u_1 hu_1 H locs hz_1 hP hD hS => ?_)
  subst hu_1
  have hP : va_P G.1 vwCl ([(x0, .inr (7, [.ref pl0, .ref rl0, .ref sl0, .ref tp0, .int (iI td), .ref rf0, .ref ab0, .ref tr0, .ref lk0])), (rf0, .inl (G.2.1 0, 6, .inl (aI (rfU R cd))))]) H := hP
  have hD : va_D A ([(x0, .inr (7, [.ref pl0, .ref rl0, .ref sl0, .ref tp0, .int (iI td), .ref rf0, .ref ab0, .ref tr0, .ref lk0])), (rf0, .inl (G.2.1 0, 6, .inl (aI (rfU R cd))))]) := hD
  refine w_i2l hx hb dX8_refuseLong_8 (by omega) ?_
  refine w_lsub hx hb dX8_refuseLong_9 ?_
  exact rtWl hx hb hr hlocks dX8_refuseLong_10 () rfl hP hD hS
abbrev rm_c_X8_refusalsCounted : Room := { frames := 0, cells := 0, slots := 0, locals := 0 }
set_option maxHeartbeats 4000000 in
set_option maxRecDepth 100000 in
theorem c_X8_refusalsCounted (l : Launch) (G : Gx) (x0 : Nat) (pl0 : Nat) (rl0 : Nat) (sl0 : Nat) (tp0 : Nat) (rf0 : Nat) (ab0 : Nat) (tr0 : Nat) (lk0 : Nat) (td : Int) (R : Nat → Int) (z : Int) (hz : rI z) : Met l yX8_refusalsCounted wsX8_refusalsCounted rm_c_X8_refusalsCounted (va_Pc [.ref x0, .int (iI z)] (rd G ([(x0, .inr (7, [.ref pl0, .ref rl0, .ref sl0, .ref tp0, .int (iI td), .ref rf0, .ref ab0, .ref tr0, .ref lk0])), (rf0, .inl (G.2.1 0, 6, .inl (aI R)))]))) (vp_Si (fun rv => rv = (iI (if 0 ≤ z ∧ z < 6 then R z.toNat else -9)))) 0 0 (fun _ => False) := by
  refine enR (cc := cX8_refusalsCounted) (maxL := 2) (ret := (some .int)) (C := RX8) [(0, .ref x0), (1, .int (iI z))] (by decide) rfl rfl (Nat.le_of_ble_eq_true rfl) rfl ?_
  intro p e s m args below meth c ls hx hb hr hml hown hts hlocks hP hK hT hN hl
  have hS : va_S (fun _ => False) s.heap s.heap [] := va_S.rf
  show W p l e rm_c_X8_refusalsCounted s m args below meth c s.heap [] 0 0 _ (F0 m 0 ls [])
  refine lv_iload_n hx hb dX8_refusalsCounted_0 rfl (lv_at hl 1 rfl) ?_
  refine w_if_lt (tgt := 22) hx hb dX8_refusalsCounted_1 (by decide) (by omega) (fun c_1_1 => ?_) (fun c_1_1 => ?_)
  · refine lv_bipush (v := iI (-9)) hx hb dX8_refusalsCounted_22 (by decide) ?_
    exact rtRi hx hb hr hlocks dX8_refusalsCounted_24 (congrArg iI (by rw [if_neg (by omega)]))
  · refine lv_iload_n hx hb dX8_refusalsCounted_4 rfl (lv_at hl 1 rfl) ?_
    refine lv_aload_n hx hb dX8_refusalsCounted_5 rfl (lv_at hl 0 rfl) ?_
    refine va_get (D := G.1) (ci := 7) (v := .ref rf0) (C := RX8) (T := TX8) (N := 9) hx hb hts (by decide +kernel) hown hK hP 0 rfl rfl 5 (by decide) (hts (.fieldLink RX8 33 "MilkFirst" "refusals" "[I") (by decide +kernel)) (fun _ h9 => h9) rfl dX8_refusalsCounted_6 ?_
    refine va_alen (v := iI 6) hx hb hK hP 1 0 rfl rfl (iI_N 6) dX8_refusalsCounted_9 ?_
    refine w_icmp_ge (tgt := 22) hx hb dX8_refusalsCounted_10 (by decide) (by omega) (by decide) (fun c_10_2 => ?_) (fun c_10_2 => ?_)
    · refine lv_bipush (v := iI (-9)) hx hb dX8_refusalsCounted_22 (by decide) ?_
      exact rtRi hx hb hr hlocks dX8_refusalsCounted_24 (congrArg iI (by rw [if_neg (by omega)]))
    · refine lv_aload_n hx hb dX8_refusalsCounted_13 rfl (lv_at hl 0 rfl) ?_
      refine va_get (D := G.1) (ci := 7) (v := .ref rf0) (C := RX8) (T := TX8) (N := 9) hx hb hts (by decide +kernel) hown hK hP 0 rfl rfl 5 (by decide) (hts (.fieldLink RX8 33 "MilkFirst" "refusals" "[I") (by decide +kernel)) (fun _ h9 => h9) rfl dX8_refusalsCounted_14 ?_
      refine lv_iload_n hx hb dX8_refusalsCounted_17 rfl (lv_at hl 1 rfl) ?_
      refine w_iald hx hb hK hP 1 0 rfl rfl ((z).toNat) (by omega) (by omega) (by decide) dX8_refusalsCounted_18 ?_
      refine lv_goto (tgt := 24) hx hb dX8_refusalsCounted_19 (by decide) ?_
      exact rtRi hx hb hr hlocks dX8_refusalsCounted_24 (congrArg iI (by rw [if_pos (by omega)]))
abbrev rm_c_X8_lotRefusal_s : Room := { frames := 0, cells := 0, slots := 0, locals := 0 }
set_option maxHeartbeats 4000000 in
set_option maxRecDepth 100000 in
theorem c_X8_lotRefusal_s (l : Launch) (G : Gx) (p0 : Nat) (e0 : Nat) (kd : Int) (n : Int) (k : Int) (hk0 : rI kd) : Met l yX8_lotRefusal wsX8_lotRefusal rm_c_X8_lotRefusal_s (va_Pc [.ref p0] (rd G ([(p0, .inr (3, [.int (iI kd), .int (iI n), .int (iI k), .ref e0]))]))) (vp_Si (fun rv => rv = (iI (if kd = 1 then 0 else -3)))) 0 0 (fun _ => False) := by
  refine enR (cc := cX8_lotRefusal) (maxL := 1) (ret := (some .int)) (C := RX8) [(0, .ref p0)] (by decide) rfl rfl (Nat.le_of_ble_eq_true rfl) rfl ?_
  intro p e s m args below meth c ls hx hb hr hml hown hts hlocks hP hK hT hN hl
  have hS : va_S (fun _ => False) s.heap s.heap [] := va_S.rf
  show W p l e rm_c_X8_lotRefusal_s s m args below meth c s.heap [] 0 0 _ (F0 m 0 ls [])
  refine lv_aload_n hx hb dX8_lotRefusal_0 rfl (lv_at hl 0 rfl) ?_
  refine lv_ifnonnull (tgt := 6) hx hb dX8_lotRefusal_1 (by decide) ?_
  refine lv_aload_n hx hb dX8_lotRefusal_6 rfl (lv_at hl 0 rfl) ?_
  refine va_get (D := G.1) (ci := 3) (v := .int (iI kd)) (C := RX3) (T := TX3) (N := 4) hx hb hts (by decide +kernel) hown hK hP 0 rfl rfl 0 (by decide) (hts (.fieldLink RX8 179 "MilkFirst$Plan" "kind" "I") (by decide +kernel)) (fun _ h9 => h9) rfl dX8_lotRefusal_7 ?_
  refine lv_iconst (v := iI 1) hx hb dX8_lotRefusal_10 rfl ?_
  refine w_icmp_ne (tgt := 18) hx hb dX8_lotRefusal_11 (by decide) (by omega) (by decide) (fun c_11_1 => ?_) (fun c_11_1 => ?_)
  · refine lv_bipush (v := iI (-3)) hx hb dX8_lotRefusal_18 (by decide) ?_
    exact rtRi hx hb hr hlocks dX8_lotRefusal_20 (congrArg iI (by rw [if_neg (by omega)]))
  · refine lv_iconst (v := iI 0) hx hb dX8_lotRefusal_14 rfl ?_
    refine lv_goto (tgt := 20) hx hb dX8_lotRefusal_15 (by decide) ?_
    exact rtRi hx hb hr hlocks dX8_lotRefusal_20 (congrArg iI (by rw [if_pos (by omega)]))
abbrev rm_c_X8_lotRefusal_n : Room := { frames := 0, cells := 0, slots := 0, locals := 0 }
set_option maxHeartbeats 4000000 in
set_option maxRecDepth 100000 in
theorem c_X8_lotRefusal_n (l : Launch) (G : Gx) : Met l yX8_lotRefusal wsX8_lotRefusal rm_c_X8_lotRefusal_n (va_Pc [.null] (rd G ([]))) (vp_Si (fun rv => rv = (iI (-1)))) 0 0 (fun _ => False) := by
  refine enR (cc := cX8_lotRefusal) (maxL := 1) (ret := (some .int)) (C := RX8) [(0, .null)] (by decide) rfl rfl (Nat.le_of_ble_eq_true rfl) rfl ?_
  intro p e s m args below meth c ls hx hb hr hml hown hts hlocks hP hK hT hN hl
  have hS : va_S (fun _ => False) s.heap s.heap [] := va_S.rf
  show W p l e rm_c_X8_lotRefusal_n s m args below meth c s.heap [] 0 0 _ (F0 m 0 ls [])
  refine lv_aload_nN hx hb dX8_lotRefusal_0 rfl (lv_at hl 0 rfl) ?_
  refine lv_ifnonnullN hx hb dX8_lotRefusal_1 ?_
  refine lv_iconst (v := iI (-1)) hx hb dX8_lotRefusal_4 rfl ?_
  exact rtRi hx hb hr hlocks dX8_lotRefusal_5 rfl
abbrev rm_c_X8_planAt_s : Room := { frames := 3, cells := 0, slots := 0, locals := 64 }
set_option maxHeartbeats 4000000 in
set_option maxRecDepth 100000 in
theorem c_X8_planAt_s (l : Launch) (G : Gx) (x0 : Nat) (pl0 : Nat) (rl0 : Nat) (sl0 : Nat) (tp0 : Nat) (rf0 : Nat) (ab0 : Nat) (tr0 : Nat) (lk0 : Nat) (td : Int) (pea : Nat) (pmd : Int) (np : Int) (pcap : Nat) (PF : Nat → Option Nat) (p0 : Nat) (e0 : Nat) (kd : Int) (n : Int) (k : Int) (pl : Int) (hpl : 0 ≤ pl ∧ pl < np ∧ np ≤ pcap ∧ pcap ≤ 100) (hpf : PF pl.toNat = some p0) : Met l yX8_planAt wsX8_planAt rm_c_X8_planAt_s (va_Pc [.ref x0, .int (iI pl)] (rd G ([(x0, .inr (7, [.ref pl0, .ref rl0, .ref sl0, .ref tp0, .int (iI td), .ref rf0, .ref ab0, .ref tr0, .ref lk0])), (pl0, .inr (0, [.int (iI pmd), .ref pea, .int (iI np)])), (pea, .inl (G.2.1 3, pcap, .inr (.inr (.inr (.inr PF))))), (p0, .inr (3, [.int (iI kd), .int (iI n), .int (iI k), .ref e0]))]))) (va_Sr (fun _ => True) (fun _ => .ref p0)) 0 0 (fun _ => False) := by
  refine enR (cc := cX8_planAt) (maxL := 2) (ret := (some (.object "MilkFirst$Plan"))) (C := RX8) [(0, .ref x0), (1, .int (iI pl))] (by decide) rfl rfl (Nat.le_of_ble_eq_true rfl) rfl ?_
  intro p e s m args below meth c ls hx hb hr hml hown hts hlocks hP hK hT hN hl
  have hS : va_S (fun _ => False) s.heap s.heap [] := va_S.rf
  show W p l e rm_c_X8_planAt_s s m args below meth c s.heap [] 0 0 _ (F0 m 0 ls [])
  refine lv_iload_n hx hb dX8_planAt_0 rfl (lv_at hl 1 rfl) ?_
  refine w_if_lt (tgt := 29) hx hb dX8_planAt_1 (by decide) (by omega) (fun c_1_1 => absurd c_1_1 (by omega)) (fun c_1_1 => ?_)
  refine lv_iload_n hx hb dX8_planAt_4 rfl (lv_at hl 1 rfl) ?_
  refine lv_aload_n hx hb dX8_planAt_5 rfl (lv_at hl 0 rfl) ?_
  refine va_get (D := G.1) (ci := 7) (v := .ref pl0) (C := RX8) (T := TX8) (N := 9) hx hb hts (by decide +kernel) hown hK hP 0 rfl rfl 0 (by decide) (hts (.fieldLink RX8 10 "MilkFirst" "plans" "Ljava/util/ArrayList;") (by decide +kernel)) (fun _ h9 => h9) rfl dX8_planAt_6 ?_
  refine cRVi (As := []) (rest := [.int (iI pl)]) ⟨hx, hb, hml, hown, hts⟩ (c_Jx4a65c_size_8abf5 l G pl0 pea pmd np ) (cwV 0 hts gX8_planAt_Jx4a65c_size_8abf5 rfl rfl rfl (by decide +kernel) ⟨Nat.le_of_ble_eq_true rfl, Nat.le_of_ble_eq_true rfl⟩) rfl hl.1 rfl (Nat.le_of_ble_eq_true rfl) dX8_planAt_9 ⟨Nat.le_of_ble_eq_true rfl, Nat.le_of_ble_eq_true rfl⟩ (hP.sub [1] rfl) hK hT hN hS (ci := 0) rfl rfl ?_
  refine w_icmp_ge (tgt := 29) hx hb dX8_planAt_12 (by decide) (by omega) (by omega) (fun c_12_2 => absurd c_12_2 (by omega)) (fun c_12_2 => ?_)
  refine lv_aload_n hx hb dX8_planAt_15 rfl (lv_at hl 0 rfl) ?_
  refine va_get (D := G.1) (ci := 7) (v := .ref pl0) (C := RX8) (T := TX8) (N := 9) hx hb hts (by decide +kernel) hown hK hP 0 rfl rfl 0 (by decide) (hts (.fieldLink RX8 10 "MilkFirst" "plans" "Ljava/util/ArrayList;") (by decide +kernel)) (fun _ h9 => h9) rfl dX8_planAt_16 ?_
  refine lv_iload_n hx hb dX8_planAt_19 rfl (lv_at hl 1 rfl) ?_
  refine cRVr (As := [.int (iI pl)]) (rest := []) ⟨hx, hb, hml, hown, hts⟩ (c_Jx4a65c_get_915e3 l G pl0 pea pmd np pcap PF pl p0 (by omega) (by exact hpf)) (cwV 1 hts gX8_planAt_Jx4a65c_get_915e3 rfl rfl rfl (by decide +kernel) ⟨Nat.le_of_ble_eq_true rfl, Nat.le_of_ble_eq_true rfl⟩) rfl hl.1 rfl (Nat.le_of_ble_eq_true rfl) dX8_planAt_20 ⟨Nat.le_of_ble_eq_true rfl, Nat.le_of_ble_eq_true rfl⟩ (hP.sub [1, 2] rfl) hK hT hN hS (ci := 0) rfl rfl ?_
  refine va_castS hx hb hown (hts (.classLink RX8 72 "MilkFirst$Plan") (by decide +kernel)) (hK.1 3 _ rfl).2 (va_recv hK hP (ci := 3) (q0 := 3) rfl rfl) dX8_planAt_23 ?_
  refine lv_goto (tgt := 30) hx hb dX8_planAt_26 (by decide) ?_
  exact rtRr hx hb hr hlocks (Or.inl ⟨_, rfl⟩) dX8_planAt_30
abbrev rm_c_X8_planAt_n : Room := { frames := 1, cells := 0, slots := 0, locals := 20 }
set_option maxHeartbeats 4000000 in
set_option maxRecDepth 100000 in
theorem c_X8_planAt_n (l : Launch) (G : Gx) (x0 : Nat) (pl0 : Nat) (rl0 : Nat) (sl0 : Nat) (tp0 : Nat) (rf0 : Nat) (ab0 : Nat) (tr0 : Nat) (lk0 : Nat) (td : Int) (pea : Nat) (pmd : Int) (np : Int) (pl : Int) (hpl : rI pl ∧ 0 ≤ np ∧ np ≤ 100 ∧ ¬ (0 ≤ pl ∧ pl < np)) : Met l yX8_planAt wsX8_planAt rm_c_X8_planAt_n (va_Pc [.ref x0, .int (iI pl)] (rd G ([(x0, .inr (7, [.ref pl0, .ref rl0, .ref sl0, .ref tp0, .int (iI td), .ref rf0, .ref ab0, .ref tr0, .ref lk0])), (pl0, .inr (0, [.int (iI pmd), .ref pea, .int (iI np)]))]))) (va_Sr (fun _ => True) (fun _ => .null)) 0 0 (fun _ => False) := by
  refine enR (cc := cX8_planAt) (maxL := 2) (ret := (some (.object "MilkFirst$Plan"))) (C := RX8) [(0, .ref x0), (1, .int (iI pl))] (by decide) rfl rfl (Nat.le_of_ble_eq_true rfl) rfl ?_
  intro p e s m args below meth c ls hx hb hr hml hown hts hlocks hP hK hT hN hl
  have hS : va_S (fun _ => False) s.heap s.heap [] := va_S.rf
  show W p l e rm_c_X8_planAt_n s m args below meth c s.heap [] 0 0 _ (F0 m 0 ls [])
  refine lv_iload_n hx hb dX8_planAt_0 rfl (lv_at hl 1 rfl) ?_
  refine w_if_lt (tgt := 29) hx hb dX8_planAt_1 (by decide) (by omega) (fun c_1_1 => ?_) (fun c_1_1 => ?_)
  · refine lv_null hx hb dX8_planAt_29 ?_
    exact rtRn hx hb hr hlocks (Or.inl ⟨_, rfl⟩) dX8_planAt_30
  · refine lv_iload_n hx hb dX8_planAt_4 rfl (lv_at hl 1 rfl) ?_
    refine lv_aload_n hx hb dX8_planAt_5 rfl (lv_at hl 0 rfl) ?_
    refine va_get (D := G.1) (ci := 7) (v := .ref pl0) (C := RX8) (T := TX8) (N := 9) hx hb hts (by decide +kernel) hown hK hP 0 rfl rfl 0 (by decide) (hts (.fieldLink RX8 10 "MilkFirst" "plans" "Ljava/util/ArrayList;") (by decide +kernel)) (fun _ h9 => h9) rfl dX8_planAt_6 ?_
    refine cRVi (As := []) (rest := [.int (iI pl)]) ⟨hx, hb, hml, hown, hts⟩ (c_Jx4a65c_size_8abf5 l G pl0 pea pmd np ) (cwV 0 hts gX8_planAt_Jx4a65c_size_8abf5 rfl rfl rfl (by decide +kernel) ⟨Nat.le_of_ble_eq_true rfl, Nat.le_of_ble_eq_true rfl⟩) rfl hl.1 rfl (Nat.le_of_ble_eq_true rfl) dX8_planAt_9 ⟨Nat.le_of_ble_eq_true rfl, Nat.le_of_ble_eq_true rfl⟩ (hP.sub [1] rfl) hK hT hN hS (ci := 0) rfl rfl ?_
    refine w_icmp_ge (tgt := 29) hx hb dX8_planAt_12 (by decide) (by omega) (by omega) (fun c_12_2 => ?_) (fun c_12_2 => absurd c_12_2 (by omega))
    refine lv_null hx hb dX8_planAt_29 ?_
    exact rtRn hx hb hr hlocks (Or.inl ⟨_, rfl⟩) dX8_planAt_30
abbrev rm_c_X8_ruleAt_s : Room := { frames := 3, cells := 0, slots := 0, locals := 64 }
set_option maxHeartbeats 4000000 in
set_option maxRecDepth 100000 in
theorem c_X8_ruleAt_s (l : Launch) (G : Gx) (x0 : Nat) (pl0 : Nat) (rl0 : Nat) (sl0 : Nat) (tp0 : Nat) (rf0 : Nat) (ab0 : Nat) (tr0 : Nat) (lk0 : Nat) (td : Int) (rea : Nat) (rmd : Int) (nr : Int) (rcap : Nat) (RF : Nat → Option Nat) (r0 : Nat) (k0 : Nat) (s0 : Nat) (cn : Nat) (C : Nat → Int) (A1 : Nat → Int64) (M : List Int64) (ru : Int) (hrl : 0 ≤ ru ∧ ru < nr ∧ nr ≤ rcap ∧ rcap ≤ 100) (hrf : RF ru.toNat = some r0) : Met l yX8_ruleAt wsX8_ruleAt rm_c_X8_ruleAt_s (va_Pc [.ref x0, .int (iI ru)] (rd G ([(x0, .inr (7, [.ref pl0, .ref rl0, .ref sl0, .ref tp0, .int (iI td), .ref rf0, .ref ab0, .ref tr0, .ref lk0])), (rl0, .inr (0, [.int (iI rmd), .ref rea, .int (iI nr)])), (rea, .inl (G.2.1 3, rcap, .inr (.inr (.inr (.inr RF))))), (r0, .inr (4, [.ref k0, .ref s0, .int (iI ((M.length : Nat) : Int))]))]))) (va_Sr (fun _ => True) (fun _ => .ref r0)) 0 0 (fun _ => False) := by
  refine enR (cc := cX8_ruleAt) (maxL := 2) (ret := (some (.object "MilkFirst$Rule"))) (C := RX8) [(0, .ref x0), (1, .int (iI ru))] (by decide) rfl rfl (Nat.le_of_ble_eq_true rfl) rfl ?_
  intro p e s m args below meth c ls hx hb hr hml hown hts hlocks hP hK hT hN hl
  have hS : va_S (fun _ => False) s.heap s.heap [] := va_S.rf
  show W p l e rm_c_X8_ruleAt_s s m args below meth c s.heap [] 0 0 _ (F0 m 0 ls [])
  refine lv_iload_n hx hb dX8_ruleAt_0 rfl (lv_at hl 1 rfl) ?_
  refine w_if_lt (tgt := 29) hx hb dX8_ruleAt_1 (by decide) (by omega) (fun c_1_1 => absurd c_1_1 (by omega)) (fun c_1_1 => ?_)
  refine lv_iload_n hx hb dX8_ruleAt_4 rfl (lv_at hl 1 rfl) ?_
  refine lv_aload_n hx hb dX8_ruleAt_5 rfl (lv_at hl 0 rfl) ?_
  refine va_get (D := G.1) (ci := 7) (v := .ref rl0) (C := RX8) (T := TX8) (N := 9) hx hb hts (by decide +kernel) hown hK hP 0 rfl rfl 1 (by decide) (hts (.fieldLink RX8 16 "MilkFirst" "rules" "Ljava/util/ArrayList;") (by decide +kernel)) (fun _ h9 => h9) rfl dX8_ruleAt_6 ?_
  refine cRVi (As := []) (rest := [.int (iI ru)]) ⟨hx, hb, hml, hown, hts⟩ (c_Jx4a65c_size_8abf5 l G rl0 rea rmd nr ) (cwV 0 hts gX8_ruleAt_Jx4a65c_size_8abf5 rfl rfl rfl (by decide +kernel) ⟨Nat.le_of_ble_eq_true rfl, Nat.le_of_ble_eq_true rfl⟩) rfl hl.1 rfl (Nat.le_of_ble_eq_true rfl) dX8_ruleAt_9 ⟨Nat.le_of_ble_eq_true rfl, Nat.le_of_ble_eq_true rfl⟩ (hP.sub [1] rfl) hK hT hN hS (ci := 0) rfl rfl ?_
  refine w_icmp_ge (tgt := 29) hx hb dX8_ruleAt_12 (by decide) (by omega) (by omega) (fun c_12_2 => absurd c_12_2 (by omega)) (fun c_12_2 => ?_)
  refine lv_aload_n hx hb dX8_ruleAt_15 rfl (lv_at hl 0 rfl) ?_
  refine va_get (D := G.1) (ci := 7) (v := .ref rl0) (C := RX8) (T := TX8) (N := 9) hx hb hts (by decide +kernel) hown hK hP 0 rfl rfl 1 (by decide) (hts (.fieldLink RX8 16 "MilkFirst" "rules" "Ljava/util/ArrayList;") (by decide +kernel)) (fun _ h9 => h9) rfl dX8_ruleAt_16 ?_
  refine lv_iload_n hx hb dX8_ruleAt_19 rfl (lv_at hl 1 rfl) ?_
  refine cRVr (As := [.int (iI ru)]) (rest := []) ⟨hx, hb, hml, hown, hts⟩ (c_Jx4a65c_get_915e3 l G rl0 rea rmd nr rcap RF ru r0 (by omega) (by exact hrf)) (cwV 1 hts gX8_ruleAt_Jx4a65c_get_915e3 rfl rfl rfl (by decide +kernel) ⟨Nat.le_of_ble_eq_true rfl, Nat.le_of_ble_eq_true rfl⟩) rfl hl.1 rfl (Nat.le_of_ble_eq_true rfl) dX8_ruleAt_20 ⟨Nat.le_of_ble_eq_true rfl, Nat.le_of_ble_eq_true rfl⟩ (hP.sub [1, 2] rfl) hK hT hN hS (ci := 0) rfl rfl ?_
  refine va_castS hx hb hown (hts (.classLink RX8 134 "MilkFirst$Rule") (by decide +kernel)) (hK.1 4 _ rfl).2 (va_recv hK hP (ci := 4) (q0 := 3) rfl rfl) dX8_ruleAt_23 ?_
  refine lv_goto (tgt := 30) hx hb dX8_ruleAt_26 (by decide) ?_
  exact rtRr hx hb hr hlocks (Or.inl ⟨_, rfl⟩) dX8_ruleAt_30
abbrev rm_c_X8_ruleAt_n : Room := { frames := 1, cells := 0, slots := 0, locals := 20 }
set_option maxHeartbeats 4000000 in
set_option maxRecDepth 100000 in
theorem c_X8_ruleAt_n (l : Launch) (G : Gx) (x0 : Nat) (pl0 : Nat) (rl0 : Nat) (sl0 : Nat) (tp0 : Nat) (rf0 : Nat) (ab0 : Nat) (tr0 : Nat) (lk0 : Nat) (td : Int) (rea : Nat) (rmd : Int) (nr : Int) (ru : Int) (hrl : rI ru ∧ 0 ≤ nr ∧ nr ≤ 100 ∧ ¬ (0 ≤ ru ∧ ru < nr)) : Met l yX8_ruleAt wsX8_ruleAt rm_c_X8_ruleAt_n (va_Pc [.ref x0, .int (iI ru)] (rd G ([(x0, .inr (7, [.ref pl0, .ref rl0, .ref sl0, .ref tp0, .int (iI td), .ref rf0, .ref ab0, .ref tr0, .ref lk0])), (rl0, .inr (0, [.int (iI rmd), .ref rea, .int (iI nr)]))]))) (va_Sr (fun _ => True) (fun _ => .null)) 0 0 (fun _ => False) := by
  refine enR (cc := cX8_ruleAt) (maxL := 2) (ret := (some (.object "MilkFirst$Rule"))) (C := RX8) [(0, .ref x0), (1, .int (iI ru))] (by decide) rfl rfl (Nat.le_of_ble_eq_true rfl) rfl ?_
  intro p e s m args below meth c ls hx hb hr hml hown hts hlocks hP hK hT hN hl
  have hS : va_S (fun _ => False) s.heap s.heap [] := va_S.rf
  show W p l e rm_c_X8_ruleAt_n s m args below meth c s.heap [] 0 0 _ (F0 m 0 ls [])
  refine lv_iload_n hx hb dX8_ruleAt_0 rfl (lv_at hl 1 rfl) ?_
  refine w_if_lt (tgt := 29) hx hb dX8_ruleAt_1 (by decide) (by omega) (fun c_1_1 => ?_) (fun c_1_1 => ?_)
  · refine lv_null hx hb dX8_ruleAt_29 ?_
    exact rtRn hx hb hr hlocks (Or.inl ⟨_, rfl⟩) dX8_ruleAt_30
  · refine lv_iload_n hx hb dX8_ruleAt_4 rfl (lv_at hl 1 rfl) ?_
    refine lv_aload_n hx hb dX8_ruleAt_5 rfl (lv_at hl 0 rfl) ?_
    refine va_get (D := G.1) (ci := 7) (v := .ref rl0) (C := RX8) (T := TX8) (N := 9) hx hb hts (by decide +kernel) hown hK hP 0 rfl rfl 1 (by decide) (hts (.fieldLink RX8 16 "MilkFirst" "rules" "Ljava/util/ArrayList;") (by decide +kernel)) (fun _ h9 => h9) rfl dX8_ruleAt_6 ?_
    refine cRVi (As := []) (rest := [.int (iI ru)]) ⟨hx, hb, hml, hown, hts⟩ (c_Jx4a65c_size_8abf5 l G rl0 rea rmd nr ) (cwV 0 hts gX8_ruleAt_Jx4a65c_size_8abf5 rfl rfl rfl (by decide +kernel) ⟨Nat.le_of_ble_eq_true rfl, Nat.le_of_ble_eq_true rfl⟩) rfl hl.1 rfl (Nat.le_of_ble_eq_true rfl) dX8_ruleAt_9 ⟨Nat.le_of_ble_eq_true rfl, Nat.le_of_ble_eq_true rfl⟩ (hP.sub [1] rfl) hK hT hN hS (ci := 0) rfl rfl ?_
    refine w_icmp_ge (tgt := 29) hx hb dX8_ruleAt_12 (by decide) (by omega) (by omega) (fun c_12_2 => ?_) (fun c_12_2 => absurd c_12_2 (by omega))
    refine lv_null hx hb dX8_ruleAt_29 ?_
    exact rtRn hx hb hr hlocks (Or.inl ⟨_, rfl⟩) dX8_ruleAt_30
abbrev rm_c_X8_endsOf_5 : Room := { frames := 0, cells := 0, slots := 0, locals := 0 }
set_option maxHeartbeats 4000000 in
set_option maxRecDepth 100000 in
theorem c_X8_endsOf_5 (l : Launch) (G : Gx) (x0 : Nat) (pl0 : Nat) (rl0 : Nat) (sl0 : Nat) (tp0 : Nat) (rf0 : Nat) (ab0 : Nat) (tr0 : Nat) (lk0 : Nat) (td : Int) (p0 : Nat) (e0 : Nat) (kd : Int) (n : Int) (k : Int) (a : Int) (h5 : a = 5) : Met l yX8_endsOf wsX8_endsOf rm_c_X8_endsOf_5 (va_Pc [.ref x0, .ref p0, .int (iI a)] (rd G ([(x0, .inr (7, [.ref pl0, .ref rl0, .ref sl0, .ref tp0, .int (iI td), .ref rf0, .ref ab0, .ref tr0, .ref lk0])), (p0, .inr (3, [.int (iI kd), .int (iI n), .int (iI k), .ref e0]))]))) (va_Sr (fun _ => True) (fun _ => .ref e0)) 0 0 (fun _ => False) := by
  refine enR (cc := cX8_endsOf) (maxL := 3) (ret := (some (.object "MilkFirst$Ends"))) (C := RX8) [(0, .ref x0), (1, .ref p0), (2, .int (iI a))] (by decide) rfl rfl (Nat.le_of_ble_eq_true rfl) rfl ?_
  intro p e s m args below meth c ls hx hb hr hml hown hts hlocks hP hK hT hN hl
  have hS : va_S (fun _ => False) s.heap s.heap [] := va_S.rf
  show W p l e rm_c_X8_endsOf_5 s m args below meth c s.heap [] 0 0 _ (F0 m 0 ls [])
  refine lv_iload_n hx hb dX8_endsOf_0 rfl (lv_at hl 2 rfl) ?_
  refine lv_iconst (v := iI 5) hx hb dX8_endsOf_1 rfl ?_
  refine w_icmp_ne (tgt := 10) hx hb dX8_endsOf_2 (by decide) (by omega) (by decide) (fun c_2_1 => absurd c_2_1 (by omega)) (fun c_2_1 => ?_)
  refine lv_aload_n hx hb dX8_endsOf_5 rfl (lv_at hl 1 rfl) ?_
  refine va_get (D := G.1) (ci := 3) (v := .ref e0) (C := RX3) (T := TX3) (N := 4) hx hb hts (by decide +kernel) hown hK hP 1 rfl rfl 3 (by decide) (hts (.fieldLink RX8 155 "MilkFirst$Plan" "nobody" "LMilkFirst$Ends;") (by decide +kernel)) (fun _ h9 => h9) rfl dX8_endsOf_6 ?_
  exact rtRr hx hb hr hlocks (Or.inl ⟨_, rfl⟩) dX8_endsOf_9
abbrev rm_c_X8_endsOf_f : Room := { frames := 5, cells := 0, slots := 0, locals := 140 }
set_option maxHeartbeats 4000000 in
set_option maxRecDepth 100000 in
theorem c_X8_endsOf_f (l : Launch) (G : Gx) (x0 : Nat) (pl0 : Nat) (rl0 : Nat) (sl0 : Nat) (tp0 : Nat) (rf0 : Nat) (ab0 : Nat) (tr0 : Nat) (lk0 : Nat) (td : Int) (p0 : Nat) (e0 : Nat) (kd : Int) (n : Int) (k : Int) (ac0 : Nat) (abk0 : Nat) (aj0 : Nat) (al : Int) (mo : Int) (AF : Nat → Int) (AB : Nat → Int) (AJ : Nat → Int) (a : Int) (sz : Nat) (hv : okP kd n k) (hrk : rI k) (h5 : a ≠ 5) (ha : 0 ≤ a ∧ a ≤ 10) : Met l yX8_endsOf wsX8_endsOf rm_c_X8_endsOf_f (va_Pc [.ref x0, .ref p0, .int (iI a)] (wr G ([(x0, .inr (7, [.ref pl0, .ref rl0, .ref sl0, .ref tp0, .int (iI td), .ref rf0, .ref ab0, .ref tr0, .ref lk0])), (p0, .inr (3, [.int (iI kd), .int (iI n), .int (iI k), .ref e0])), (ab0, .inr (1, [.ref ac0, .ref abk0, .ref aj0, .long (lI al), .int (iI mo)])), (ac0, .inl (G.2.1 1, 13, .inr (.inl (aL AF)))), (abk0, .inl (G.2.1 1, 5, .inr (.inl (aL AB)))), (aj0, .inl (G.2.1 1, 13, .inr (.inl (aL AJ))))]) sz)) (va_Qr (fun (u : (Nat → Int) × (Nat → Int) × (Nat → Int)) => ∀ j : Nat, j < 13 → u.1 j = csZ kd n k a j) (Bwr G.1 vwCl (fun (u : (Nat → Int) × (Nat → Int) × (Nat → Int)) => [(x0, .inr (7, [.ref pl0, .ref rl0, .ref sl0, .ref tp0, .int (iI td), .ref rf0, .ref ab0, .ref tr0, .ref lk0])), (p0, .inr (3, [.int (iI kd), .int (iI n), .int (iI k), .ref e0])), (ab0, .inr (1, [.ref ac0, .ref abk0, .ref aj0, .long (lI (alZ kd n)), .int (iI (moZ kd n))])), (ac0, .inl (G.2.1 1, 13, .inr (.inl (aL u.1)))), (abk0, .inl (G.2.1 1, 5, .inr (.inl (aL u.2.1)))), (aj0, .inl (G.2.1 1, 13, .inr (.inl (aL u.2.2))))]) (fun (u : (Nat → Int) × (Nat → Int) × (Nat → Int)) => ab0) (va_A ([(x0, .inr (7, [.ref pl0, .ref rl0, .ref sl0, .ref tp0, .int (iI td), .ref rf0, .ref ab0, .ref tr0, .ref lk0])), (p0, .inr (3, [.int (iI kd), .int (iI n), .int (iI k), .ref e0])), (ab0, .inr (1, [.ref ac0, .ref abk0, .ref aj0, .long (lI al), .int (iI mo)])), (ac0, .inl (G.2.1 1, 13, .inr (.inl (aL AF)))), (abk0, .inl (G.2.1 1, 5, .inr (.inl (aL AB)))), (aj0, .inl (G.2.1 1, 13, .inr (.inl (aL AJ))))]) sz)) (va_A ([(x0, .inr (7, [.ref pl0, .ref rl0, .ref sl0, .ref tp0, .int (iI td), .ref rf0, .ref ab0, .ref tr0, .ref lk0])), (p0, .inr (3, [.int (iI kd), .int (iI n), .int (iI k), .ref e0])), (ab0, .inr (1, [.ref ac0, .ref abk0, .ref aj0, .long (lI al), .int (iI mo)])), (ac0, .inl (G.2.1 1, 13, .inr (.inl (aL AF)))), (abk0, .inl (G.2.1 1, 5, .inr (.inl (aL AB)))), (aj0, .inl (G.2.1 1, 13, .inr (.inl (aL AJ))))]) sz)) 0 0 (va_A ([(x0, .inr (7, [.ref pl0, .ref rl0, .ref sl0, .ref tp0, .int (iI td), .ref rf0, .ref ab0, .ref tr0, .ref lk0])), (p0, .inr (3, [.int (iI kd), .int (iI n), .int (iI k), .ref e0])), (ab0, .inr (1, [.ref ac0, .ref abk0, .ref aj0, .long (lI al), .int (iI mo)])), (ac0, .inl (G.2.1 1, 13, .inr (.inl (aL AF)))), (abk0, .inl (G.2.1 1, 5, .inr (.inl (aL AB)))), (aj0, .inl (G.2.1 1, 13, .inr (.inl (aL AJ))))]) sz) := by
  refine enW (y := yX8_endsOf) (ws := wsX8_endsOf) (As := [.ref x0, .ref p0, .int (iI a)]) (Qc := fun A => (va_Qr (fun (u : (Nat → Int) × (Nat → Int) × (Nat → Int)) => ∀ j : Nat, j < 13 → u.1 j = csZ kd n k a j) (Bwr G.1 vwCl (fun (u : (Nat → Int) × (Nat → Int) × (Nat → Int)) => [(x0, .inr (7, [.ref pl0, .ref rl0, .ref sl0, .ref tp0, .int (iI td), .ref rf0, .ref ab0, .ref tr0, .ref lk0])), (p0, .inr (3, [.int (iI kd), .int (iI n), .int (iI k), .ref e0])), (ab0, .inr (1, [.ref ac0, .ref abk0, .ref aj0, .long (lI (alZ kd n)), .int (iI (moZ kd n))])), (ac0, .inl (G.2.1 1, 13, .inr (.inl (aL u.1)))), (abk0, .inl (G.2.1 1, 5, .inr (.inl (aL u.2.1)))), (aj0, .inl (G.2.1 1, 13, .inr (.inl (aL u.2.2))))]) (fun (u : (Nat → Int) × (Nat → Int) × (Nat → Int)) => ab0) A) A)) (mc := 0) (ms := 0) (cc := cX8_endsOf) (maxL := 3) (ret := (some (.object "MilkFirst$Ends"))) (C := RX8) [(0, .ref x0), (1, .ref p0), (2, .int (iI a))] (by decide) rfl rfl (Nat.le_of_ble_eq_true rfl) rfl ?_
  intro p e s m args below meth c ls A hx hb hr hml hown hts hlocks hin hP hK hD hT hN hA hS hl
  show W p l e rm_c_X8_endsOf_f s m args below meth c s.heap [] 0 0 _ (F0 m 0 ls [])
  refine lv_iload_n hx hb dX8_endsOf_0 rfl (lv_at hl 2 rfl) ?_
  refine lv_iconst (v := iI 5) hx hb dX8_endsOf_1 rfl ?_
  refine w_icmp_ne (tgt := 10) hx hb dX8_endsOf_2 (by decide) (by omega) (by decide) (fun c_2_1 => ?_) (fun c_2_1 => absurd c_2_1 (by omega))
  refine lv_aload_n hx hb dX8_endsOf_10 rfl (lv_at hl 0 rfl) ?_
  refine va_get (D := G.1) (ci := 7) (v := .ref ab0) (C := RX8) (T := TX8) (N := 9) hx hb hts (by decide +kernel) hown hK hP 0 rfl rfl 6 (by decide) (hts (.fieldLink RX8 40 "MilkFirst" "able" "LMilkFirst$Ends;") (by decide +kernel)) (fun _ h9 => h9) rfl dX8_endsOf_11 ?_
  refine lv_aload_n hx hb dX8_endsOf_14 rfl (lv_at hl 1 rfl) ?_
  refine va_get (D := G.1) (ci := 3) (v := .int (iI kd)) (C := RX3) (T := TX3) (N := 4) hx hb hts (by decide +kernel) hown hK hP 1 rfl rfl 0 (by decide) (hts (.fieldLink RX8 179 "MilkFirst$Plan" "kind" "I") (by decide +kernel)) (fun _ h9 => h9) rfl dX8_endsOf_15 ?_
  refine lv_aload_n hx hb dX8_endsOf_18 rfl (lv_at hl 1 rfl) ?_
  refine va_get (D := G.1) (ci := 3) (v := .int (iI n)) (C := RX3) (T := TX3) (N := 4) hx hb hts (by decide +kernel) hown hK hP 1 rfl rfl 1 (by decide) (hts (.fieldLink RX8 182 "MilkFirst$Plan" "n" "I") (by decide +kernel)) (fun _ h9 => h9) rfl dX8_endsOf_19 ?_
  refine lv_aload_n hx hb dX8_endsOf_22 rfl (lv_at hl 1 rfl) ?_
  refine va_get (D := G.1) (ci := 3) (v := .int (iI k)) (C := RX3) (T := TX3) (N := 4) hx hb hts (by decide +kernel) hown hK hP 1 rfl rfl 2 (by decide) (hts (.fieldLink RX8 202 "MilkFirst$Plan" "k" "I") (by decide +kernel)) (fun _ h9 => h9) rfl dX8_endsOf_23 ?_
  refine lv_iload_n hx hb dX8_endsOf_26 rfl (lv_at hl 2 rfl) ?_
  refine cWVv0 (As := [.int (iI kd), .int (iI n), .int (iI k), .int (iI a)]) (rest := []) (wr0 := [(x0, .inr (7, [.ref pl0, .ref rl0, .ref sl0, .ref tp0, .int (iI td), .ref rf0, .ref ab0, .ref tr0, .ref lk0])), (p0, .inr (3, [.int (iI kd), .int (iI n), .int (iI k), .ref e0]))]) ⟨hx, hb, hml, hown, hts⟩ (c_X0_fill l G ab0 ac0 abk0 aj0 AF AB AJ al mo kd n k a s.heap.size (by exact hv) (by exact ha) (by exact hrk)) (cwV 4 hts gX8_endsOf_X0_fill rfl rfl rfl (by decide +kernel) ⟨Nat.le_of_ble_eq_true rfl, Nat.le_of_ble_eq_true rfl⟩) rfl hl.1 rfl (Nat.le_of_ble_eq_true rfl) dX8_endsOf_27 ⟨Nat.le_of_ble_eq_true rfl, Nat.le_of_ble_eq_true rfl⟩ hP hD hK hT hN hS hA [2, 3, 4, 5] [0, 1] rfl rfl (by decide) (by decide) (by decide) (ci := 1) rfl rfl (fun u_2 hu_2 H locs hz_2 hP hD hS => ?_)
  obtain ⟨F2_2, B2_2, J2_2⟩ := u_2
  try dsimp only at hu_2
  have hP : va_P G.1 vwCl ([(x0, .inr (7, [.ref pl0, .ref rl0, .ref sl0, .ref tp0, .int (iI td), .ref rf0, .ref ab0, .ref tr0, .ref lk0])), (p0, .inr (3, [.int (iI kd), .int (iI n), .int (iI k), .ref e0])), (ab0, .inr (1, [.ref ac0, .ref abk0, .ref aj0, .long (lI (alZ kd n)), .int (iI (moZ kd n))])), (ac0, .inl (G.2.1 1, 13, .inr (.inl (aL F2_2)))), (abk0, .inl (G.2.1 1, 5, .inr (.inl (aL B2_2)))), (aj0, .inl (G.2.1 1, 13, .inr (.inl (aL J2_2))))]) H := hP
  have hD : va_D A ([(x0, .inr (7, [.ref pl0, .ref rl0, .ref sl0, .ref tp0, .int (iI td), .ref rf0, .ref ab0, .ref tr0, .ref lk0])), (p0, .inr (3, [.int (iI kd), .int (iI n), .int (iI k), .ref e0])), (ab0, .inr (1, [.ref ac0, .ref abk0, .ref aj0, .long (lI (alZ kd n)), .int (iI (moZ kd n))])), (ac0, .inl (G.2.1 1, 13, .inr (.inl (aL F2_2)))), (abk0, .inl (G.2.1 1, 5, .inr (.inl (aL B2_2)))), (aj0, .inl (G.2.1 1, 13, .inr (.inl (aL J2_2))))]) := hD
  have hz9 := hu_2
  refine lv_aload_n hx hb dX8_endsOf_30 rfl (lv_at hl 0 rfl) ?_
  refine va_get (D := G.1) (ci := 7) (v := .ref ab0) (C := RX8) (T := TX8) (N := 9) hx hb hts (by decide +kernel) hown hK hP 0 rfl rfl 6 (by decide) (hts (.fieldLink RX8 40 "MilkFirst" "able" "LMilkFirst$Ends;") (by decide +kernel)) (fun _ h9 => h9) rfl dX8_endsOf_31 ?_
  exact rtWr hx hb hr hlocks (Or.inl ⟨_, rfl⟩) dX8_endsOf_34 (F2_2, B2_2, J2_2) (show ∀ j : Nat, j < 13 → F2_2 j = csZ kd n k a j from hz9) hP hD hS
abbrev rm_c_X8_heldBy : Room := { frames := 4, cells := 0, slots := 0, locals := 89 }
set_option maxHeartbeats 4000000 in
set_option maxRecDepth 100000 in
theorem c_X8_heldBy (l : Launch) (G : Gx) (r0 : Nat) (k0 : Nat) (s0 : Nat) (cn : Nat) (C : Nat → Int) (A1 : Nat → Int64) (M : List Int64) (p0 : Nat) (e0 : Nat) (kd : Int) (n : Int) (k : Int) (g0 : Nat) (gc : Nat) (gb : Nat) (gj : Nat) (gal : Int) (gmo : Int) (GF : Nat → Int) (f : Nat → Int) (sz : Nat) (hcn : cn ≤ 40) (hM : M.length ≤ cn) (hst : stT A1 M) (hC : ∀ j : Nat, j < cn → -200 ≤ C j ∧ C j ≤ 99) (hv : okP kd n k) (hrk : rI k) (hGF : ∀ j : Nat, j < 13 → GF j = f j) (hfr : ∀ j : Nat, j < 13 → rL (f j)) : Met l yX8_heldBy wsX8_heldBy rm_c_X8_heldBy (va_Pc [.ref r0, .ref p0, .ref g0] (wr G ([(r0, .inr (4, [.ref k0, .ref s0, .int (iI ((M.length : Nat) : Int))])), (k0, .inl (G.2.1 0, cn, .inl (aI C))), (s0, .inl (G.2.1 1, cn, .inr (.inl A1))), (p0, .inr (3, [.int (iI kd), .int (iI n), .int (iI k), .ref e0])), (g0, .inr (1, [.ref gc, .ref gb, .ref gj, .long (lI gal), .int (iI gmo)])), (gc, .inl (G.2.1 1, 13, .inr (.inl (aL GF))))]) sz)) (va_Ql (fun (rv : Int64) (u : (List Int64) × (Nat → Int64)) => rv = (lI (hbS C cn kd n k f (moZ kd n + 1).toNat)) ∧ (u.1.length ≤ cn ∧ stT u.2 u.1)) (Bw G.1 vwCl (fun (u : (List Int64) × (Nat → Int64)) => [(r0, .inr (4, [.ref k0, .ref s0, .int (iI ((u.1.length : Nat) : Int))])), (k0, .inl (G.2.1 0, cn, .inl (aI C))), (s0, .inl (G.2.1 1, cn, .inr (.inl u.2))), (p0, .inr (3, [.int (iI kd), .int (iI n), .int (iI k), .ref e0])), (g0, .inr (1, [.ref gc, .ref gb, .ref gj, .long (lI gal), .int (iI gmo)])), (gc, .inl (G.2.1 1, 13, .inr (.inl (aL GF))))]) (va_A ([(r0, .inr (4, [.ref k0, .ref s0, .int (iI ((M.length : Nat) : Int))])), (k0, .inl (G.2.1 0, cn, .inl (aI C))), (s0, .inl (G.2.1 1, cn, .inr (.inl A1))), (p0, .inr (3, [.int (iI kd), .int (iI n), .int (iI k), .ref e0])), (g0, .inr (1, [.ref gc, .ref gb, .ref gj, .long (lI gal), .int (iI gmo)])), (gc, .inl (G.2.1 1, 13, .inr (.inl (aL GF))))]) sz)) (va_A ([(r0, .inr (4, [.ref k0, .ref s0, .int (iI ((M.length : Nat) : Int))])), (k0, .inl (G.2.1 0, cn, .inl (aI C))), (s0, .inl (G.2.1 1, cn, .inr (.inl A1))), (p0, .inr (3, [.int (iI kd), .int (iI n), .int (iI k), .ref e0])), (g0, .inr (1, [.ref gc, .ref gb, .ref gj, .long (lI gal), .int (iI gmo)])), (gc, .inl (G.2.1 1, 13, .inr (.inl (aL GF))))]) sz)) 0 0 (va_A ([(r0, .inr (4, [.ref k0, .ref s0, .int (iI ((M.length : Nat) : Int))])), (k0, .inl (G.2.1 0, cn, .inl (aI C))), (s0, .inl (G.2.1 1, cn, .inr (.inl A1))), (p0, .inr (3, [.int (iI kd), .int (iI n), .int (iI k), .ref e0])), (g0, .inr (1, [.ref gc, .ref gb, .ref gj, .long (lI gal), .int (iI gmo)])), (gc, .inl (G.2.1 1, 13, .inr (.inl (aL GF))))]) sz) := by
  refine enW (y := yX8_heldBy) (ws := wsX8_heldBy) (As := [.ref r0, .ref p0, .ref g0]) (Qc := fun A => (va_Ql (fun (rv : Int64) (u : (List Int64) × (Nat → Int64)) => rv = (lI (hbS C cn kd n k f (moZ kd n + 1).toNat)) ∧ (u.1.length ≤ cn ∧ stT u.2 u.1)) (Bw G.1 vwCl (fun (u : (List Int64) × (Nat → Int64)) => [(r0, .inr (4, [.ref k0, .ref s0, .int (iI ((u.1.length : Nat) : Int))])), (k0, .inl (G.2.1 0, cn, .inl (aI C))), (s0, .inl (G.2.1 1, cn, .inr (.inl u.2))), (p0, .inr (3, [.int (iI kd), .int (iI n), .int (iI k), .ref e0])), (g0, .inr (1, [.ref gc, .ref gb, .ref gj, .long (lI gal), .int (iI gmo)])), (gc, .inl (G.2.1 1, 13, .inr (.inl (aL GF))))]) A) A)) (mc := 0) (ms := 0) (cc := cX8_heldBy) (maxL := 8) (ret := (some .long)) (C := RX8) [(0, .ref r0), (1, .ref p0), (2, .ref g0)] (by decide) rfl rfl (Nat.le_of_ble_eq_true rfl) rfl ?_
  intro p e s m args below meth c ls A hx hb hr hml hown hts hlocks hin hP hK hD hT hN hA hS hl
  show W p l e rm_c_X8_heldBy s m args below meth c s.heap [] 0 0 _ (F0 m 0 ls [])
  have hmo9 := moZ_b hv
  refine lv_lconst (v := lI 0) hx hb dX8_heldBy_0 (by decide) ?_
  refine lv_lstore_n (lv' := [(3, .long (lI 0)), (0, .ref r0), (1, .ref p0), (2, .ref g0)]) hx hb dX8_heldBy_1 rfl hl (by decide) rfl (fun ls hl => ?_)
  refine lv_iconst (v := iI 0) hx hb dX8_heldBy_2 rfl ?_
  refine lv_istore (lv' := [(5, .int (iI 0)), (3, .long (lI 0)), (0, .ref r0), (1, .ref p0), (2, .ref g0)]) hx hb dX8_heldBy_3 hl (by decide) rfl (fun ls hl => ?_)
  have lp_5 : ∀ (μ5 : Nat) (i : Int) (sm : Int) (M2 : List Int64) (A2 : Nat → Int64) (hi : 0 ≤ i ∧ i ≤ moZ kd n + 1) (hs : sm = hbS C cn kd n k f i.toNat) (hM2 : M2.length ≤ cn ∧ stT A2 M2) (hμ5 : (moZ kd n + 1 - i).toNat < μ5) (H : Heap) (locs : List Loc) (ls : Array Slot) (hP : va_P G.1 vwCl ([(r0, .inr (4, [.ref k0, .ref s0, .int (iI ((M2.length : Nat) : Int))])), (k0, .inl (G.2.1 0, cn, .inl (aI C))), (s0, .inl (G.2.1 1, cn, .inr (.inl A2))), (p0, .inr (3, [.int (iI kd), .int (iI n), .int (iI k), .ref e0])), (g0, .inr (1, [.ref gc, .ref gb, .ref gj, .long (lI gal), .int (iI gmo)])), (gc, .inl (G.2.1 1, 13, .inr (.inl (aL GF))))]) H) (hD : va_D A ([(r0, .inr (4, [.ref k0, .ref s0, .int (iI ((M2.length : Nat) : Int))])), (k0, .inl (G.2.1 0, cn, .inl (aI C))), (s0, .inl (G.2.1 1, cn, .inr (.inl A2))), (p0, .inr (3, [.int (iI kd), .int (iI n), .int (iI k), .ref e0])), (g0, .inr (1, [.ref gc, .ref gb, .ref gj, .long (lI gal), .int (iI gmo)])), (gc, .inl (G.2.1 1, 13, .inr (.inl (aL GF))))])) (hS : va_S A s.heap H locs) (hl : lv_has ls 8 [(5, .int (iI i)), (3, .long (lI sm)), (0, .ref r0), (1, .ref p0), (2, .ref g0)]), W p l e rm_c_X8_heldBy s m args below meth c H locs 0 0 (MQ below (va_Ql (fun (rv : Int64) (u : (List Int64) × (Nat → Int64)) => rv = (lI (hbS C cn kd n k f (moZ kd n + 1).toNat)) ∧ (u.1.length ≤ cn ∧ stT u.2 u.1)) (Bw G.1 vwCl (fun (u : (List Int64) × (Nat → Int64)) => [(r0, .inr (4, [.ref k0, .ref s0, .int (iI ((u.1.length : Nat) : Int))])), (k0, .inl (G.2.1 0, cn, .inl (aI C))), (s0, .inl (G.2.1 1, cn, .inr (.inl u.2))), (p0, .inr (3, [.int (iI kd), .int (iI n), .int (iI k), .ref e0])), (g0, .inr (1, [.ref gc, .ref gb, .ref gj, .long (lI gal), .int (iI gmo)])), (gc, .inl (G.2.1 1, 13, .inr (.inl (aL GF))))]) A) A) args s 0 0 A) (F0 m 5 ls []) := by
    intro μ5
    induction μ5 with
    | zero => intro i sm M2 A2 hi hs hM2 hμ5; exact absurd hμ5 (Nat.not_lt_zero _)
    | succ μ5 ih5 =>
      intro i sm M2 A2 hi hs hM2 hμ5 H locs ls hP hD hS hl
      have hmo9 := moZ_b hv
      refine lv_iload hx hb dX8_heldBy_5 (lv_at hl 0 rfl) ?_
      refine lv_aload_n hx hb dX8_heldBy_7 rfl (lv_at hl 3 rfl) ?_
      refine cRVi (As := []) (rest := [.int (iI i)]) ⟨hx, hb, hml, hown, hts⟩ (c_X3_most l G p0 e0 kd n k (by exact hv)) (cwV 0 hts gX8_heldBy_X3_most rfl rfl rfl (by decide +kernel) ⟨Nat.le_of_ble_eq_true rfl, Nat.le_of_ble_eq_true rfl⟩) rfl hl.1 rfl (Nat.le_of_ble_eq_true rfl) dX8_heldBy_8 ⟨Nat.le_of_ble_eq_true rfl, Nat.le_of_ble_eq_true rfl⟩ (hP.sub [3] rfl) hK hT hN hS (ci := 3) rfl rfl ?_
      refine w_icmp_gt (tgt := 50) hx hb dX8_heldBy_11 (by decide) (by omega) (by omega) (fun c_11_1 => ?_) (fun c_11_1 => ?_)
      · refine lv_lload_n hx hb dX8_heldBy_50 rfl (lv_at hl 1 rfl) ?_
        exact rtWl hx hb hr hlocks dX8_heldBy_51 (M2, A2) (show (lI sm) = (lI (hbS C cn kd n k f (moZ kd n + 1).toNat)) ∧ (M2.length ≤ cn ∧ stT A2 M2) from ⟨congrArg lI (by rw [hs, show i = moZ kd n + 1 from by omega]), hM2⟩) hP hD hS
      · refine lv_aload_n hx hb dX8_heldBy_14 rfl (lv_at hl 4 rfl) ?_
        refine lv_iload hx hb dX8_heldBy_15 (lv_at hl 0 rfl) ?_
        refine cRVl (As := [.int (iI i)]) (rest := []) ⟨hx, hb, hml, hown, hts⟩ (c_X0_just l G g0 gc gb gj GF gal gmo i (by omega)) (cwV 1 hts gX8_heldBy_X0_just rfl rfl rfl (by decide +kernel) ⟨Nat.le_of_ble_eq_true rfl, Nat.le_of_ble_eq_true rfl⟩) rfl hl.1 rfl (Nat.le_of_ble_eq_true rfl) dX8_heldBy_17 ⟨Nat.le_of_ble_eq_true rfl, Nat.le_of_ble_eq_true rfl⟩ (hP.sub [4, 5] rfl) hK hT hN hS (ci := 1) rfl rfl ?_
        refine W.eq (g2 := F0 m 20 ls [.long (lI (f i.toNat))]) (by first | (rw [show (.long (lI (if 0 ≤ i ∧ i < 13 then GF i.toNat else 0)) : Value) = .long (lI (f i.toNat)) from by rw [if_pos (by omega), hGF i.toNat (by omega)]]) | rfl) ?_
        refine lv_lstore (lv' := [(6, .long (lI (f i.toNat))), (5, .int (iI i)), (3, .long (lI sm)), (0, .ref r0), (1, .ref p0), (2, .ref g0)]) hx hb dX8_heldBy_20 hl (by decide) rfl (fun ls hl => ?_)
        refine lv_lload hx hb dX8_heldBy_22 (lv_at hl 0 rfl) ?_
        refine lv_lconst (v := lI 0) hx hb dX8_heldBy_24 (by decide) ?_
        refine w_lc_eq (tgt := 44) hx hb dX8_heldBy_25 dX8_heldBy_26 (by decide) (hfr i.toNat (by omega)) (by decide) (fun c_25_2 => ?_) (fun c_25_2 => ?_)
        · refine w_iinc (k := 1) (lv' := [(5, .int (iI (i + 1))), (6, .long (lI (f i.toNat))), (3, .long (lI sm)), (0, .ref r0), (1, .ref p0), (2, .ref g0)]) hx hb dX8_heldBy_44 hl rfl (by decide) rfl (fun ls hl => ?_)
          refine lv_goto (tgt := 5) hx hb dX8_heldBy_47 (by decide) ?_
          exact ih5 (i + 1) sm M2 A2 (by omega) (by exact hb_0 hi.1 hs (fun z => z.1 (by omega))) (by exact hM2) (by omega) _ _ _ hP hD hS (lv_sub hl [0, 2, 3, 4, 5] rfl)
        · refine lv_aload_n hx hb dX8_heldBy_29 rfl (lv_at hl 3 rfl) ?_
          refine lv_aload_n hx hb dX8_heldBy_30 rfl (lv_at hl 4 rfl) ?_
          refine lv_iload hx hb dX8_heldBy_31 (lv_at hl 1 rfl) ?_
          refine cWVi0 (As := [.ref p0, .int (iI i)]) (rest := []) (wr0 := [(g0, .inr (1, [.ref gc, .ref gb, .ref gj, .long (lI gal), .int (iI gmo)])), (gc, .inl (G.2.1 1, 13, .inr (.inl (aL GF))))]) ⟨hx, hb, hml, hown, hts⟩ (c_X4_holds l G r0 k0 s0 cn C A2 M2 p0 e0 kd n k i H.size (by exact hcn) (by exact hM2.1) (by exact hM2.2) (by exact hv) (by exact hC) (by omega) (by exact hrk)) (cwV 2 hts gX8_heldBy_X4_holds rfl rfl rfl (by decide +kernel) ⟨Nat.le_of_ble_eq_true rfl, Nat.le_of_ble_eq_true rfl⟩) rfl hl.1 rfl (Nat.le_of_ble_eq_true rfl) dX8_heldBy_33 ⟨Nat.le_of_ble_eq_true rfl, Nat.le_of_ble_eq_true rfl⟩ hP hD hK hT hN hS hA [0, 1, 2, 3] [4, 5] rfl rfl (by decide) (by decide) (by decide) (ci := 4) rfl rfl (fun r_ u_3 hu_3 H locs hz_3 hP hD hS => ?_)
          obtain ⟨L2_3, A2_3⟩ := u_3
          obtain ⟨rfl, hu_3⟩ := hu_3
          try dsimp only at hu_3
          have hP : va_P G.1 vwCl ([(g0, .inr (1, [.ref gc, .ref gb, .ref gj, .long (lI gal), .int (iI gmo)])), (gc, .inl (G.2.1 1, 13, .inr (.inl (aL GF)))), (r0, .inr (4, [.ref k0, .ref s0, .int (iI ((L2_3.length : Nat) : Int))])), (k0, .inl (G.2.1 0, cn, .inl (aI C))), (s0, .inl (G.2.1 1, cn, .inr (.inl A2_3))), (p0, .inr (3, [.int (iI kd), .int (iI n), .int (iI k), .ref e0]))]) H := hP
          have hD : va_D A ([(g0, .inr (1, [.ref gc, .ref gb, .ref gj, .long (lI gal), .int (iI gmo)])), (gc, .inl (G.2.1 1, 13, .inr (.inl (aL GF)))), (r0, .inr (4, [.ref k0, .ref s0, .int (iI ((L2_3.length : Nat) : Int))])), (k0, .inl (G.2.1 0, cn, .inl (aI C))), (s0, .inl (G.2.1 1, cn, .inr (.inl A2_3))), (p0, .inr (3, [.int (iI kd), .int (iI n), .int (iI k), .ref e0]))]) := hD
          have hu9_3 := hu_3
          refine w_bz_eq (tgt := 44) hx hb dX8_heldBy_36 (by decide) (fun c_36_4 => ?_) (fun c_36_4 => ?_)
          · refine w_iinc (k := 1) (lv' := [(5, .int (iI (i + 1))), (6, .long (lI (f i.toNat))), (3, .long (lI sm)), (0, .ref r0), (1, .ref p0), (2, .ref g0)]) hx hb dX8_heldBy_44 hl rfl (by decide) rfl (fun ls hl => ?_)
            refine lv_goto (tgt := 5) hx hb dX8_heldBy_47 (by decide) ?_
            exact ih5 (i + 1) sm L2_3 A2_3 (by omega) (by exact hb_0 hi.1 hs (fun z => absurd z.2 (by assumption))) (by exact hu9_3) (by omega) _ _ _ (hP.sub [2, 3, 4, 5, 0, 1] rfl) (hD.sub [2, 3, 4, 5, 0, 1] (by decide) rfl) hS (lv_sub hl [0, 2, 3, 4, 5] rfl)
          · refine lv_lload_n hx hb dX8_heldBy_39 rfl (lv_at hl 2 rfl) ?_
            refine lv_lload hx hb dX8_heldBy_40 (lv_at hl 0 rfl) ?_
            refine w_ladd hx hb dX8_heldBy_42 ?_
            refine lv_lstore_n (lv' := [(3, .long (lI (sm + (f i.toNat)))), (6, .long (lI (f i.toNat))), (5, .int (iI i)), (0, .ref r0), (1, .ref p0), (2, .ref g0)]) hx hb dX8_heldBy_43 rfl hl (by decide) rfl (fun ls hl => ?_)
            refine w_iinc (k := 2) (lv' := [(5, .int (iI (i + 1))), (3, .long (lI (sm + (f i.toNat)))), (6, .long (lI (f i.toNat))), (0, .ref r0), (1, .ref p0), (2, .ref g0)]) hx hb dX8_heldBy_44 hl rfl (by decide) rfl (fun ls hl => ?_)
            refine lv_goto (tgt := 5) hx hb dX8_heldBy_47 (by decide) ?_
            exact ih5 (i + 1) (sm + (f i.toNat)) L2_3 A2_3 (by omega) (by exact hb_1 hi.1 hs (by omega) (by assumption)) (by exact hu9_3) (by omega) _ _ _ (hP.sub [2, 3, 4, 5, 0, 1] rfl) (hD.sub [2, 3, 4, 5, 0, 1] (by decide) rfl) hS (lv_sub hl [0, 1, 3, 4, 5] rfl)
  exact lp_5 ((moZ kd n + 1 - (0 : Int)).toNat + 1) 0 0 M A1 (by omega) (by rfl) (by exact ⟨hM, hst⟩) (Nat.lt_succ_self _) _ _ _ hP hD hS (lv_sub hl [0, 1, 2, 3, 4] rfl)
