abbrev rm_c_X9_bits : Room := { frames := 0, cells := 0, slots := 0, locals := 0 }
set_option maxHeartbeats 4000000 in
set_option maxRecDepth 100000 in
theorem c_X9_bits (l : Launch) (G : Gx) (x : Int) (hx0 : 0 ≤ x ∧ x < 8192) : Met l yX9_bits wsX9_bits rm_c_X9_bits (va_Pc [.int (iI x)] (rd G ([]))) (vp_Si (fun rv => rv = (iI (pcZ x)))) 0 0 (fun _ => False) := by
  refine enR (cc := cX9_bits) (maxL := 3) (ret := (some .int)) (C := RX9) [(0, .int (iI x))] (by decide) rfl rfl (Nat.le_of_ble_eq_true rfl) rfl ?_
  intro p e s m args below meth c ls hx hb hr hml hown hts hlocks hP hK hT hN hl
  have hS : va_S (fun _ => False) s.heap s.heap [] := va_S.rf
  show W p l e rm_c_X9_bits s m args below meth c s.heap [] 0 0 _ (F0 m 0 ls [])
  refine lv_iconst (v := iI 0) hx hb dX9_bits_0 rfl ?_
  refine lv_istore_n (lv' := [(1, .int (iI 0)), (0, .int (iI x))]) hx hb dX9_bits_1 rfl hl (by decide) rfl (fun ls hl => ?_)
  refine lv_iload_n hx hb dX9_bits_2 rfl (lv_at hl 1 rfl) ?_
  refine lv_istore_n (lv' := [(2, .int (iI x)), (1, .int (iI 0)), (0, .int (iI x))]) hx hb dX9_bits_3 rfl hl (by decide) rfl (fun ls hl => ?_)
  have lp_4 : ∀ (μ4 : Nat) (z : Int) (v : Int) (f : Nat) (hz : z + (pcn f v.toNat : Int) = pcZ x) (hvb : 0 ≤ v ∧ v ≤ x) (hf : v.toNat < 2 ^ f) (hμ4 : v.toNat < μ4) (ls : Array Slot) (hl : lv_has ls 3 [(2, .int (iI v)), (1, .int (iI z)), (0, .int (iI x))]), W p l e rm_c_X9_bits s m args below meth c s.heap [] 0 0 (MQ below (vp_Si (fun rv => rv = (iI (pcZ x)))) args s 0 0 (fun _ => False)) (F0 m 4 ls []) := by
    intro μ4
    induction μ4 with
    | zero => intro z v f hz hvb hf hμ4; exact absurd hμ4 (Nat.not_lt_zero _)
    | succ μ4 ih4 =>
      intro z v f hz hvb hf hμ4 ls hl
      refine lv_iload_n hx hb dX9_bits_4 rfl (lv_at hl 0 rfl) ?_
      refine w_if_le (tgt := 21) hx hb dX9_bits_5 (by decide) (by omega) (fun c_5_1 => ?_) (fun c_5_1 => ?_)
      · refine lv_iload_n hx hb dX9_bits_21 rfl (lv_at hl 1 rfl) ?_
        exact rtRi hx hb hr hlocks dX9_bits_22 (congrArg iI (by rw [← hz, show v.toNat = 0 from by omega, pcn_0]; simp))
      · have hbt := bt_1 hz (by omega) hf
        have hbt3 := hbt.2.2
        refine lv_iload_n hx hb dX9_bits_8 rfl (lv_at hl 1 rfl) ?_
        refine lv_iload_n hx hb dX9_bits_9 rfl (lv_at hl 0 rfl) ?_
        refine lv_iconst (v := iI 1) hx hb dX9_bits_10 rfl ?_
        refine lv_iand hx hb dX9_bits_11 ?_
        refine W.eq (g2 := F0 m 12 ls [.int (iI (anZ v 1)), .int (iI z)]) (by first | (rw [show (.int ((iI v) &&& (iI 1)) : Value) = .int (iI (anZ v 1)) from by rw [iI_and (by omega) (by decide)]]) | rfl) ?_
        refine w_iadd hx hb dX9_bits_12 ?_
        refine lv_istore_n (lv' := [(1, .int (iI (z + (anZ v 1)))), (2, .int (iI v)), (0, .int (iI x))]) hx hb dX9_bits_13 rfl hl (by decide) rfl (fun ls hl => ?_)
        refine lv_iload_n hx hb dX9_bits_14 rfl (lv_at hl 1 rfl) ?_
        refine lv_iconst (v := iI 1) hx hb dX9_bits_15 rfl ?_
        refine lv_ishr hx hb dX9_bits_16 ?_
        refine W.eq (g2 := F0 m 17 ls [.int (iI (hvZ v))]) (by first | (rw [show (.int ((iI v) >>> ((iI 1) &&& 31)) : Value) = .int (iI (hvZ v)) from by exact congrArg Value.int (hv_e (by omega))]) | rfl) ?_
        refine lv_istore_n (lv' := [(2, .int (iI (hvZ v))), (1, .int (iI (z + (anZ v 1)))), (0, .int (iI x))]) hx hb dX9_bits_17 rfl hl (by decide) rfl (fun ls hl => ?_)
        refine lv_goto (tgt := 4) hx hb dX9_bits_18 (by decide) ?_
        exact ih4 (z + (anZ v 1)) (hvZ v) (f - 1) (by exact hbt.1) (by omega) (by exact hbt.2.1) (by omega) _ (lv_sub hl [0, 1, 2] rfl)
  exact lp_4 (x.toNat + 1) 0 x 14 (by rw [Int.zero_add]; rfl) (by omega) (by show x.toNat < 16384; omega) (Nat.lt_succ_self _) _ (lv_sub hl [0, 1, 2] rfl)
abbrev rm_c_X9_wrongLots_v : Room := { frames := 2, cells := 0, slots := 0, locals := 42 }
set_option maxHeartbeats 4000000 in
set_option maxRecDepth 100000 in
theorem c_X9_wrongLots_v (l : Launch) (G : Gx) (m0 : Nat) (mrf : Nat) (mkd : Nat) (mcu : Nat) (mfi : Nat) (mru : Nat) (mrs : Nat) (msp : Nat) (msr : Nat) (mst : Nat) (mo0 : Nat) (mso : Nat) (mtp : Nat) (mle : Nat) (mtx : Nat) (np : Int) (nr : Int) (ns : Int) (bl : Int) (tl : Int) (ta : Int) (dp : Int) (zs : Int) (bs : Int) (iw : Int) (aa : Int) (am : Int) (ar : Int) (KD : Nat → Int) (CU : Nat → Int) (FI : Nat → Int) (pl : Int) (kd : Int) (n : Int) (k : Int) (hpl : 0 ≤ pl ∧ pl < np ∧ np ≤ 30) (hkc : KD pl.toNat = kd ∧ CU pl.toNat = n ∧ FI pl.toNat = k) (hv : okP kd n k) (hrk : rI k) : Met l yX9_wrongLots wsX9_wrongLots rm_c_X9_wrongLots_v (va_Pc [.ref m0, .int (iI pl)] (rd G ([(m0, .inr (8, [.ref mrf, .ref mkd, .ref mcu, .ref mfi, .ref mru, .ref mrs, .ref msp, .ref msr, .ref mst, .int (iI np), .int (iI nr), .int (iI ns), .ref mo0, .ref mso, .long (lI bl), .ref mtp, .ref mle, .int (iI tl), .int (iI ta), .int (iI dp), .int (iI zs), .int (iI bs), .int (iI iw), .ref mtx, .int (iI aa), .int (iI am), .int (iI ar)])), (mkd, .inl (G.2.1 0, 30, .inl (aI KD))), (mcu, .inl (G.2.1 0, 30, .inl (aI CU))), (mfi, .inl (G.2.1 0, 30, .inl (aI FI)))]))) (vp_Si (fun rv => rv = (iI (cdL kd 0)))) 0 0 (fun _ => False) := by
  refine enR (cc := cX9_wrongLots) (maxL := 2) (ret := (some .int)) (C := RX9) [(0, .ref m0), (1, .int (iI pl))] (by decide) rfl rfl (Nat.le_of_ble_eq_true rfl) rfl ?_
  intro p e s m args below meth c ls hx hb hr hml hown hts hlocks hP hK hT hN hl
  have hS : va_S (fun _ => False) s.heap s.heap [] := va_S.rf
  show W p l e rm_c_X9_wrongLots_v s m args below meth c s.heap [] 0 0 _ (F0 m 0 ls [])
  have hv2 := hv
  unfold okP at hv2
  have hp9 : n ≤ 12 → 1 ≤ p2 n ∧ p2 n ≤ 4096 := fun h => p2_b (c := n) 12 (by omega)
  refine lv_aload_n hx hb dX9_wrongLots_0 rfl (lv_at hl 0 rfl) ?_
  refine lv_iload_n hx hb dX9_wrongLots_1 rfl (lv_at hl 1 rfl) ?_
  refine cRVi (As := [.int (iI pl)]) (rest := []) ⟨hx, hb, hml, hown, hts⟩ (c_X9_isPlan l G m0 mrf mkd mcu mfi mru mrs msp msr mst mo0 mso mtp mle mtx np nr ns bl tl ta dp zs bs iw aa am ar pl (by omega)) (cwV 1 hts gX9_wrongLots_X9_isPlan rfl rfl rfl (by decide +kernel) ⟨Nat.le_of_ble_eq_true rfl, Nat.le_of_ble_eq_true rfl⟩) rfl hl.1 rfl (Nat.le_of_ble_eq_true rfl) dX9_wrongLots_2 ⟨Nat.le_of_ble_eq_true rfl, Nat.le_of_ble_eq_true rfl⟩ (hP.sub [0] rfl) hK hT hN hS (ci := 8) rfl rfl ?_
  refine w_bz_ne (tgt := 12) hx hb dX9_wrongLots_5 (by decide) (fun c_5_1 => ?_) (fun c_5_1 => absurd c_5_1 (by omega))
  refine lv_aload_n hx hb dX9_wrongLots_12 rfl (lv_at hl 0 rfl) ?_
  refine va_get (D := G.1) (ci := 8) (v := .ref mkd) (C := RX9) (T := TX9) (N := 27) hx hb hts (by decide +kernel) hown hK hP 0 rfl rfl 1 (by decide) (hts (.fieldLink RX9 13 "MilkFirstModel" "kind" "[I") (by decide +kernel)) (fun _ h9 => h9) rfl dX9_wrongLots_13 ?_
  refine lv_iload_n hx hb dX9_wrongLots_16 rfl (lv_at hl 1 rfl) ?_
  refine w_iald hx hb hK hP 1 0 rfl rfl ((pl).toNat) (by omega) (by omega) (by decide) dX9_wrongLots_17 ?_
  refine W.eq (g2 := F0 m 18 ls [.int (iI kd)]) (by rw [show (.int (iI (KD ((pl).toNat))) : Value) = .int (iI kd) from by rw [hkc.1]]) ?_
  refine lv_iconst (v := iI 1) hx hb dX9_wrongLots_18 rfl ?_
  refine w_icmp_eq (tgt := 27) hx hb dX9_wrongLots_19 (by decide) (by omega) (by decide) (fun c_19_2 => ?_) (fun c_19_2 => ?_)
  · refine lv_iconst (v := iI 0) hx hb dX9_wrongLots_27 rfl ?_
    exact rtRi hx hb hr hlocks dX9_wrongLots_28 (congrArg iI (by unfold cdL; (repeat' split) <;> omega))
  · refine lv_bipush (v := iI (-3)) hx hb dX9_wrongLots_22 (by decide) ?_
    refine lv_goto (tgt := 28) hx hb dX9_wrongLots_24 (by decide) ?_
    exact rtRi hx hb hr hlocks dX9_wrongLots_28 (congrArg iI (by unfold cdL; (repeat' split) <;> omega))
abbrev rm_c_X9_wrongLots_n : Room := { frames := 2, cells := 0, slots := 0, locals := 42 }
set_option maxHeartbeats 4000000 in
set_option maxRecDepth 100000 in
theorem c_X9_wrongLots_n (l : Launch) (G : Gx) (m0 : Nat) (mrf : Nat) (mkd : Nat) (mcu : Nat) (mfi : Nat) (mru : Nat) (mrs : Nat) (msp : Nat) (msr : Nat) (mst : Nat) (mo0 : Nat) (mso : Nat) (mtp : Nat) (mle : Nat) (mtx : Nat) (np : Int) (nr : Int) (ns : Int) (bl : Int) (tl : Int) (ta : Int) (dp : Int) (zs : Int) (bs : Int) (iw : Int) (aa : Int) (am : Int) (ar : Int) (pl : Int) (hpl : rI pl ∧ 0 ≤ np ∧ np ≤ 30 ∧ ¬ (0 ≤ pl ∧ pl < np)) : Met l yX9_wrongLots wsX9_wrongLots rm_c_X9_wrongLots_n (va_Pc [.ref m0, .int (iI pl)] (rd G ([(m0, .inr (8, [.ref mrf, .ref mkd, .ref mcu, .ref mfi, .ref mru, .ref mrs, .ref msp, .ref msr, .ref mst, .int (iI np), .int (iI nr), .int (iI ns), .ref mo0, .ref mso, .long (lI bl), .ref mtp, .ref mle, .int (iI tl), .int (iI ta), .int (iI dp), .int (iI zs), .int (iI bs), .int (iI iw), .ref mtx, .int (iI aa), .int (iI am), .int (iI ar)]))]))) (vp_Si (fun rv => rv = (iI (-1)))) 0 0 (fun _ => False) := by
  refine enR (cc := cX9_wrongLots) (maxL := 2) (ret := (some .int)) (C := RX9) [(0, .ref m0), (1, .int (iI pl))] (by decide) rfl rfl (Nat.le_of_ble_eq_true rfl) rfl ?_
  intro p e s m args below meth c ls hx hb hr hml hown hts hlocks hP hK hT hN hl
  have hS : va_S (fun _ => False) s.heap s.heap [] := va_S.rf
  show W p l e rm_c_X9_wrongLots_n s m args below meth c s.heap [] 0 0 _ (F0 m 0 ls [])
  refine lv_aload_n hx hb dX9_wrongLots_0 rfl (lv_at hl 0 rfl) ?_
  refine lv_iload_n hx hb dX9_wrongLots_1 rfl (lv_at hl 1 rfl) ?_
  refine cRVi (As := [.int (iI pl)]) (rest := []) ⟨hx, hb, hml, hown, hts⟩ (c_X9_isPlan l G m0 mrf mkd mcu mfi mru mrs msp msr mst mo0 mso mtp mle mtx np nr ns bl tl ta dp zs bs iw aa am ar pl (by omega)) (cwV 1 hts gX9_wrongLots_X9_isPlan rfl rfl rfl (by decide +kernel) ⟨Nat.le_of_ble_eq_true rfl, Nat.le_of_ble_eq_true rfl⟩) rfl hl.1 rfl (Nat.le_of_ble_eq_true rfl) dX9_wrongLots_2 ⟨Nat.le_of_ble_eq_true rfl, Nat.le_of_ble_eq_true rfl⟩ (hP.sub [0] rfl) hK hT hN hS (ci := 8) rfl rfl ?_
  refine w_bz_ne (tgt := 12) hx hb dX9_wrongLots_5 (by decide) (fun c_5_1 => absurd c_5_1 (by omega)) (fun c_5_1 => ?_)
  refine lv_iconst (v := iI (-1)) hx hb dX9_wrongLots_8 rfl ?_
  refine lv_goto (tgt := 28) hx hb dX9_wrongLots_9 (by decide) ?_
  exact rtRi hx hb hr hlocks dX9_wrongLots_28 rfl
abbrev rm_c_X9_isLot : Room := { frames := 1, cells := 0, slots := 0, locals := 22 }
set_option maxHeartbeats 4000000 in
set_option maxRecDepth 100000 in
theorem c_X9_isLot (l : Launch) (G : Gx) (m0 : Nat) (mrf : Nat) (mkd : Nat) (mcu : Nat) (mfi : Nat) (mru : Nat) (mrs : Nat) (msp : Nat) (msr : Nat) (mst : Nat) (mo0 : Nat) (mso : Nat) (mtp : Nat) (mle : Nat) (mtx : Nat) (np : Int) (nr : Int) (ns : Int) (bl : Int) (tl : Int) (ta : Int) (dp : Int) (zs : Int) (bs : Int) (iw : Int) (aa : Int) (am : Int) (ar : Int) (KD : Nat → Int) (CU : Nat → Int) (FI : Nat → Int) (pl : Int) (kd : Int) (n : Int) (k : Int) (st : Int) (hpl : 0 ≤ pl ∧ pl < np ∧ np ≤ 30) (hkc : KD pl.toNat = kd ∧ CU pl.toNat = n ∧ FI pl.toNat = k) (hv : okP kd n k) (hrk : rI k) (h1 : kd = 1) (hst : rI st) : Met l yX9_isLot wsX9_isLot rm_c_X9_isLot (va_Pc [.ref m0, .int (iI pl), .int (iI st)] (rd G ([(m0, .inr (8, [.ref mrf, .ref mkd, .ref mcu, .ref mfi, .ref mru, .ref mrs, .ref msp, .ref msr, .ref mst, .int (iI np), .int (iI nr), .int (iI ns), .ref mo0, .ref mso, .long (lI bl), .ref mtp, .ref mle, .int (iI tl), .int (iI ta), .int (iI dp), .int (iI zs), .int (iI bs), .int (iI iw), .ref mtx, .int (iI aa), .int (iI am), .int (iI ar)])), (mkd, .inl (G.2.1 0, 30, .inl (aI KD))), (mcu, .inl (G.2.1 0, 30, .inl (aI CU))), (mfi, .inl (G.2.1 0, 30, .inl (aI FI)))]))) (vp_Si (fun rv => rv = (iI (bz (0 ≤ st ∧ st < p2 n ∧ pcZ st = k))))) 0 0 (fun _ => False) := by
  refine enR (cc := cX9_isLot) (maxL := 3) (ret := (some .boolean)) (C := RX9) [(0, .ref m0), (1, .int (iI pl)), (2, .int (iI st))] (by decide) rfl rfl (Nat.le_of_ble_eq_true rfl) rfl ?_
  intro p e s m args below meth c ls hx hb hr hml hown hts hlocks hP hK hT hN hl
  have hS : va_S (fun _ => False) s.heap s.heap [] := va_S.rf
  show W p l e rm_c_X9_isLot s m args below meth c s.heap [] 0 0 _ (F0 m 0 ls [])
  have hv2 := hv
  unfold okP at hv2
  have hp9 : n ≤ 12 → 1 ≤ p2 n ∧ p2 n ≤ 4096 := fun h => p2_b (c := n) 12 (by omega)
  have hv3 : n ≤ 12 ∧ 1 ≤ k ∧ k < n := by omega
  have hp8 := hp9 hv3.1
  have hpc := pcZ_b st
  refine lv_iload_n hx hb dX9_isLot_0 rfl (lv_at hl 2 rfl) ?_
  refine w_if_lt (tgt := 33) hx hb dX9_isLot_1 (by decide) (by omega) (fun c_1_1 => ?_) (fun c_1_1 => ?_)
  · refine lv_iconst (v := iI 0) hx hb dX9_isLot_33 rfl ?_
    exact rtRz hx hb hr hlocks (by decide) dX9_isLot_34 (bz_neg (by omega))
  · refine lv_iload_n hx hb dX9_isLot_4 rfl (lv_at hl 2 rfl) ?_
    refine lv_iconst (v := iI 1) hx hb dX9_isLot_5 rfl ?_
    refine lv_aload_n hx hb dX9_isLot_6 rfl (lv_at hl 0 rfl) ?_
    refine va_get (D := G.1) (ci := 8) (v := .ref mcu) (C := RX9) (T := TX9) (N := 27) hx hb hts (by decide +kernel) hown hK hP 0 rfl rfl 2 (by decide) (hts (.fieldLink RX9 16 "MilkFirstModel" "cups" "[I") (by decide +kernel)) (fun _ h9 => h9) rfl dX9_isLot_7 ?_
    refine lv_iload_n hx hb dX9_isLot_10 rfl (lv_at hl 1 rfl) ?_
    refine w_iald hx hb hK hP 2 0 rfl rfl ((pl).toNat) (by omega) (by omega) (by decide) dX9_isLot_11 ?_
    refine W.eq (g2 := F0 m 12 ls [.int (iI n), .int (iI 1), .int (iI st)]) (by rw [show (.int (iI (CU ((pl).toNat))) : Value) = .int (iI n) from by rw [hkc.2.1]]) ?_
    refine lv_ishl hx hb dX9_isLot_12 ?_
    refine W.eq (g2 := F0 m 13 ls [.int (iI (p2 n)), .int (iI st)]) (by first | (rw [show (.int ((iI 1) <<< ((iI n) &&& 31)) : Value) = .int (iI (p2 n)) from by exact congrArg Value.int (shl_1 (by omega))]) | rfl) ?_
    refine w_icmp_ge (tgt := 33) hx hb dX9_isLot_13 (by decide) (by omega) (by omega) (fun c_13_2 => ?_) (fun c_13_2 => ?_)
    · refine lv_iconst (v := iI 0) hx hb dX9_isLot_33 rfl ?_
      exact rtRz hx hb hr hlocks (by decide) dX9_isLot_34 (bz_neg (by omega))
    · refine lv_iload_n hx hb dX9_isLot_16 rfl (lv_at hl 2 rfl) ?_
      refine cRSi (As := [.int (iI st)]) (rest := []) ⟨hx, hb, hml, hown, hts⟩ (c_X9_bits l G st (by omega)) (va_cwS 1 hts gX9_isLot_X9_bits rfl rfl rfl (by decide +kernel) ⟨Nat.le_of_ble_eq_true rfl, Nat.le_of_ble_eq_true rfl⟩) rfl hl.1 rfl (Nat.le_of_ble_eq_true rfl) dX9_isLot_17 ⟨Nat.le_of_ble_eq_true rfl, Nat.le_of_ble_eq_true rfl⟩ va_P_nil hK hT hN hS ?_
      refine lv_aload_n hx hb dX9_isLot_20 rfl (lv_at hl 0 rfl) ?_
      refine va_get (D := G.1) (ci := 8) (v := .ref mfi) (C := RX9) (T := TX9) (N := 27) hx hb hts (by decide +kernel) hown hK hP 0 rfl rfl 3 (by decide) (hts (.fieldLink RX9 19 "MilkFirstModel" "first" "[I") (by decide +kernel)) (fun _ h9 => h9) rfl dX9_isLot_21 ?_
      refine lv_iload_n hx hb dX9_isLot_24 rfl (lv_at hl 1 rfl) ?_
      refine w_iald hx hb hK hP 3 0 rfl rfl ((pl).toNat) (by omega) (by omega) (by decide) dX9_isLot_25 ?_
      refine W.eq (g2 := F0 m 26 ls [.int (iI k), .int (iI (pcZ st))]) (by rw [show (.int (iI (FI ((pl).toNat))) : Value) = .int (iI k) from by rw [hkc.2.2]]) ?_
      refine w_icmp_ne (tgt := 33) hx hb dX9_isLot_26 (by decide) (by omega) (by omega) (fun c_26_3 => ?_) (fun c_26_3 => ?_)
      · refine lv_iconst (v := iI 0) hx hb dX9_isLot_33 rfl ?_
        exact rtRz hx hb hr hlocks (by decide) dX9_isLot_34 (bz_neg (by omega))
      · refine lv_iconst (v := iI 1) hx hb dX9_isLot_29 rfl ?_
        refine lv_goto (tgt := 34) hx hb dX9_isLot_30 (by decide) ?_
        exact rtRz hx hb hr hlocks (by decide) dX9_isLot_34 (bz_pos (by omega))
abbrev rm_c_X9_wrongLot_v : Room := { frames := 2, cells := 0, slots := 0, locals := 44 }
set_option maxHeartbeats 4000000 in
set_option maxRecDepth 100000 in
theorem c_X9_wrongLot_v (l : Launch) (G : Gx) (m0 : Nat) (mrf : Nat) (mkd : Nat) (mcu : Nat) (mfi : Nat) (mru : Nat) (mrs : Nat) (msp : Nat) (msr : Nat) (mst : Nat) (mo0 : Nat) (mso : Nat) (mtp : Nat) (mle : Nat) (mtx : Nat) (np : Int) (nr : Int) (ns : Int) (bl : Int) (tl : Int) (ta : Int) (dp : Int) (zs : Int) (bs : Int) (iw : Int) (aa : Int) (am : Int) (ar : Int) (KD : Nat → Int) (CU : Nat → Int) (FI : Nat → Int) (pl : Int) (kd : Int) (n : Int) (k : Int) (st : Int) (hpl : 0 ≤ pl ∧ pl < np ∧ np ≤ 30) (hkc : KD pl.toNat = kd ∧ CU pl.toNat = n ∧ FI pl.toNat = k) (hv : okP kd n k) (hrk : rI k) (hst : rI st) : Met l yX9_wrongLot wsX9_wrongLot rm_c_X9_wrongLot_v (va_Pc [.ref m0, .int (iI pl), .int (iI st)] (rd G ([(m0, .inr (8, [.ref mrf, .ref mkd, .ref mcu, .ref mfi, .ref mru, .ref mrs, .ref msp, .ref msr, .ref mst, .int (iI np), .int (iI nr), .int (iI ns), .ref mo0, .ref mso, .long (lI bl), .ref mtp, .ref mle, .int (iI tl), .int (iI ta), .int (iI dp), .int (iI zs), .int (iI bs), .int (iI iw), .ref mtx, .int (iI aa), .int (iI am), .int (iI ar)])), (mkd, .inl (G.2.1 0, 30, .inl (aI KD))), (mcu, .inl (G.2.1 0, 30, .inl (aI CU))), (mfi, .inl (G.2.1 0, 30, .inl (aI FI)))]))) (vp_Si (fun rv => rv = (iI (cdL kd (if 0 ≤ st ∧ st < p2 n ∧ pcZ st = k then 0 else -1))))) 0 0 (fun _ => False) := by
  refine enR (cc := cX9_wrongLot) (maxL := 3) (ret := (some .int)) (C := RX9) [(0, .ref m0), (1, .int (iI pl)), (2, .int (iI st))] (by decide) rfl rfl (Nat.le_of_ble_eq_true rfl) rfl ?_
  intro p e s m args below meth c ls hx hb hr hml hown hts hlocks hP hK hT hN hl
  have hS : va_S (fun _ => False) s.heap s.heap [] := va_S.rf
  show W p l e rm_c_X9_wrongLot_v s m args below meth c s.heap [] 0 0 _ (F0 m 0 ls [])
  have hv2 := hv
  unfold okP at hv2
  have hp9 : n ≤ 12 → 1 ≤ p2 n ∧ p2 n ≤ 4096 := fun h => p2_b (c := n) 12 (by omega)
  have hch := cdL_h kd (0 ≤ st ∧ st < p2 n ∧ pcZ st = k)
  refine lv_aload_n hx hb dX9_wrongLot_0 rfl (lv_at hl 0 rfl) ?_
  refine lv_iload_n hx hb dX9_wrongLot_1 rfl (lv_at hl 1 rfl) ?_
  refine cRVi (As := [.int (iI pl)]) (rest := []) ⟨hx, hb, hml, hown, hts⟩ (c_X9_isPlan l G m0 mrf mkd mcu mfi mru mrs msp msr mst mo0 mso mtp mle mtx np nr ns bl tl ta dp zs bs iw aa am ar pl (by omega)) (cwV 1 hts gX9_wrongLot_X9_isPlan rfl rfl rfl (by decide +kernel) ⟨Nat.le_of_ble_eq_true rfl, Nat.le_of_ble_eq_true rfl⟩) rfl hl.1 rfl (Nat.le_of_ble_eq_true rfl) dX9_wrongLot_2 ⟨Nat.le_of_ble_eq_true rfl, Nat.le_of_ble_eq_true rfl⟩ (hP.sub [0] rfl) hK hT hN hS (ci := 8) rfl rfl ?_
  refine w_bz_ne (tgt := 12) hx hb dX9_wrongLot_5 (by decide) (fun c_5_1 => ?_) (fun c_5_1 => absurd c_5_1 (by omega))
  refine lv_aload_n hx hb dX9_wrongLot_12 rfl (lv_at hl 0 rfl) ?_
  refine va_get (D := G.1) (ci := 8) (v := .ref mkd) (C := RX9) (T := TX9) (N := 27) hx hb hts (by decide +kernel) hown hK hP 0 rfl rfl 1 (by decide) (hts (.fieldLink RX9 13 "MilkFirstModel" "kind" "[I") (by decide +kernel)) (fun _ h9 => h9) rfl dX9_wrongLot_13 ?_
  refine lv_iload_n hx hb dX9_wrongLot_16 rfl (lv_at hl 1 rfl) ?_
  refine w_iald hx hb hK hP 1 0 rfl rfl ((pl).toNat) (by omega) (by omega) (by decide) dX9_wrongLot_17 ?_
  refine W.eq (g2 := F0 m 18 ls [.int (iI kd)]) (by rw [show (.int (iI (KD ((pl).toNat))) : Value) = .int (iI kd) from by rw [hkc.1]]) ?_
  refine lv_iconst (v := iI 1) hx hb dX9_wrongLot_18 rfl ?_
  refine w_icmp_eq (tgt := 27) hx hb dX9_wrongLot_19 (by decide) (by omega) (by decide) (fun c_19_2 => ?_) (fun c_19_2 => ?_)
  · refine lv_aload_n hx hb dX9_wrongLot_27 rfl (lv_at hl 0 rfl) ?_
    refine lv_iload_n hx hb dX9_wrongLot_28 rfl (lv_at hl 1 rfl) ?_
    refine lv_iload_n hx hb dX9_wrongLot_29 rfl (lv_at hl 2 rfl) ?_
    refine cRVi (As := [.int (iI pl), .int (iI st)]) (rest := []) ⟨hx, hb, hml, hown, hts⟩ (c_X9_isLot l G m0 mrf mkd mcu mfi mru mrs msp msr mst mo0 mso mtp mle mtx np nr ns bl tl ta dp zs bs iw aa am ar KD CU FI pl kd n k st (by exact hpl) (by exact hkc) (by exact hv) (by exact hrk) (by omega) (by exact hst)) (cwV 2 hts gX9_wrongLot_X9_isLot rfl rfl rfl (by decide +kernel) ⟨Nat.le_of_ble_eq_true rfl, Nat.le_of_ble_eq_true rfl⟩) rfl hl.1 rfl (Nat.le_of_ble_eq_true rfl) dX9_wrongLot_30 ⟨Nat.le_of_ble_eq_true rfl, Nat.le_of_ble_eq_true rfl⟩ (hP.sub [0, 1, 2, 3] rfl) hK hT hN hS (ci := 8) rfl rfl ?_
    refine w_bz_eq (tgt := 40) hx hb dX9_wrongLot_33 (by decide) (fun c_33_3 => ?_) (fun c_33_3 => ?_)
    · refine lv_iconst (v := iI (-1)) hx hb dX9_wrongLot_40 rfl ?_
      exact rtRi hx hb hr hlocks dX9_wrongLot_41 (congrArg iI (by omega))
    · refine lv_iconst (v := iI 0) hx hb dX9_wrongLot_36 rfl ?_
      refine lv_goto (tgt := 41) hx hb dX9_wrongLot_37 (by decide) ?_
      exact rtRi hx hb hr hlocks dX9_wrongLot_41 (congrArg iI (by omega))
  · refine lv_bipush (v := iI (-3)) hx hb dX9_wrongLot_22 (by decide) ?_
    refine lv_goto (tgt := 41) hx hb dX9_wrongLot_24 (by decide) ?_
    exact rtRi hx hb hr hlocks dX9_wrongLot_41 (congrArg iI (by omega))
abbrev rm_c_X9_wrongLot_n : Room := { frames := 2, cells := 0, slots := 0, locals := 42 }
set_option maxHeartbeats 4000000 in
set_option maxRecDepth 100000 in
theorem c_X9_wrongLot_n (l : Launch) (G : Gx) (m0 : Nat) (mrf : Nat) (mkd : Nat) (mcu : Nat) (mfi : Nat) (mru : Nat) (mrs : Nat) (msp : Nat) (msr : Nat) (mst : Nat) (mo0 : Nat) (mso : Nat) (mtp : Nat) (mle : Nat) (mtx : Nat) (np : Int) (nr : Int) (ns : Int) (bl : Int) (tl : Int) (ta : Int) (dp : Int) (zs : Int) (bs : Int) (iw : Int) (aa : Int) (am : Int) (ar : Int) (pl : Int) (st : Int) (hpl : rI pl ∧ 0 ≤ np ∧ np ≤ 30 ∧ ¬ (0 ≤ pl ∧ pl < np)) : Met l yX9_wrongLot wsX9_wrongLot rm_c_X9_wrongLot_n (va_Pc [.ref m0, .int (iI pl), .int (iI st)] (rd G ([(m0, .inr (8, [.ref mrf, .ref mkd, .ref mcu, .ref mfi, .ref mru, .ref mrs, .ref msp, .ref msr, .ref mst, .int (iI np), .int (iI nr), .int (iI ns), .ref mo0, .ref mso, .long (lI bl), .ref mtp, .ref mle, .int (iI tl), .int (iI ta), .int (iI dp), .int (iI zs), .int (iI bs), .int (iI iw), .ref mtx, .int (iI aa), .int (iI am), .int (iI ar)]))]))) (vp_Si (fun rv => rv = (iI (-1)))) 0 0 (fun _ => False) := by
  refine enR (cc := cX9_wrongLot) (maxL := 3) (ret := (some .int)) (C := RX9) [(0, .ref m0), (1, .int (iI pl)), (2, .int (iI st))] (by decide) rfl rfl (Nat.le_of_ble_eq_true rfl) rfl ?_
  intro p e s m args below meth c ls hx hb hr hml hown hts hlocks hP hK hT hN hl
  have hS : va_S (fun _ => False) s.heap s.heap [] := va_S.rf
  show W p l e rm_c_X9_wrongLot_n s m args below meth c s.heap [] 0 0 _ (F0 m 0 ls [])
  refine lv_aload_n hx hb dX9_wrongLot_0 rfl (lv_at hl 0 rfl) ?_
  refine lv_iload_n hx hb dX9_wrongLot_1 rfl (lv_at hl 1 rfl) ?_
  refine cRVi (As := [.int (iI pl)]) (rest := []) ⟨hx, hb, hml, hown, hts⟩ (c_X9_isPlan l G m0 mrf mkd mcu mfi mru mrs msp msr mst mo0 mso mtp mle mtx np nr ns bl tl ta dp zs bs iw aa am ar pl (by omega)) (cwV 1 hts gX9_wrongLot_X9_isPlan rfl rfl rfl (by decide +kernel) ⟨Nat.le_of_ble_eq_true rfl, Nat.le_of_ble_eq_true rfl⟩) rfl hl.1 rfl (Nat.le_of_ble_eq_true rfl) dX9_wrongLot_2 ⟨Nat.le_of_ble_eq_true rfl, Nat.le_of_ble_eq_true rfl⟩ (hP.sub [0] rfl) hK hT hN hS (ci := 8) rfl rfl ?_
  refine w_bz_ne (tgt := 12) hx hb dX9_wrongLot_5 (by decide) (fun c_5_1 => absurd c_5_1 (by omega)) (fun c_5_1 => ?_)
  refine lv_iconst (v := iI (-1)) hx hb dX9_wrongLot_8 rfl ?_
  refine lv_goto (tgt := 41) hx hb dX9_wrongLot_9 (by decide) ?_
  exact rtRi hx hb hr hlocks dX9_wrongLot_41 rfl
abbrev rm_c_X9_leanOf : Room := { frames := 0, cells := 0, slots := 0, locals := 0 }
set_option maxHeartbeats 4000000 in
set_option maxRecDepth 100000 in
theorem c_X9_leanOf (l : Launch) (G : Gx) (m0 : Nat) (mrf : Nat) (mkd : Nat) (mcu : Nat) (mfi : Nat) (mru : Nat) (mrs : Nat) (msp : Nat) (msr : Nat) (mst : Nat) (mo0 : Nat) (mso : Nat) (mtp : Nat) (mle : Nat) (mtx : Nat) (np : Int) (nr : Int) (ns : Int) (bl : Int) (tl : Int) (ta : Int) (dp : Int) (zs : Int) (bs : Int) (iw : Int) (aa : Int) (am : Int) (ar : Int) (KD : Nat → Int) (CU : Nat → Int) (FI : Nat → Int) (pl : Int) (kd : Int) (n : Int) (k : Int) (st : Int) (hpl : 0 ≤ pl ∧ pl < np ∧ np ≤ 30) (hkc : KD pl.toNat = kd ∧ CU pl.toNat = n ∧ FI pl.toNat = k) (hv : okP kd n k) (hrk : rI k) (h1 : kd = 1) (hst : 0 ≤ st ∧ st < 4096) : Met l yX9_leanOf wsX9_leanOf rm_c_X9_leanOf (va_Pc [.ref m0, .int (iI pl), .int (iI st)] (rd G ([(m0, .inr (8, [.ref mrf, .ref mkd, .ref mcu, .ref mfi, .ref mru, .ref mrs, .ref msp, .ref msr, .ref mst, .int (iI np), .int (iI nr), .int (iI ns), .ref mo0, .ref mso, .long (lI bl), .ref mtp, .ref mle, .int (iI tl), .int (iI ta), .int (iI dp), .int (iI zs), .int (iI bs), .int (iI iw), .ref mtx, .int (iI aa), .int (iI am), .int (iI ar)])), (mkd, .inl (G.2.1 0, 30, .inl (aI KD))), (mcu, .inl (G.2.1 0, 30, .inl (aI CU))), (mfi, .inl (G.2.1 0, 30, .inl (aI FI)))]))) (vp_Si (fun rv => rv = (iI (lnZ n k st)))) 0 0 (fun _ => False) := by
  refine enR (cc := cX9_leanOf) (maxL := 5) (ret := (some .int)) (C := RX9) [(0, .ref m0), (1, .int (iI pl)), (2, .int (iI st))] (by decide) rfl rfl (Nat.le_of_ble_eq_true rfl) rfl ?_
  intro p e s m args below meth c ls hx hb hr hml hown hts hlocks hP hK hT hN hl
  have hS : va_S (fun _ => False) s.heap s.heap [] := va_S.rf
  show W p l e rm_c_X9_leanOf s m args below meth c s.heap [] 0 0 _ (F0 m 0 ls [])
  have hv2 := hv
  unfold okP at hv2
  have hp9 : n ≤ 12 → 1 ≤ p2 n ∧ p2 n ≤ 4096 := fun h => p2_b (c := n) 12 (by omega)
  have hv3 : n ≤ 12 ∧ 1 ≤ k ∧ k < n := by omega
  have hp8 := hp9 hv3.1
  refine lv_iconst (v := iI 0) hx hb dX9_leanOf_0 rfl ?_
  refine lv_istore_n (lv' := [(3, .int (iI 0)), (0, .ref m0), (1, .int (iI pl)), (2, .int (iI st))]) hx hb dX9_leanOf_1 rfl hl (by decide) rfl (fun ls hl => ?_)
  refine lv_iconst (v := iI 0) hx hb dX9_leanOf_2 rfl ?_
  refine lv_istore (lv' := [(4, .int (iI 0)), (3, .int (iI 0)), (0, .ref m0), (1, .int (iI pl)), (2, .int (iI st))]) hx hb dX9_leanOf_3 hl (by decide) rfl (fun ls hl => ?_)
  have lp_5 : ∀ (μ5 : Nat) (i : Int) (z : Int) (hi : 0 ≤ i ∧ i ≤ n) (hz : z = plS st i.toNat * n - k * plS 4095 i.toNat) (hμ5 : (n - i).toNat < μ5) (ls : Array Slot) (hl : lv_has ls 5 [(4, .int (iI i)), (3, .int (iI z)), (0, .ref m0), (1, .int (iI pl)), (2, .int (iI st))]), W p l e rm_c_X9_leanOf s m args below meth c s.heap [] 0 0 (MQ below (vp_Si (fun rv => rv = (iI (lnZ n k st)))) args s 0 0 (fun _ => False)) (F0 m 5 ls []) := by
    intro μ5
    induction μ5 with
    | zero => intro i z hi hz hμ5; exact absurd hμ5 (Nat.not_lt_zero _)
    | succ μ5 ih5 =>
      intro i z hi hz hμ5 ls hl
      refine lv_iload hx hb dX9_leanOf_5 (lv_at hl 0 rfl) ?_
      refine lv_aload_n hx hb dX9_leanOf_7 rfl (lv_at hl 2 rfl) ?_
      refine va_get (D := G.1) (ci := 8) (v := .ref mcu) (C := RX9) (T := TX9) (N := 27) hx hb hts (by decide +kernel) hown hK hP 0 rfl rfl 2 (by decide) (hts (.fieldLink RX9 16 "MilkFirstModel" "cups" "[I") (by decide +kernel)) (fun _ h9 => h9) rfl dX9_leanOf_8 ?_
      refine lv_iload_n hx hb dX9_leanOf_11 rfl (lv_at hl 3 rfl) ?_
      refine w_iald hx hb hK hP 2 0 rfl rfl ((pl).toNat) (by omega) (by omega) (by decide) dX9_leanOf_12 ?_
      refine W.eq (g2 := F0 m 13 ls [.int (iI n), .int (iI i)]) (by rw [show (.int (iI (CU ((pl).toNat))) : Value) = .int (iI n) from by rw [hkc.2.1]]) ?_
      refine w_icmp_ge (tgt := 67) hx hb dX9_leanOf_13 (by decide) (by omega) (by omega) (fun c_13_1 => ?_) (fun c_13_1 => ?_)
      · refine lv_iload_n hx hb dX9_leanOf_67 rfl (lv_at hl 1 rfl) ?_
        exact rtRi hx hb hr hlocks dX9_leanOf_68 (congrArg iI (by rw [hz, show i = n from by omega]; rfl))
      · refine lv_iload_n hx hb dX9_leanOf_16 rfl (lv_at hl 1 rfl) ?_
        refine lv_iload_n hx hb dX9_leanOf_17 rfl (lv_at hl 4 rfl) ?_
        refine lv_iload hx hb dX9_leanOf_18 (lv_at hl 0 rfl) ?_
        refine lv_ishr hx hb dX9_leanOf_20 ?_
        refine lv_iconst (v := iI 1) hx hb dX9_leanOf_21 rfl ?_
        refine lv_iand hx hb dX9_leanOf_22 ?_
        refine W.eq (g2 := F0 m 23 ls [.int (iI (bitZ st i)), .int (iI z)]) (by first | (rw [show (.int (((iI st) >>> ((iI i) &&& 31)) &&& (iI 1)) : Value) = .int (iI (bitZ st i)) from by exact congrArg Value.int (bit_sh (by omega) (by omega))]) | rfl) ?_
        refine lv_iconst (v := iI 1) hx hb dX9_leanOf_23 rfl ?_
        refine w_icmp_ne (tgt := 49) hx hb dX9_leanOf_24 (by decide) (by have := bitZ_01 st i; omega) (by decide) (fun c_24_2 => ?_) (fun c_24_2 => ?_)
        · refine lv_iload hx hb dX9_leanOf_49 (lv_at hl 0 rfl) ?_
          refine w_ineg hx hb dX9_leanOf_51 ?_
          refine lv_aload_n hx hb dX9_leanOf_52 rfl (lv_at hl 2 rfl) ?_
          refine va_get (D := G.1) (ci := 8) (v := .ref mfi) (C := RX9) (T := TX9) (N := 27) hx hb hts (by decide +kernel) hown hK hP 0 rfl rfl 3 (by decide) (hts (.fieldLink RX9 19 "MilkFirstModel" "first" "[I") (by decide +kernel)) (fun _ h9 => h9) rfl dX9_leanOf_53 ?_
          refine lv_iload_n hx hb dX9_leanOf_56 rfl (lv_at hl 3 rfl) ?_
          refine w_iald hx hb hK hP 3 0 rfl rfl ((pl).toNat) (by omega) (by omega) (by decide) dX9_leanOf_57 ?_
          refine W.eq (g2 := F0 m 58 ls [.int (iI k), .int (iI (-i)), .int (iI z)]) (by rw [show (.int (iI (FI ((pl).toNat))) : Value) = .int (iI k) from by rw [hkc.2.2]]) ?_
          refine w_imul hx hb dX9_leanOf_58 ?_
          refine w_iadd hx hb dX9_leanOf_59 ?_
          refine lv_istore_n (lv' := [(3, .int (iI (z + ((-i) * k)))), (4, .int (iI i)), (0, .ref m0), (1, .int (iI pl)), (2, .int (iI st))]) hx hb dX9_leanOf_60 rfl hl (by decide) rfl (fun ls hl => ?_)
          refine w_iinc (k := 1) (lv' := [(4, .int (iI (i + 1))), (3, .int (iI (z + ((-i) * k)))), (0, .ref m0), (1, .int (iI pl)), (2, .int (iI st))]) hx hb dX9_leanOf_61 hl rfl (by decide) rfl (fun ls hl => ?_)
          refine lv_goto (tgt := 5) hx hb dX9_leanOf_64 (by decide) ?_
          exact ih5 (i + 1) (z + ((-i) * k)) (by omega) (by exact le_0 (by omega) hz (by omega)) (by omega) _ (lv_sub hl [0, 1, 2, 3, 4] rfl)
        · refine lv_iload hx hb dX9_leanOf_27 (lv_at hl 0 rfl) ?_
          refine lv_aload_n hx hb dX9_leanOf_29 rfl (lv_at hl 2 rfl) ?_
          refine va_get (D := G.1) (ci := 8) (v := .ref mcu) (C := RX9) (T := TX9) (N := 27) hx hb hts (by decide +kernel) hown hK hP 0 rfl rfl 2 (by decide) (hts (.fieldLink RX9 16 "MilkFirstModel" "cups" "[I") (by decide +kernel)) (fun _ h9 => h9) rfl dX9_leanOf_30 ?_
          refine lv_iload_n hx hb dX9_leanOf_33 rfl (lv_at hl 3 rfl) ?_
          refine w_iald hx hb hK hP 2 0 rfl rfl ((pl).toNat) (by omega) (by omega) (by decide) dX9_leanOf_34 ?_
          refine W.eq (g2 := F0 m 35 ls [.int (iI n), .int (iI i), .int (iI z)]) (by rw [show (.int (iI (CU ((pl).toNat))) : Value) = .int (iI n) from by rw [hkc.2.1]]) ?_
          refine w_imul hx hb dX9_leanOf_35 ?_
          refine lv_iload hx hb dX9_leanOf_36 (lv_at hl 0 rfl) ?_
          refine lv_aload_n hx hb dX9_leanOf_38 rfl (lv_at hl 2 rfl) ?_
          refine va_get (D := G.1) (ci := 8) (v := .ref mfi) (C := RX9) (T := TX9) (N := 27) hx hb hts (by decide +kernel) hown hK hP 0 rfl rfl 3 (by decide) (hts (.fieldLink RX9 19 "MilkFirstModel" "first" "[I") (by decide +kernel)) (fun _ h9 => h9) rfl dX9_leanOf_39 ?_
          refine lv_iload_n hx hb dX9_leanOf_42 rfl (lv_at hl 3 rfl) ?_
          refine w_iald hx hb hK hP 3 0 rfl rfl ((pl).toNat) (by omega) (by omega) (by decide) dX9_leanOf_43 ?_
          refine W.eq (g2 := F0 m 44 ls [.int (iI k), .int (iI i), .int (iI (i * n)), .int (iI z)]) (by rw [show (.int (iI (FI ((pl).toNat))) : Value) = .int (iI k) from by rw [hkc.2.2]]) ?_
          refine w_imul hx hb dX9_leanOf_44 ?_
          refine w_isub hx hb dX9_leanOf_45 ?_
          refine lv_goto (tgt := 59) hx hb dX9_leanOf_46 (by decide) ?_
          refine w_iadd hx hb dX9_leanOf_59 ?_
          refine lv_istore_n (lv' := [(3, .int (iI (z + ((i * n) - (i * k))))), (4, .int (iI i)), (0, .ref m0), (1, .int (iI pl)), (2, .int (iI st))]) hx hb dX9_leanOf_60 rfl hl (by decide) rfl (fun ls hl => ?_)
          refine w_iinc (k := 1) (lv' := [(4, .int (iI (i + 1))), (3, .int (iI (z + ((i * n) - (i * k))))), (0, .ref m0), (1, .int (iI pl)), (2, .int (iI st))]) hx hb dX9_leanOf_61 hl rfl (by decide) rfl (fun ls hl => ?_)
          refine lv_goto (tgt := 5) hx hb dX9_leanOf_64 (by decide) ?_
          exact ih5 (i + 1) (z + ((i * n) - (i * k))) (by omega) (by exact le_1 (by omega) hz (by omega)) (by omega) _ (lv_sub hl [0, 1, 2, 3, 4] rfl)
  exact lp_5 ((n - (0 : Int)).toNat + 1) 0 0 (by omega) (by show (0 : Int) = 0 * n - k * 0; omega) (Nat.lt_succ_self _) _ (lv_sub hl [0, 1, 2, 3, 4] rfl)
abbrev rm_c_X9_alike : Room := { frames := 1, cells := 0, slots := 0, locals := 22 }
set_option maxHeartbeats 4000000 in
set_option maxRecDepth 100000 in
theorem c_X9_alike (l : Launch) (G : Gx) (m0 : Nat) (mrf : Nat) (mkd : Nat) (mcu : Nat) (mfi : Nat) (mru : Nat) (mrs : Nat) (msp : Nat) (msr : Nat) (mst : Nat) (mo0 : Nat) (mso : Nat) (mtp : Nat) (mle : Nat) (mtx : Nat) (np : Int) (nr : Int) (ns : Int) (bl : Int) (tl : Int) (ta : Int) (dp : Int) (zs : Int) (bs : Int) (iw : Int) (aa : Int) (am : Int) (ar : Int) (KD : Nat → Int) (CU : Nat → Int) (FI : Nat → Int) (pl : Int) (kd : Int) (n : Int) (k : Int) (st : Int) (mk : Int) (hpl : 0 ≤ pl ∧ pl < np ∧ np ≤ 30) (hkc : KD pl.toNat = kd ∧ CU pl.toNat = n ∧ FI pl.toNat = k) (hv : okP kd n k) (hrk : rI k) (h1 : kd = 1) (hst : 0 ≤ st ∧ st < 4096) (hmk : 0 ≤ mk ∧ mk ≤ 4095) : Met l yX9_alike wsX9_alike rm_c_X9_alike (va_Pc [.ref m0, .int (iI pl), .int (iI st), .int (iI mk)] (rd G ([(m0, .inr (8, [.ref mrf, .ref mkd, .ref mcu, .ref mfi, .ref mru, .ref mrs, .ref msp, .ref msr, .ref mst, .int (iI np), .int (iI nr), .int (iI ns), .ref mo0, .ref mso, .long (lI bl), .ref mtp, .ref mle, .int (iI tl), .int (iI ta), .int (iI dp), .int (iI zs), .int (iI bs), .int (iI iw), .ref mtx, .int (iI aa), .int (iI am), .int (iI ar)])), (mkd, .inl (G.2.1 0, 30, .inl (aI KD))), (mcu, .inl (G.2.1 0, 30, .inl (aI CU))), (mfi, .inl (G.2.1 0, 30, .inl (aI FI)))]))) (vp_Si (fun rv => rv = (iI (alZ2 n st mk)))) 0 0 (fun _ => False) := by
  refine enR (cc := cX9_alike) (maxL := 4) (ret := (some .int)) (C := RX9) [(0, .ref m0), (1, .int (iI pl)), (2, .int (iI st)), (3, .int (iI mk))] (by decide) rfl rfl (Nat.le_of_ble_eq_true rfl) rfl ?_
  intro p e s m args below meth c ls hx hb hr hml hown hts hlocks hP hK hT hN hl
  have hS : va_S (fun _ => False) s.heap s.heap [] := va_S.rf
  show W p l e rm_c_X9_alike s m args below meth c s.heap [] 0 0 _ (F0 m 0 ls [])
  have hv2 := hv
  unfold okP at hv2
  have hp9 : n ≤ 12 → 1 ≤ p2 n ∧ p2 n ≤ 4096 := fun h => p2_b (c := n) 12 (by omega)
  have hv3 : n ≤ 12 ∧ 1 ≤ k ∧ k < n := by omega
  have hp8 := hp9 hv3.1
  have hxo := xo_b 12 (a := st) (b := mk) (by omega) (by omega)
  have han := an_b (a := xoZ st mk) (b := p2 n - 1) (by omega)
  refine lv_aload_n hx hb dX9_alike_0 rfl (lv_at hl 0 rfl) ?_
  refine va_get (D := G.1) (ci := 8) (v := .ref mcu) (C := RX9) (T := TX9) (N := 27) hx hb hts (by decide +kernel) hown hK hP 0 rfl rfl 2 (by decide) (hts (.fieldLink RX9 16 "MilkFirstModel" "cups" "[I") (by decide +kernel)) (fun _ h9 => h9) rfl dX9_alike_1 ?_
  refine lv_iload_n hx hb dX9_alike_4 rfl (lv_at hl 1 rfl) ?_
  refine w_iald hx hb hK hP 2 0 rfl rfl ((pl).toNat) (by omega) (by omega) (by decide) dX9_alike_5 ?_
  refine W.eq (g2 := F0 m 6 ls [.int (iI n)]) (by rw [show (.int (iI (CU ((pl).toNat))) : Value) = .int (iI n) from by rw [hkc.2.1]]) ?_
  refine lv_iload_n hx hb dX9_alike_6 rfl (lv_at hl 2 rfl) ?_
  refine lv_iload_n hx hb dX9_alike_7 rfl (lv_at hl 3 rfl) ?_
  refine lv_ixor hx hb dX9_alike_8 ?_
  refine W.eq (g2 := F0 m 9 ls [.int (iI (xoZ st mk)), .int (iI n)]) (by first | (rw [show (.int ((iI st) ^^^ (iI mk)) : Value) = .int (iI (xoZ st mk)) from by rw [iI_xor (by omega) (by omega)]]) | rfl) ?_
  refine lv_iconst (v := iI 1) hx hb dX9_alike_9 rfl ?_
  refine lv_aload_n hx hb dX9_alike_10 rfl (lv_at hl 0 rfl) ?_
  refine va_get (D := G.1) (ci := 8) (v := .ref mcu) (C := RX9) (T := TX9) (N := 27) hx hb hts (by decide +kernel) hown hK hP 0 rfl rfl 2 (by decide) (hts (.fieldLink RX9 16 "MilkFirstModel" "cups" "[I") (by decide +kernel)) (fun _ h9 => h9) rfl dX9_alike_11 ?_
  refine lv_iload_n hx hb dX9_alike_14 rfl (lv_at hl 1 rfl) ?_
  refine w_iald hx hb hK hP 2 0 rfl rfl ((pl).toNat) (by omega) (by omega) (by decide) dX9_alike_15 ?_
  refine W.eq (g2 := F0 m 16 ls [.int (iI n), .int (iI 1), .int (iI (xoZ st mk)), .int (iI n)]) (by rw [show (.int (iI (CU ((pl).toNat))) : Value) = .int (iI n) from by rw [hkc.2.1]]) ?_
  refine lv_ishl hx hb dX9_alike_16 ?_
  refine W.eq (g2 := F0 m 17 ls [.int (iI (p2 n)), .int (iI (xoZ st mk)), .int (iI n)]) (by first | (rw [show (.int ((iI 1) <<< ((iI n) &&& 31)) : Value) = .int (iI (p2 n)) from by exact congrArg Value.int (shl_1 (by omega))]) | rfl) ?_
  refine lv_iconst (v := iI 1) hx hb dX9_alike_17 rfl ?_
  refine w_isub hx hb dX9_alike_18 ?_
  refine lv_iand hx hb dX9_alike_19 ?_
  refine W.eq (g2 := F0 m 20 ls [.int (iI (anZ (xoZ st mk) (p2 n - 1))), .int (iI n)]) (by first | (rw [show (.int ((iI (xoZ st mk)) &&& (iI ((p2 n) - 1))) : Value) = .int (iI (anZ (xoZ st mk) (p2 n - 1))) from by rw [iI_and (by omega) (by omega)]]) | rfl) ?_
  refine cRSi (As := [.int (iI (anZ (xoZ st mk) (p2 n - 1)))]) (rest := [.int (iI n)]) ⟨hx, hb, hml, hown, hts⟩ (c_X9_bits l G (anZ (xoZ st mk) (p2 n - 1)) (by omega)) (va_cwS 1 hts gX9_alike_X9_bits rfl rfl rfl (by decide +kernel) ⟨Nat.le_of_ble_eq_true rfl, Nat.le_of_ble_eq_true rfl⟩) rfl hl.1 rfl (Nat.le_of_ble_eq_true rfl) dX9_alike_20 ⟨Nat.le_of_ble_eq_true rfl, Nat.le_of_ble_eq_true rfl⟩ va_P_nil hK hT hN hS ?_
  refine w_isub hx hb dX9_alike_23 ?_
  exact rtRi hx hb hr hlocks dX9_alike_24 rfl
