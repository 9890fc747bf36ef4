abbrev rm_c_X6_init : Room := { frames := 1, cells := 0, slots := 0, locals := 20 }
set_option maxHeartbeats 4000000 in
set_option maxRecDepth 100000 in
theorem c_X6_init (l : Launch) (G : Gx) (h0 : Nat) (pl : Int) (r : Int) (td : Int) (sz : Nat) (htd : td = 0 ∨ td = 1) : Met l yX6_init wsX6_init rm_c_X6_init (va_Pc [.ref h0, .int (iI pl), .int (iI r), .int (iI td)] (wr G ([(h0, .inr (5, [.int (iI 0), .int (iI 0), .int (iI 0)]))]) sz)) (va_Qv (fun (u : Unit) => True) (Bw G.1 vwCl (fun (u : Unit) => [(h0, .inr (5, [.int (iI pl), .int (iI r), .int (iI td)]))]) (va_A ([(h0, .inr (5, [.int (iI 0), .int (iI 0), .int (iI 0)]))]) sz)) (va_A ([(h0, .inr (5, [.int (iI 0), .int (iI 0), .int (iI 0)]))]) sz)) 0 0 (va_A ([(h0, .inr (5, [.int (iI 0), .int (iI 0), .int (iI 0)]))]) sz) := by
  refine enW (Qc := fun A => (va_Qv (fun (u : Unit) => True) (Bw G.1 vwCl (fun (u : Unit) => [(h0, .inr (5, [.int (iI pl), .int (iI r), .int (iI td)]))]) A) A)) (mc := 0) (ms := 0) (cc := cX6_init) (maxL := 4) (ret := none) (C := RX6) [(0, .ref h0), (1, .int (iI pl)), (2, .int (iI r)), (3, .int (iI td))] (by decide) rfl rfl (Nat.le_of_ble_eq_true rfl) rfl ?_
  intro p e s m args below meth c ls A hx hb hr hml hown hts hlocks hin hP hK hD hT hN hA hS hl
  show W p l e rm_c_X6_init s m args below meth c s.heap [] 0 0 _ (F0 m 0 ls [])
  refine lv_aload_n hx hb dX6_init_0 rfl (lv_at hl 0 rfl) ?_
  refine W.objInit hx hb hown (hts (.methodLink RX6 1 objectInit) (by decide +kernel)) (hts (.instanceMethod objectInit) (by decide +kernel)) (hts (.code objectInit ⟨#[0xb1]⟩ 1 none) (by decide +kernel)) rfl (by rw [hml]; exact hl.1) rfl dX6_init_1 (Nat.le_of_ble_eq_true rfl) (Nat.le_of_ble_eq_true rfl) ?_
  refine W.eq (g2 := F0 m 4 ls []) rfl ?_
  refine lv_aload_n hx hb dX6_init_4 rfl (lv_at hl 0 rfl) ?_
  refine lv_iload_n hx hb dX6_init_5 rfl (lv_at hl 1 rfl) ?_
  refine va_putF (D := G.1) (ci := 5) (v := .int (iI pl)) (ty := .int) (C := RX6) (T := TX6) (N := 3) hx hb hts (by decide +kernel) tyX6 tyX6_ok nmX6 hown hK hP hD hS 0 rfl rfl 0 (by decide) (hts (.fieldLink RX6 7 "MilkFirst$Sitting" "plan" "I") (by decide +kernel)) (fun _ h9 => h9) rfl hin rfl (by decide +kernel) rfl rfl (Nat.le_of_ble_eq_true rfl) dX6_init_6 (fun H locs hP hD hS => ?_)
  have hP : va_P G.1 vwCl ([(h0, .inr (5, [.int (iI pl), .int (iI 0), .int (iI 0)]))]) H := hP
  have hD : va_D A ([(h0, .inr (5, [.int (iI pl), .int (iI 0), .int (iI 0)]))]) := hD
  refine lv_aload_n hx hb dX6_init_9 rfl (lv_at hl 0 rfl) ?_
  refine lv_iload_n hx hb dX6_init_10 rfl (lv_at hl 2 rfl) ?_
  refine va_putF (D := G.1) (ci := 5) (v := .int (iI r)) (ty := .int) (C := RX6) (T := TX6) (N := 3) hx hb hts (by decide +kernel) tyX6 tyX6_ok nmX6 hown hK hP hD hS 0 rfl rfl 1 (by decide) (hts (.fieldLink RX6 13 "MilkFirst$Sitting" "right" "I") (by decide +kernel)) (fun _ h9 => h9) rfl hin rfl (by decide +kernel) rfl rfl (Nat.le_of_ble_eq_true rfl) dX6_init_11 (fun H locs hP hD hS => ?_)
  have hP : va_P G.1 vwCl ([(h0, .inr (5, [.int (iI pl), .int (iI r), .int (iI 0)]))]) H := hP
  have hD : va_D A ([(h0, .inr (5, [.int (iI pl), .int (iI r), .int (iI 0)]))]) := hD
  refine lv_aload_n hx hb dX6_init_14 rfl (lv_at hl 0 rfl) ?_
  refine lv_iload_n hx hb dX6_init_15 rfl (lv_at hl 3 rfl) ?_
  refine va_put (D := G.1) (ci := 5) (v := .int (iI td)) (ty := .boolean) (C := RX6) (T := TX6) (N := 3) hx hb hts (by decide +kernel) tyX6 tyX6_ok nmX6 hown hK hP hD hS 0 rfl rfl 2 (by decide) (hts (.fieldLink RX6 16 "MilkFirst$Sitting" "told" "Z") (by decide +kernel)) (fun _ h9 => h9) rfl (by decide +kernel) (z01_nar (by omega)) (z01_fit (by omega)) (Nat.le_of_ble_eq_true rfl) dX6_init_16 (fun H locs hP hD hS => ?_)
  have hP : va_P G.1 vwCl ([(h0, .inr (5, [.int (iI pl), .int (iI r), .int (iI td)]))]) H := hP
  have hD : va_D A ([(h0, .inr (5, [.int (iI pl), .int (iI r), .int (iI td)]))]) := hD
  exact rtWv hx hb hr hlocks dX6_init_19 () trivial hP hD hS
abbrev rm_c_X3_most : Room := { frames := 1, cells := 0, slots := 0, locals := 21 }
set_option maxHeartbeats 4000000 in
set_option maxRecDepth 100000 in
theorem c_X3_most (l : Launch) (G : Gx) (h0 : Nat) (e0 : Nat) (kd : Int) (n : Int) (k : Int) (hv : okP kd n k) : Met l yX3_most wsX3_most rm_c_X3_most (va_Pc [.ref h0] (rd G ([(h0, .inr (3, [.int (iI kd), .int (iI n), .int (iI k), .ref e0]))]))) (vp_Si (fun rv => rv = (iI (moZ kd n)))) 0 0 (fun _ => False) := by
  refine enR (cc := cX3_most) (maxL := 1) (ret := (some .int)) (C := RX3) [(0, .ref h0)] (by decide) rfl rfl (Nat.le_of_ble_eq_true rfl) rfl ?_
  intro p e s m args below meth c ls hx hb hr hml hown hts hlocks hP hK hT hN hl
  have hS : va_S (fun _ => False) s.heap s.heap [] := va_S.rf
  show W p l e rm_c_X3_most s m args below meth c s.heap [] 0 0 _ (F0 m 0 ls [])
  unfold okP at hv
  refine lv_aload_n hx hb dX3_most_0 rfl (lv_at hl 0 rfl) ?_
  refine va_get (D := G.1) (ci := 3) (v := .int (iI kd)) (C := RX3) (T := TX3) (N := 4) hx hb hts (by decide +kernel) hown hK hP 0 rfl rfl 0 (by decide) (hts (.fieldLink RX3 18 "MilkFirst$Plan" "kind" "I") (by decide +kernel)) (fun _ h9 => h9) rfl dX3_most_1 ?_
  refine lv_aload_n hx hb dX3_most_4 rfl (lv_at hl 0 rfl) ?_
  refine va_get (D := G.1) (ci := 3) (v := .int (iI n)) (C := RX3) (T := TX3) (N := 4) hx hb hts (by decide +kernel) hown hK hP 0 rfl rfl 1 (by decide) (hts (.fieldLink RX3 22 "MilkFirst$Plan" "n" "I") (by decide +kernel)) (fun _ h9 => h9) rfl dX3_most_5 ?_
  refine cRSNi (As := [.int (iI kd), .int (iI n)]) (rest := []) ⟨hx, hb, hml, hown, hts⟩ (c_X8_mostRight l G kd n (by omega)) ⟨va_cnB 2 hts gX3_most_X8_mostRight_n32 rfl rfl rfl (hN.1 (.methodLinkNest RX3 32 yX8_mostRight "MilkFirst") (by decide +kernel)) (hts (.initialized yX8_mostRight.cls) (by decide +kernel)) (by decide +kernel) ⟨Nat.le_of_ble_eq_true rfl, Nat.le_of_ble_eq_true rfl⟩, (hts (.static yX8_mostRight) (by decide +kernel)), trivial⟩ rfl hl.1 rfl (Nat.le_of_ble_eq_true rfl) dX3_most_8 ⟨Nat.le_of_ble_eq_true rfl, Nat.le_of_ble_eq_true rfl⟩ va_P_nil hK hT hN hS ?_
  exact rtRi hx hb hr hlocks dX3_most_11 rfl
abbrev rm_c_X3_lotCount : Room := { frames := 1, cells := 0, slots := 0, locals := 22 }
set_option maxHeartbeats 4000000 in
set_option maxRecDepth 100000 in
theorem c_X3_lotCount (l : Launch) (G : Gx) (h0 : Nat) (e0 : Nat) (kd : Int) (n : Int) (k : Int) (hv : okP kd n k) (h1 : kd = 1) : Met l yX3_lotCount wsX3_lotCount rm_c_X3_lotCount (va_Pc [.ref h0] (rd G ([(h0, .inr (3, [.int (iI kd), .int (iI n), .int (iI k), .ref e0]))]))) (vp_Si (fun rv => rv = (iI (wayF n k)))) 0 0 (fun _ => False) := by
  refine enR (cc := cX3_lotCount) (maxL := 1) (ret := (some .int)) (C := RX3) [(0, .ref h0)] (by decide) rfl rfl (Nat.le_of_ble_eq_true rfl) rfl ?_
  intro p e s m args below meth c ls hx hb hr hml hown hts hlocks hP hK hT hN hl
  have hS : va_S (fun _ => False) s.heap s.heap [] := va_S.rf
  show W p l e rm_c_X3_lotCount s m args below meth c s.heap [] 0 0 _ (F0 m 0 ls [])
  unfold okP at hv
  refine lv_aload_n hx hb dX3_lotCount_0 rfl (lv_at hl 0 rfl) ?_
  refine va_get (D := G.1) (ci := 3) (v := .int (iI n)) (C := RX3) (T := TX3) (N := 4) hx hb hts (by decide +kernel) hown hK hP 0 rfl rfl 1 (by decide) (hts (.fieldLink RX3 22 "MilkFirst$Plan" "n" "I") (by decide +kernel)) (fun _ h9 => h9) rfl dX3_lotCount_1 ?_
  refine lv_aload_n hx hb dX3_lotCount_4 rfl (lv_at hl 0 rfl) ?_
  refine va_get (D := G.1) (ci := 3) (v := .int (iI k)) (C := RX3) (T := TX3) (N := 4) hx hb hts (by decide +kernel) hown hK hP 0 rfl rfl 2 (by decide) (hts (.fieldLink RX3 25 "MilkFirst$Plan" "k" "I") (by decide +kernel)) (fun _ h9 => h9) rfl dX3_lotCount_5 ?_
  refine cRSl (As := [.int (iI n), .int (iI k)]) (rest := []) ⟨hx, hb, hml, hown, hts⟩ (c_X2_ways l G n k (by omega)) (va_cwS 2 hts gX3_lotCount_X2_ways rfl rfl rfl (by decide +kernel) ⟨Nat.le_of_ble_eq_true rfl, Nat.le_of_ble_eq_true rfl⟩) rfl hl.1 rfl (Nat.le_of_ble_eq_true rfl) dX3_lotCount_8 ⟨Nat.le_of_ble_eq_true rfl, Nat.le_of_ble_eq_true rfl⟩ va_P_nil hK hT hN hS ?_
  refine w_l2i hx hb dX3_lotCount_11 ?_
  exact rtRi hx hb hr hlocks dX3_lotCount_12 rfl
abbrev rm_c_X3_firstLot : Room := { frames := 0, cells := 0, slots := 0, locals := 0 }
set_option maxHeartbeats 4000000 in
set_option maxRecDepth 100000 in
theorem c_X3_firstLot (l : Launch) (G : Gx) (h0 : Nat) (e0 : Nat) (kd : Int) (n : Int) (k : Int) (hv : okP kd n k) (h1 : kd = 1) : Met l yX3_firstLot wsX3_firstLot rm_c_X3_firstLot (va_Pc [.ref h0] (rd G ([(h0, .inr (3, [.int (iI kd), .int (iI n), .int (iI k), .ref e0]))]))) (vp_Si (fun rv => rv = (iI (p2 k - 1)))) 0 0 (fun _ => False) := by
  refine enR (cc := cX3_firstLot) (maxL := 1) (ret := (some .int)) (C := RX3) [(0, .ref h0)] (by decide) rfl rfl (Nat.le_of_ble_eq_true rfl) rfl ?_
  intro p e s m args below meth c ls hx hb hr hml hown hts hlocks hP hK hT hN hl
  have hS : va_S (fun _ => False) s.heap s.heap [] := va_S.rf
  show W p l e rm_c_X3_firstLot s m args below meth c s.heap [] 0 0 _ (F0 m 0 ls [])
  unfold okP at hv
  refine lv_iconst (v := iI 1) hx hb dX3_firstLot_0 rfl ?_
  refine lv_aload_n hx hb dX3_firstLot_1 rfl (lv_at hl 0 rfl) ?_
  refine va_get (D := G.1) (ci := 3) (v := .int (iI k)) (C := RX3) (T := TX3) (N := 4) hx hb hts (by decide +kernel) hown hK hP 0 rfl rfl 2 (by decide) (hts (.fieldLink RX3 25 "MilkFirst$Plan" "k" "I") (by decide +kernel)) (fun _ h9 => h9) rfl dX3_firstLot_2 ?_
  refine lv_ishl hx hb dX3_firstLot_5 ?_
  refine W.eq (g2 := F0 m 6 ls [.int (iI (p2 k))]) (by first | rfl | (rw [show (.int ((iI 1) <<< ((iI k) &&& 31)) : Value) = .int (iI (p2 k)) from by exact congrArg Value.int (shl_1 (by omega))])) ?_
  refine lv_iconst (v := iI 1) hx hb dX3_firstLot_6 rfl ?_
  refine w_isub hx hb dX3_firstLot_7 ?_
  exact rtRi hx hb hr hlocks dX3_firstLot_8 rfl
abbrev rm_c_X3_hasLot : Room := { frames := 1, cells := 0, slots := 0, locals := 20 }
set_option maxHeartbeats 4000000 in
set_option maxRecDepth 100000 in
theorem c_X3_hasLot (l : Launch) (G : Gx) (h0 : Nat) (e0 : Nat) (kd : Int) (n : Int) (k : Int) (st : Int) (hv : okP kd n k) (h1 : kd = 1) (hst : rI st) : Met l yX3_hasLot wsX3_hasLot rm_c_X3_hasLot (va_Pc [.ref h0, .int (iI st)] (rd G ([(h0, .inr (3, [.int (iI kd), .int (iI n), .int (iI k), .ref e0]))]))) (vp_Si (fun rv => rv = (iI (bz (0 ≤ st ∧ st < p2 n ∧ pcZ st = k))))) 0 0 (fun _ => False) := by
  refine enR (cc := cX3_hasLot) (maxL := 2) (ret := (some .boolean)) (C := RX3) [(0, .ref h0), (1, .int (iI st))] (by decide) rfl rfl (Nat.le_of_ble_eq_true rfl) rfl ?_
  intro p e s m args below meth c ls hx hb hr hml hown hts hlocks hP hK hT hN hl
  have hS : va_S (fun _ => False) s.heap s.heap [] := va_S.rf
  show W p l e rm_c_X3_hasLot s m args below meth c s.heap [] 0 0 _ (F0 m 0 ls [])
  unfold okP at hv
  have hp2 := p2_b (c := n) 12 (by omega)
  have hpc := pcZ_b st
  refine lv_iload_n hx hb dX3_hasLot_0 rfl (lv_at hl 1 rfl) ?_
  refine w_if_lt (tgt := 29) hx hb dX3_hasLot_1 (by decide) (by omega) (fun c_1_1 => ?_) (fun c_1_1 => ?_)
  · refine lv_iconst (v := iI 0) hx hb dX3_hasLot_29 rfl ?_
    exact rtRz hx hb hr hlocks (by decide) dX3_hasLot_30 (bz_neg (by omega))
  · refine lv_iload_n hx hb dX3_hasLot_4 rfl (lv_at hl 1 rfl) ?_
    refine lv_iconst (v := iI 1) hx hb dX3_hasLot_5 rfl ?_
    refine lv_aload_n hx hb dX3_hasLot_6 rfl (lv_at hl 0 rfl) ?_
    refine va_get (D := G.1) (ci := 3) (v := .int (iI n)) (C := RX3) (T := TX3) (N := 4) hx hb hts (by decide +kernel) hown hK hP 0 rfl rfl 1 (by decide) (hts (.fieldLink RX3 22 "MilkFirst$Plan" "n" "I") (by decide +kernel)) (fun _ h9 => h9) rfl dX3_hasLot_7 ?_
    refine lv_ishl hx hb dX3_hasLot_10 ?_
    refine W.eq (g2 := F0 m 11 ls [.int (iI (p2 n)), .int (iI st)]) (by first | rfl | (rw [show (.int ((iI 1) <<< ((iI n) &&& 31)) : Value) = .int (iI (p2 n)) from by exact congrArg Value.int (shl_1 (by omega))])) ?_
    refine w_icmp_ge (tgt := 29) hx hb dX3_hasLot_11 (by decide) (by omega) (by omega) (fun c_11_2 => ?_) (fun c_11_2 => ?_)
    · refine lv_iconst (v := iI 0) hx hb dX3_hasLot_29 rfl ?_
      exact rtRz hx hb hr hlocks (by decide) dX3_hasLot_30 (bz_neg (by omega))
    · refine lv_iload_n hx hb dX3_hasLot_14 rfl (lv_at hl 1 rfl) ?_
      refine cRSi (As := [.int (iI st)]) (rest := []) ⟨hx, hb, hml, hown, hts⟩ (c_J6_bitCount_0f7a4 l G st (by omega)) (va_cwS 1 hts gX3_hasLot_J6_bitCount_0f7a4 rfl rfl rfl (by decide +kernel) ⟨Nat.le_of_ble_eq_true rfl, Nat.le_of_ble_eq_true rfl⟩) rfl hl.1 rfl (Nat.le_of_ble_eq_true rfl) dX3_hasLot_15 ⟨Nat.le_of_ble_eq_true rfl, Nat.le_of_ble_eq_true rfl⟩ va_P_nil hK hT hN hS ?_
      refine lv_aload_n hx hb dX3_hasLot_18 rfl (lv_at hl 0 rfl) ?_
      refine va_get (D := G.1) (ci := 3) (v := .int (iI k)) (C := RX3) (T := TX3) (N := 4) hx hb hts (by decide +kernel) hown hK hP 0 rfl rfl 2 (by decide) (hts (.fieldLink RX3 25 "MilkFirst$Plan" "k" "I") (by decide +kernel)) (fun _ h9 => h9) rfl dX3_hasLot_19 ?_
      refine w_icmp_ne (tgt := 29) hx hb dX3_hasLot_22 (by decide) (by omega) (by omega) (fun c_22_3 => ?_) (fun c_22_3 => ?_)
      · refine lv_iconst (v := iI 0) hx hb dX3_hasLot_29 rfl ?_
        exact rtRz hx hb hr hlocks (by decide) dX3_hasLot_30 (bz_neg (by omega))
      · refine lv_iconst (v := iI 1) hx hb dX3_hasLot_25 rfl ?_
        refine lv_goto (tgt := 30) hx hb dX3_hasLot_26 (by decide) ?_
        exact rtRz hx hb hr hlocks (by decide) dX3_hasLot_30 (bz_pos (by omega))
abbrev rm_c_X3_leanOf : Room := { frames := 1, cells := 0, slots := 0, locals := 23 }
set_option maxHeartbeats 4000000 in
set_option maxRecDepth 100000 in
theorem c_X3_leanOf (l : Launch) (G : Gx) (h0 : Nat) (e0 : Nat) (kd : Int) (n : Int) (k : Int) (st : Int) (hv : okP kd n k) (h1 : kd = 1) (hst : 0 ≤ st ∧ st < 4096) : Met l yX3_leanOf wsX3_leanOf rm_c_X3_leanOf (va_Pc [.ref h0, .int (iI st)] (rd G ([(h0, .inr (3, [.int (iI kd), .int (iI n), .int (iI k), .ref e0]))]))) (vp_Si (fun rv => rv = (iI (plS st n.toNat * n - k * plS 4095 n.toNat)))) 0 0 (fun _ => False) := by
  refine enR (cc := cX3_leanOf) (maxL := 2) (ret := (some .int)) (C := RX3) [(0, .ref h0), (1, .int (iI st))] (by decide) rfl rfl (Nat.le_of_ble_eq_true rfl) rfl ?_
  intro p e s m args below meth c ls hx hb hr hml hown hts hlocks hP hK hT hN hl
  have hS : va_S (fun _ => False) s.heap s.heap [] := va_S.rf
  show W p l e rm_c_X3_leanOf s m args below meth c s.heap [] 0 0 _ (F0 m 0 ls [])
  unfold okP at hv
  refine lv_aload_n hx hb dX3_leanOf_0 rfl (lv_at hl 0 rfl) ?_
  refine va_get (D := G.1) (ci := 3) (v := .int (iI n)) (C := RX3) (T := TX3) (N := 4) hx hb hts (by decide +kernel) hown hK hP 0 rfl rfl 1 (by decide) (hts (.fieldLink RX3 22 "MilkFirst$Plan" "n" "I") (by decide +kernel)) (fun _ h9 => h9) rfl dX3_leanOf_1 ?_
  refine lv_iload_n hx hb dX3_leanOf_4 rfl (lv_at hl 1 rfl) ?_
  refine cRSi (As := [.int (iI n), .int (iI st)]) (rest := []) ⟨hx, hb, hml, hown, hts⟩ (c_X5_places l G n st (by omega) (by omega)) (va_cwS 2 hts gX3_leanOf_X5_places rfl rfl rfl (by decide +kernel) ⟨Nat.le_of_ble_eq_true rfl, Nat.le_of_ble_eq_true rfl⟩) rfl hl.1 rfl (Nat.le_of_ble_eq_true rfl) dX3_leanOf_5 ⟨Nat.le_of_ble_eq_true rfl, Nat.le_of_ble_eq_true rfl⟩ va_P_nil hK hT hN hS ?_
  refine lv_aload_n hx hb dX3_leanOf_8 rfl (lv_at hl 0 rfl) ?_
  refine va_get (D := G.1) (ci := 3) (v := .int (iI n)) (C := RX3) (T := TX3) (N := 4) hx hb hts (by decide +kernel) hown hK hP 0 rfl rfl 1 (by decide) (hts (.fieldLink RX3 22 "MilkFirst$Plan" "n" "I") (by decide +kernel)) (fun _ h9 => h9) rfl dX3_leanOf_9 ?_
  refine w_imul hx hb dX3_leanOf_12 ?_
  refine lv_aload_n hx hb dX3_leanOf_13 rfl (lv_at hl 0 rfl) ?_
  refine va_get (D := G.1) (ci := 3) (v := .int (iI k)) (C := RX3) (T := TX3) (N := 4) hx hb hts (by decide +kernel) hown hK hP 0 rfl rfl 2 (by decide) (hts (.fieldLink RX3 25 "MilkFirst$Plan" "k" "I") (by decide +kernel)) (fun _ h9 => h9) rfl dX3_leanOf_14 ?_
  refine lv_aload_n hx hb dX3_leanOf_17 rfl (lv_at hl 0 rfl) ?_
  refine va_get (D := G.1) (ci := 3) (v := .int (iI n)) (C := RX3) (T := TX3) (N := 4) hx hb hts (by decide +kernel) hown hK hP 0 rfl rfl 1 (by decide) (hts (.fieldLink RX3 22 "MilkFirst$Plan" "n" "I") (by decide +kernel)) (fun _ h9 => h9) rfl dX3_leanOf_18 ?_
  refine lv_sipush (v := iI 4095) hx hb dX3_leanOf_21 (by decide) ?_
  refine cRSi (As := [.int (iI n), .int (iI 4095)]) (rest := [.int (iI k), .int (iI ((plS st n.toNat) * n))]) ⟨hx, hb, hml, hown, hts⟩ (c_X5_places l G n 4095 (by omega) (by omega)) (va_cwS 2 hts gX3_leanOf_X5_places rfl rfl rfl (by decide +kernel) ⟨Nat.le_of_ble_eq_true rfl, Nat.le_of_ble_eq_true rfl⟩) rfl hl.1 rfl (Nat.le_of_ble_eq_true rfl) dX3_leanOf_24 ⟨Nat.le_of_ble_eq_true rfl, Nat.le_of_ble_eq_true rfl⟩ va_P_nil hK hT hN hS ?_
  refine w_imul hx hb dX3_leanOf_27 ?_
  refine w_isub hx hb dX3_leanOf_28 ?_
  exact rtRi hx hb hr hlocks dX3_leanOf_29 rfl
abbrev rm_c_X0_init : Room := { frames := 1, cells := 3, slots := 31, locals := 20 }
set_option maxHeartbeats 4000000 in
set_option maxRecDepth 100000 in
theorem c_X0_init (l : Launch) (G : Gx) (h0 : Nat) (sz : Nat) : Met l yX0_init wsX0_init rm_c_X0_init (va_Pc [.ref h0] (wr G ([(h0, .inr (1, [.null, .null, .null, .long (lI 0), .int (iI 0)]))]) sz)) (va_Qv (fun (u : Nat × Nat × Nat) => True) (Bw G.1 vwCl (fun (u : Nat × Nat × Nat) => [(h0, .inr (1, [.ref u.1, .ref u.2.1, .ref u.2.2, .long (lI 1), .int (iI 0)])), (u.1, .inl (G.2.1 1, 13, .inr (.inl (aL (fun _ => 0))))), (u.2.1, .inl (G.2.1 1, 5, .inr (.inl (aL (fun _ => 0))))), (u.2.2, .inl (G.2.1 1, 13, .inr (.inl (aL (fun _ => 0)))))]) (va_A ([(h0, .inr (1, [.null, .null, .null, .long (lI 0), .int (iI 0)]))]) sz)) (va_A ([(h0, .inr (1, [.null, .null, .null, .long (lI 0), .int (iI 0)]))]) sz)) 3 31 (va_A ([(h0, .inr (1, [.null, .null, .null, .long (lI 0), .int (iI 0)]))]) sz) := by
  refine enW (Qc := fun A => (va_Qv (fun (u : Nat × Nat × Nat) => True) (Bw G.1 vwCl (fun (u : Nat × Nat × Nat) => [(h0, .inr (1, [.ref u.1, .ref u.2.1, .ref u.2.2, .long (lI 1), .int (iI 0)])), (u.1, .inl (G.2.1 1, 13, .inr (.inl (aL (fun _ => 0))))), (u.2.1, .inl (G.2.1 1, 5, .inr (.inl (aL (fun _ => 0))))), (u.2.2, .inl (G.2.1 1, 13, .inr (.inl (aL (fun _ => 0)))))]) A) A)) (mc := 3) (ms := 31) (cc := cX0_init) (maxL := 1) (ret := none) (C := RX0) [(0, .ref h0)] (by decide) rfl rfl (Nat.le_of_ble_eq_true rfl) rfl ?_
  intro p e s m args below meth c ls A hx hb hr hml hown hts hlocks hin hP hK hD hT hN hA hS hl
  show W p l e rm_c_X0_init s m args below meth c s.heap [] 0 0 _ (F0 m 0 ls [])
  refine lv_aload_n hx hb dX0_init_0 rfl (lv_at hl 0 rfl) ?_
  refine W.objInit hx hb hown (hts (.methodLink RX0 3 objectInit) (by decide +kernel)) (hts (.instanceMethod objectInit) (by decide +kernel)) (hts (.code objectInit ⟨#[0xb1]⟩ 1 none) (by decide +kernel)) rfl (by rw [hml]; exact hl.1) rfl dX0_init_1 (Nat.le_of_ble_eq_true rfl) (Nat.le_of_ble_eq_true rfl) ?_
  refine W.eq (g2 := F0 m 4 ls []) rfl ?_
  refine lv_aload_n hx hb dX0_init_4 rfl (lv_at hl 0 rfl) ?_
  refine lv_bipush (v := iI 13) hx hb dX0_init_5 (by decide) ?_
  refine w_newJ hx hb (hts (.arrayClass .long) (by decide +kernel)) hK hP hD hS hA 13 rfl (by decide) (Nat.le_of_ble_eq_true rfl) (Nat.le_of_ble_eq_true rfl) dX0_init_7 (fun q7_1 H hP hD hS => ?_)
  refine W.widen (k := 1) (n := 13) (by omega) (by omega) ?_
  have hP : va_P G.1 vwCl ([(h0, .inr (1, [.null, .null, .null, .long (lI 0), .int (iI 0)])), (q7_1, .inl (G.2.1 1, 13, .inr (.inl (aL (fun _ => 0)))))]) H := hP
  have hD : va_D A ([(h0, .inr (1, [.null, .null, .null, .long (lI 0), .int (iI 0)])), (q7_1, .inl (G.2.1 1, 13, .inr (.inl (aL (fun _ => 0)))))]) := hD
  refine va_putF (D := G.1) (ci := 1) (v := .ref q7_1) (ty := (.array .long)) (C := RX0) (T := TX0) (N := 5) hx hb hts (by decide +kernel) tyX0 tyX0_ok nmX0 hown hK hP hD hS 0 rfl rfl 0 (by decide) (hts (.fieldLink RX0 9 "MilkFirst$Ends" "cases" "[J") (by decide +kernel)) (fun _ h9 => h9) rfl hin rfl (by decide +kernel) rfl rfl (Nat.le_of_ble_eq_true rfl) dX0_init_9 (fun H locs hP hD hS => ?_)
  have hP : va_P G.1 vwCl ([(h0, .inr (1, [.ref q7_1, .null, .null, .long (lI 0), .int (iI 0)])), (q7_1, .inl (G.2.1 1, 13, .inr (.inl (aL (fun _ => 0)))))]) H := hP
  have hD : va_D A ([(h0, .inr (1, [.ref q7_1, .null, .null, .long (lI 0), .int (iI 0)])), (q7_1, .inl (G.2.1 1, 13, .inr (.inl (aL (fun _ => 0)))))]) := hD
  refine lv_aload_n hx hb dX0_init_12 rfl (lv_at hl 0 rfl) ?_
  refine lv_iconst (v := iI 5) hx hb dX0_init_13 rfl ?_
  refine w_newJ hx hb (hts (.arrayClass .long) (by decide +kernel)) hK hP hD hS hA 5 rfl (by decide) (Nat.le_of_ble_eq_true rfl) (Nat.le_of_ble_eq_true rfl) dX0_init_14 (fun q14_2 H hP hD hS => ?_)
  refine W.widen (k := 2) (n := 18) (by omega) (by omega) ?_
  have hP : va_P G.1 vwCl ([(h0, .inr (1, [.ref q7_1, .null, .null, .long (lI 0), .int (iI 0)])), (q7_1, .inl (G.2.1 1, 13, .inr (.inl (aL (fun _ => 0))))), (q14_2, .inl (G.2.1 1, 5, .inr (.inl (aL (fun _ => 0)))))]) H := hP
  have hD : va_D A ([(h0, .inr (1, [.ref q7_1, .null, .null, .long (lI 0), .int (iI 0)])), (q7_1, .inl (G.2.1 1, 13, .inr (.inl (aL (fun _ => 0))))), (q14_2, .inl (G.2.1 1, 5, .inr (.inl (aL (fun _ => 0)))))]) := hD
  refine va_putF (D := G.1) (ci := 1) (v := .ref q14_2) (ty := (.array .long)) (C := RX0) (T := TX0) (N := 5) hx hb hts (by decide +kernel) tyX0 tyX0_ok nmX0 hown hK hP hD hS 0 rfl rfl 1 (by decide) (hts (.fieldLink RX0 15 "MilkFirst$Ends" "block" "[J") (by decide +kernel)) (fun _ h9 => h9) rfl hin rfl (by decide +kernel) rfl rfl (Nat.le_of_ble_eq_true rfl) dX0_init_16 (fun H locs hP hD hS => ?_)
  have hP : va_P G.1 vwCl ([(h0, .inr (1, [.ref q7_1, .ref q14_2, .null, .long (lI 0), .int (iI 0)])), (q7_1, .inl (G.2.1 1, 13, .inr (.inl (aL (fun _ => 0))))), (q14_2, .inl (G.2.1 1, 5, .inr (.inl (aL (fun _ => 0)))))]) H := hP
  have hD : va_D A ([(h0, .inr (1, [.ref q7_1, .ref q14_2, .null, .long (lI 0), .int (iI 0)])), (q7_1, .inl (G.2.1 1, 13, .inr (.inl (aL (fun _ => 0))))), (q14_2, .inl (G.2.1 1, 5, .inr (.inl (aL (fun _ => 0)))))]) := hD
  refine lv_aload_n hx hb dX0_init_19 rfl (lv_at hl 0 rfl) ?_
  refine lv_bipush (v := iI 13) hx hb dX0_init_20 (by decide) ?_
  refine w_newJ hx hb (hts (.arrayClass .long) (by decide +kernel)) hK hP hD hS hA 13 rfl (by decide) (Nat.le_of_ble_eq_true rfl) (Nat.le_of_ble_eq_true rfl) dX0_init_22 (fun q22_3 H hP hD hS => ?_)
  refine W.widen (k := 3) (n := 31) (by omega) (by omega) ?_
  have hP : va_P G.1 vwCl ([(h0, .inr (1, [.ref q7_1, .ref q14_2, .null, .long (lI 0), .int (iI 0)])), (q7_1, .inl (G.2.1 1, 13, .inr (.inl (aL (fun _ => 0))))), (q14_2, .inl (G.2.1 1, 5, .inr (.inl (aL (fun _ => 0))))), (q22_3, .inl (G.2.1 1, 13, .inr (.inl (aL (fun _ => 0)))))]) H := hP
  have hD : va_D A ([(h0, .inr (1, [.ref q7_1, .ref q14_2, .null, .long (lI 0), .int (iI 0)])), (q7_1, .inl (G.2.1 1, 13, .inr (.inl (aL (fun _ => 0))))), (q14_2, .inl (G.2.1 1, 5, .inr (.inl (aL (fun _ => 0))))), (q22_3, .inl (G.2.1 1, 13, .inr (.inl (aL (fun _ => 0)))))]) := hD
  refine va_putF (D := G.1) (ci := 1) (v := .ref q22_3) (ty := (.array .long)) (C := RX0) (T := TX0) (N := 5) hx hb hts (by decide +kernel) tyX0 tyX0_ok nmX0 hown hK hP hD hS 0 rfl rfl 2 (by decide) (hts (.fieldLink RX0 18 "MilkFirst$Ends" "joined" "[J") (by decide +kernel)) (fun _ h9 => h9) rfl hin rfl (by decide +kernel) rfl rfl (Nat.le_of_ble_eq_true rfl) dX0_init_24 (fun H locs hP hD hS => ?_)
  have hP : va_P G.1 vwCl ([(h0, .inr (1, [.ref q7_1, .ref q14_2, .ref q22_3, .long (lI 0), .int (iI 0)])), (q7_1, .inl (G.2.1 1, 13, .inr (.inl (aL (fun _ => 0))))), (q14_2, .inl (G.2.1 1, 5, .inr (.inl (aL (fun _ => 0))))), (q22_3, .inl (G.2.1 1, 13, .inr (.inl (aL (fun _ => 0)))))]) H := hP
  have hD : va_D A ([(h0, .inr (1, [.ref q7_1, .ref q14_2, .ref q22_3, .long (lI 0), .int (iI 0)])), (q7_1, .inl (G.2.1 1, 13, .inr (.inl (aL (fun _ => 0))))), (q14_2, .inl (G.2.1 1, 5, .inr (.inl (aL (fun _ => 0))))), (q22_3, .inl (G.2.1 1, 13, .inr (.inl (aL (fun _ => 0)))))]) := hD
  refine lv_aload_n hx hb dX0_init_27 rfl (lv_at hl 0 rfl) ?_
  refine lv_lconst (v := lI 1) hx hb dX0_init_28 (by decide) ?_
  refine va_put (D := G.1) (ci := 1) (v := .long (lI 1)) (ty := .long) (C := RX0) (T := TX0) (N := 5) hx hb hts (by decide +kernel) tyX0 tyX0_ok nmX0 hown hK hP hD hS 0 rfl rfl 3 (by decide) (hts (.fieldLink RX0 21 "MilkFirst$Ends" "allCases" "J") (by decide +kernel)) (fun _ h9 => h9) rfl (by decide +kernel) rfl rfl (Nat.le_of_ble_eq_true rfl) dX0_init_29 (fun H locs hP hD hS => ?_)
  have hP : va_P G.1 vwCl ([(h0, .inr (1, [.ref q7_1, .ref q14_2, .ref q22_3, .long (lI 1), .int (iI 0)])), (q7_1, .inl (G.2.1 1, 13, .inr (.inl (aL (fun _ => 0))))), (q14_2, .inl (G.2.1 1, 5, .inr (.inl (aL (fun _ => 0))))), (q22_3, .inl (G.2.1 1, 13, .inr (.inl (aL (fun _ => 0)))))]) H := hP
  have hD : va_D A ([(h0, .inr (1, [.ref q7_1, .ref q14_2, .ref q22_3, .long (lI 1), .int (iI 0)])), (q7_1, .inl (G.2.1 1, 13, .inr (.inl (aL (fun _ => 0))))), (q14_2, .inl (G.2.1 1, 5, .inr (.inl (aL (fun _ => 0))))), (q22_3, .inl (G.2.1 1, 13, .inr (.inl (aL (fun _ => 0)))))]) := hD
  refine lv_aload_n hx hb dX0_init_32 rfl (lv_at hl 0 rfl) ?_
  refine lv_iconst (v := iI 0) hx hb dX0_init_33 rfl ?_
  refine va_put (D := G.1) (ci := 1) (v := .int (iI 0)) (ty := .int) (C := RX0) (T := TX0) (N := 5) hx hb hts (by decide +kernel) tyX0 tyX0_ok nmX0 hown hK hP hD hS 0 rfl rfl 4 (by decide) (hts (.fieldLink RX0 25 "MilkFirst$Ends" "most" "I") (by decide +kernel)) (fun _ h9 => h9) rfl (by decide +kernel) rfl rfl (Nat.le_of_ble_eq_true rfl) dX0_init_34 (fun H locs hP hD hS => ?_)
  have hP : va_P G.1 vwCl ([(h0, .inr (1, [.ref q7_1, .ref q14_2, .ref q22_3, .long (lI 1), .int (iI 0)])), (q7_1, .inl (G.2.1 1, 13, .inr (.inl (aL (fun _ => 0))))), (q14_2, .inl (G.2.1 1, 5, .inr (.inl (aL (fun _ => 0))))), (q22_3, .inl (G.2.1 1, 13, .inr (.inl (aL (fun _ => 0)))))]) H := hP
  have hD : va_D A ([(h0, .inr (1, [.ref q7_1, .ref q14_2, .ref q22_3, .long (lI 1), .int (iI 0)])), (q7_1, .inl (G.2.1 1, 13, .inr (.inl (aL (fun _ => 0))))), (q14_2, .inl (G.2.1 1, 5, .inr (.inl (aL (fun _ => 0))))), (q22_3, .inl (G.2.1 1, 13, .inr (.inl (aL (fun _ => 0)))))]) := hD
  exact rtWv hx hb hr hlocks dX0_init_37 (q7_1, q14_2, q22_3) trivial hP hD hS
abbrev rm_c_X3_init : Room := { frames := 5, cells := 4, slots := 36, locals := 140 }
set_option maxHeartbeats 4000000 in
set_option maxRecDepth 100000 in
theorem c_X3_init (l : Launch) (G : Gx) (h0 : Nat) (kd : Int) (n : Int) (k : Int) (sz : Nat) (hv : okP kd n k) (hrk : rI k) : Met l yX3_init wsX3_init rm_c_X3_init (va_Pc [.ref h0, .int (iI kd), .int (iI n), .int (iI k)] (wr G ([(h0, .inr (3, [.int (iI 0), .int (iI 0), .int (iI 0), .null]))]) sz)) (va_Qv (fun (u : Nat × Nat × Nat × Nat × (Nat → Int) × (Nat → Int) × (Nat → Int)) => ∀ j : Nat, j < 13 → u.2.2.2.2.1 j = csZ kd n k 5 j) (Bw G.1 vwCl (fun (u : Nat × Nat × Nat × Nat × (Nat → Int) × (Nat → Int) × (Nat → Int)) => [(h0, .inr (3, [.int (iI kd), .int (iI n), .int (iI k), .ref u.1])), (u.1, .inr (1, [.ref u.2.1, .ref u.2.2.1, .ref u.2.2.2.1, .long (lI (alZ kd n)), .int (iI (moZ kd n))])), (u.2.1, .inl (G.2.1 1, 13, .inr (.inl (aL u.2.2.2.2.1)))), (u.2.2.1, .inl (G.2.1 1, 5, .inr (.inl (aL u.2.2.2.2.2.1)))), (u.2.2.2.1, .inl (G.2.1 1, 13, .inr (.inl (aL u.2.2.2.2.2.2))))]) (va_A ([(h0, .inr (3, [.int (iI 0), .int (iI 0), .int (iI 0), .null]))]) sz)) (va_A ([(h0, .inr (3, [.int (iI 0), .int (iI 0), .int (iI 0), .null]))]) sz)) 4 36 (va_A ([(h0, .inr (3, [.int (iI 0), .int (iI 0), .int (iI 0), .null]))]) sz) := by
  refine enW (Qc := fun A => (va_Qv (fun (u : Nat × Nat × Nat × Nat × (Nat → Int) × (Nat → Int) × (Nat → Int)) => ∀ j : Nat, j < 13 → u.2.2.2.2.1 j = csZ kd n k 5 j) (Bw G.1 vwCl (fun (u : Nat × Nat × Nat × Nat × (Nat → Int) × (Nat → Int) × (Nat → Int)) => [(h0, .inr (3, [.int (iI kd), .int (iI n), .int (iI k), .ref u.1])), (u.1, .inr (1, [.ref u.2.1, .ref u.2.2.1, .ref u.2.2.2.1, .long (lI (alZ kd n)), .int (iI (moZ kd n))])), (u.2.1, .inl (G.2.1 1, 13, .inr (.inl (aL u.2.2.2.2.1)))), (u.2.2.1, .inl (G.2.1 1, 5, .inr (.inl (aL u.2.2.2.2.2.1)))), (u.2.2.2.1, .inl (G.2.1 1, 13, .inr (.inl (aL u.2.2.2.2.2.2))))]) A) A)) (mc := 4) (ms := 36) (cc := cX3_init) (maxL := 4) (ret := none) (C := RX3) [(0, .ref h0), (1, .int (iI kd)), (2, .int (iI n)), (3, .int (iI k))] (by decide) rfl rfl (Nat.le_of_ble_eq_true rfl) rfl ?_
  intro p e s m args below meth c ls A hx hb hr hml hown hts hlocks hin hP hK hD hT hN hA hS hl
  show W p l e rm_c_X3_init s m args below meth c s.heap [] 0 0 _ (F0 m 0 ls [])
  refine lv_aload_n hx hb dX3_init_0 rfl (lv_at hl 0 rfl) ?_
  refine W.objInit hx hb hown (hts (.methodLink RX3 3 objectInit) (by decide +kernel)) (hts (.instanceMethod objectInit) (by decide +kernel)) (hts (.code objectInit ⟨#[0xb1]⟩ 1 none) (by decide +kernel)) rfl (by rw [hml]; exact hl.1) rfl dX3_init_1 (Nat.le_of_ble_eq_true rfl) (Nat.le_of_ble_eq_true rfl) ?_
  refine W.eq (g2 := F0 m 4 ls []) rfl ?_
  refine lv_aload_n hx hb dX3_init_4 rfl (lv_at hl 0 rfl) ?_
  refine va_new (D := G.1) (ci := 1) (fs := [.null, .null, .null, .long (lI 0), .int (iI 0)]) (C := RX0) (T := TX0) (N := 5) hx hb hts (by decide +kernel) tyX0 tyX0_ok hown (hts (.classLink RX3 9 RX0) (by decide +kernel)) (hts (.instantiable RX0 5) (by decide +kernel)) (hts (.initialized RX0) (by decide +kernel)) hK hP hD hS hA rfl (by decide +kernel) (Nat.le_of_ble_eq_true rfl) (Nat.le_of_ble_eq_true rfl) dX3_init_5 (fun q5_1 H hP hD hS => ?_)
  refine W.widen (k := 1) (n := 5) (by omega) (by omega) ?_
  have hP : va_P G.1 vwCl ([(h0, .inr (3, [.int (iI 0), .int (iI 0), .int (iI 0), .null])), (q5_1, .inr (1, [.null, .null, .null, .long (lI 0), .int (iI 0)]))]) H := hP
  have hD : va_D A ([(h0, .inr (3, [.int (iI 0), .int (iI 0), .int (iI 0), .null])), (q5_1, .inr (1, [.null, .null, .null, .long (lI 0), .int (iI 0)]))]) := hD
  refine lv_dup hx hb dX3_init_8 rfl ?_
  refine cWINv0 (As := []) (rest := [.ref q5_1, .ref h0]) (wr0 := [(h0, .inr (3, [.int (iI 0), .int (iI 0), .int (iI 0), .null]))]) ⟨hx, hb, hml, hown, hts⟩ (c_X0_init l G q5_1 H.size ) ⟨va_cnB 0 hts gX3_init_X0_init_n11 rfl rfl rfl (hN.1 (.methodLinkNest RX3 11 yX0_init "MilkFirst") (by decide +kernel)) (hts (.initialized yX0_init.cls) (by decide +kernel)) (by decide +kernel) ⟨Nat.le_of_ble_eq_true rfl, Nat.le_of_ble_eq_true rfl⟩, rfl, (hts (.instanceMethod yX0_init) (by decide +kernel))⟩ rfl hl.1 rfl (Nat.le_of_ble_eq_true rfl) dX3_init_9 ⟨Nat.le_of_ble_eq_true rfl, Nat.le_of_ble_eq_true rfl⟩ hP hD hK hT hN hS hA [1] [0] rfl rfl (by decide) (by decide) (by decide) (fun u_2 hu_2 H locs hz_2 hP hD hS => ?_)
  obtain ⟨c1_2, b1_2, j1_2⟩ := u_2
  have hP : va_P G.1 vwCl ([(h0, .inr (3, [.int (iI 0), .int (iI 0), .int (iI 0), .null])), (q5_1, .inr (1, [.ref c1_2, .ref b1_2, .ref j1_2, .long (lI 1), .int (iI 0)])), (c1_2, .inl (G.2.1 1, 13, .inr (.inl (aL (fun _ => 0))))), (b1_2, .inl (G.2.1 1, 5, .inr (.inl (aL (fun _ => 0))))), (j1_2, .inl (G.2.1 1, 13, .inr (.inl (aL (fun _ => 0)))))]) H := hP
  have hD : va_D A ([(h0, .inr (3, [.int (iI 0), .int (iI 0), .int (iI 0), .null])), (q5_1, .inr (1, [.ref c1_2, .ref b1_2, .ref j1_2, .long (lI 1), .int (iI 0)])), (c1_2, .inl (G.2.1 1, 13, .inr (.inl (aL (fun _ => 0))))), (b1_2, .inl (G.2.1 1, 5, .inr (.inl (aL (fun _ => 0))))), (j1_2, .inl (G.2.1 1, 13, .inr (.inl (aL (fun _ => 0)))))]) := hD
  refine va_putF (D := G.1) (ci := 3) (v := .ref q5_1) (ty := (.object "MilkFirst$Ends")) (C := RX3) (T := TX3) (N := 4) hx hb hts (by decide +kernel) tyX3 tyX3_ok nmX3 hown hK hP hD hS 0 rfl rfl 3 (by decide) (hts (.fieldLink RX3 12 "MilkFirst$Plan" "nobody" "LMilkFirst$Ends;") (by decide +kernel)) (fun _ h9 => h9) rfl hin rfl (by decide +kernel) rfl rfl (Nat.le_of_ble_eq_true rfl) dX3_init_12 (fun H locs hP hD hS => ?_)
  have hP : va_P G.1 vwCl ([(h0, .inr (3, [.int (iI 0), .int (iI 0), .int (iI 0), .ref q5_1])), (q5_1, .inr (1, [.ref c1_2, .ref b1_2, .ref j1_2, .long (lI 1), .int (iI 0)])), (c1_2, .inl (G.2.1 1, 13, .inr (.inl (aL (fun _ => 0))))), (b1_2, .inl (G.2.1 1, 5, .inr (.inl (aL (fun _ => 0))))), (j1_2, .inl (G.2.1 1, 13, .inr (.inl (aL (fun _ => 0)))))]) H := hP
  have hD : va_D A ([(h0, .inr (3, [.int (iI 0), .int (iI 0), .int (iI 0), .ref q5_1])), (q5_1, .inr (1, [.ref c1_2, .ref b1_2, .ref j1_2, .long (lI 1), .int (iI 0)])), (c1_2, .inl (G.2.1 1, 13, .inr (.inl (aL (fun _ => 0))))), (b1_2, .inl (G.2.1 1, 5, .inr (.inl (aL (fun _ => 0))))), (j1_2, .inl (G.2.1 1, 13, .inr (.inl (aL (fun _ => 0)))))]) := hD
  refine lv_aload_n hx hb dX3_init_15 rfl (lv_at hl 0 rfl) ?_
  refine lv_iload_n hx hb dX3_init_16 rfl (lv_at hl 1 rfl) ?_
  refine va_putF (D := G.1) (ci := 3) (v := .int (iI kd)) (ty := .int) (C := RX3) (T := TX3) (N := 4) hx hb hts (by decide +kernel) tyX3 tyX3_ok nmX3 hown hK hP hD hS 0 rfl rfl 0 (by decide) (hts (.fieldLink RX3 18 "MilkFirst$Plan" "kind" "I") (by decide +kernel)) (fun _ h9 => h9) rfl hin rfl (by decide +kernel) rfl rfl (Nat.le_of_ble_eq_true rfl) dX3_init_17 (fun H locs hP hD hS => ?_)
  have hP : va_P G.1 vwCl ([(h0, .inr (3, [.int (iI kd), .int (iI 0), .int (iI 0), .ref q5_1])), (q5_1, .inr (1, [.ref c1_2, .ref b1_2, .ref j1_2, .long (lI 1), .int (iI 0)])), (c1_2, .inl (G.2.1 1, 13, .inr (.inl (aL (fun _ => 0))))), (b1_2, .inl (G.2.1 1, 5, .inr (.inl (aL (fun _ => 0))))), (j1_2, .inl (G.2.1 1, 13, .inr (.inl (aL (fun _ => 0)))))]) H := hP
  have hD : va_D A ([(h0, .inr (3, [.int (iI kd), .int (iI 0), .int (iI 0), .ref q5_1])), (q5_1, .inr (1, [.ref c1_2, .ref b1_2, .ref j1_2, .long (lI 1), .int (iI 0)])), (c1_2, .inl (G.2.1 1, 13, .inr (.inl (aL (fun _ => 0))))), (b1_2, .inl (G.2.1 1, 5, .inr (.inl (aL (fun _ => 0))))), (j1_2, .inl (G.2.1 1, 13, .inr (.inl (aL (fun _ => 0)))))]) := hD
  refine lv_aload_n hx hb dX3_init_20 rfl (lv_at hl 0 rfl) ?_
  refine lv_iload_n hx hb dX3_init_21 rfl (lv_at hl 2 rfl) ?_
  refine va_putF (D := G.1) (ci := 3) (v := .int (iI n)) (ty := .int) (C := RX3) (T := TX3) (N := 4) hx hb hts (by decide +kernel) tyX3 tyX3_ok nmX3 hown hK hP hD hS 0 rfl rfl 1 (by decide) (hts (.fieldLink RX3 22 "MilkFirst$Plan" "n" "I") (by decide +kernel)) (fun _ h9 => h9) rfl hin rfl (by decide +kernel) rfl rfl (Nat.le_of_ble_eq_true rfl) dX3_init_22 (fun H locs hP hD hS => ?_)
  have hP : va_P G.1 vwCl ([(h0, .inr (3, [.int (iI kd), .int (iI n), .int (iI 0), .ref q5_1])), (q5_1, .inr (1, [.ref c1_2, .ref b1_2, .ref j1_2, .long (lI 1), .int (iI 0)])), (c1_2, .inl (G.2.1 1, 13, .inr (.inl (aL (fun _ => 0))))), (b1_2, .inl (G.2.1 1, 5, .inr (.inl (aL (fun _ => 0))))), (j1_2, .inl (G.2.1 1, 13, .inr (.inl (aL (fun _ => 0)))))]) H := hP
  have hD : va_D A ([(h0, .inr (3, [.int (iI kd), .int (iI n), .int (iI 0), .ref q5_1])), (q5_1, .inr (1, [.ref c1_2, .ref b1_2, .ref j1_2, .long (lI 1), .int (iI 0)])), (c1_2, .inl (G.2.1 1, 13, .inr (.inl (aL (fun _ => 0))))), (b1_2, .inl (G.2.1 1, 5, .inr (.inl (aL (fun _ => 0))))), (j1_2, .inl (G.2.1 1, 13, .inr (.inl (aL (fun _ => 0)))))]) := hD
  refine lv_aload_n hx hb dX3_init_25 rfl (lv_at hl 0 rfl) ?_
  refine lv_iload_n hx hb dX3_init_26 rfl (lv_at hl 3 rfl) ?_
  refine va_putF (D := G.1) (ci := 3) (v := .int (iI k)) (ty := .int) (C := RX3) (T := TX3) (N := 4) hx hb hts (by decide +kernel) tyX3 tyX3_ok nmX3 hown hK hP hD hS 0 rfl rfl 2 (by decide) (hts (.fieldLink RX3 25 "MilkFirst$Plan" "k" "I") (by decide +kernel)) (fun _ h9 => h9) rfl hin rfl (by decide +kernel) rfl rfl (Nat.le_of_ble_eq_true rfl) dX3_init_27 (fun H locs hP hD hS => ?_)
  have hP : va_P G.1 vwCl ([(h0, .inr (3, [.int (iI kd), .int (iI n), .int (iI k), .ref q5_1])), (q5_1, .inr (1, [.ref c1_2, .ref b1_2, .ref j1_2, .long (lI 1), .int (iI 0)])), (c1_2, .inl (G.2.1 1, 13, .inr (.inl (aL (fun _ => 0))))), (b1_2, .inl (G.2.1 1, 5, .inr (.inl (aL (fun _ => 0))))), (j1_2, .inl (G.2.1 1, 13, .inr (.inl (aL (fun _ => 0)))))]) H := hP
  have hD : va_D A ([(h0, .inr (3, [.int (iI kd), .int (iI n), .int (iI k), .ref q5_1])), (q5_1, .inr (1, [.ref c1_2, .ref b1_2, .ref j1_2, .long (lI 1), .int (iI 0)])), (c1_2, .inl (G.2.1 1, 13, .inr (.inl (aL (fun _ => 0))))), (b1_2, .inl (G.2.1 1, 5, .inr (.inl (aL (fun _ => 0))))), (j1_2, .inl (G.2.1 1, 13, .inr (.inl (aL (fun _ => 0)))))]) := hD
  refine lv_aload_n hx hb dX3_init_30 rfl (lv_at hl 0 rfl) ?_
  refine va_get (D := G.1) (ci := 3) (v := .ref q5_1) (C := RX3) (T := TX3) (N := 4) hx hb hts (by decide +kernel) hown hK hP 0 rfl rfl 3 (by decide) (hts (.fieldLink RX3 12 "MilkFirst$Plan" "nobody" "LMilkFirst$Ends;") (by decide +kernel)) (fun _ h9 => h9) rfl dX3_init_31 ?_
  refine lv_iload_n hx hb dX3_init_34 rfl (lv_at hl 1 rfl) ?_
  refine lv_iload_n hx hb dX3_init_35 rfl (lv_at hl 2 rfl) ?_
  refine lv_iload_n hx hb dX3_init_36 rfl (lv_at hl 3 rfl) ?_
  refine lv_iconst (v := iI 5) hx hb dX3_init_37 rfl ?_
  refine cWVv0 (As := [.int (iI kd), .int (iI n), .int (iI k), .int (iI 5)]) (rest := []) (wr0 := [(h0, .inr (3, [.int (iI kd), .int (iI n), .int (iI k), .ref q5_1]))]) ⟨hx, hb, hml, hown, hts⟩ (c_X0_fill l G q5_1 c1_2 b1_2 j1_2 (fun _ => 0) (fun _ => 0) (fun _ => 0) 1 0 kd n k 5 H.size (by exact hv) (by omega) (by exact hrk)) (cwV 4 hts gX3_init_X0_fill rfl rfl rfl (by decide +kernel) ⟨Nat.le_of_ble_eq_true rfl, Nat.le_of_ble_eq_true rfl⟩) rfl hl.1 rfl (Nat.le_of_ble_eq_true rfl) dX3_init_38 ⟨Nat.le_of_ble_eq_true rfl, Nat.le_of_ble_eq_true rfl⟩ hP hD hK hT hN hS hA [1, 2, 3, 4] [0] rfl rfl (by decide) (by decide) (by decide) (ci := 1) rfl rfl (fun u_3 hu_3 H locs hz_3 hP hD hS => ?_)
  obtain ⟨F2_3, B2_3, J2_3⟩ := u_3
  try dsimp only at hu_3
  have hP : va_P G.1 vwCl ([(h0, .inr (3, [.int (iI kd), .int (iI n), .int (iI k), .ref q5_1])), (q5_1, .inr (1, [.ref c1_2, .ref b1_2, .ref j1_2, .long (lI (alZ kd n)), .int (iI (moZ kd n))])), (c1_2, .inl (G.2.1 1, 13, .inr (.inl (aL F2_3)))), (b1_2, .inl (G.2.1 1, 5, .inr (.inl (aL B2_3)))), (j1_2, .inl (G.2.1 1, 13, .inr (.inl (aL J2_3))))]) H := hP
  have hD : va_D A ([(h0, .inr (3, [.int (iI kd), .int (iI n), .int (iI k), .ref q5_1])), (q5_1, .inr (1, [.ref c1_2, .ref b1_2, .ref j1_2, .long (lI (alZ kd n)), .int (iI (moZ kd n))])), (c1_2, .inl (G.2.1 1, 13, .inr (.inl (aL F2_3)))), (b1_2, .inl (G.2.1 1, 5, .inr (.inl (aL B2_3)))), (j1_2, .inl (G.2.1 1, 13, .inr (.inl (aL J2_3))))]) := hD
  have hz9 := hu_3
  exact rtWv hx hb hr hlocks dX3_init_41 (q5_1, c1_2, b1_2, j1_2, F2_3, B2_3, J2_3) (show ∀ j : Nat, j < 13 → F2_3 j = csZ kd n k 5 j from hz9) hP hD hS
abbrev rm_c_X1_init : Room := { frames := 1, cells := 2, slots := 50, locals := 20 }
set_option maxHeartbeats 4000000 in
set_option maxRecDepth 100000 in
theorem c_X1_init (l : Launch) (G : Gx) (h0 : Nat) (sz : Nat) : Met l yX1_init wsX1_init rm_c_X1_init (va_Pc [.ref h0] (wr G ([(h0, .inr (2, [.null, .null]))]) sz)) (va_Qv (fun (u : Nat × Nat) => True) (Bw G.1 vwCl (fun (u : Nat × Nat) => [(h0, .inr (2, [.ref u.1, .ref u.2])), (u.1, .inl (G.2.1 1, 25, .inr (.inl (aL (fun _ => 0))))), (u.2, .inl (G.2.1 1, 25, .inr (.inl (aL (fun _ => 0)))))]) (va_A ([(h0, .inr (2, [.null, .null]))]) sz)) (va_A ([(h0, .inr (2, [.null, .null]))]) sz)) 2 50 (va_A ([(h0, .inr (2, [.null, .null]))]) sz) := by
  refine enW (Qc := fun A => (va_Qv (fun (u : Nat × Nat) => True) (Bw G.1 vwCl (fun (u : Nat × Nat) => [(h0, .inr (2, [.ref u.1, .ref u.2])), (u.1, .inl (G.2.1 1, 25, .inr (.inl (aL (fun _ => 0))))), (u.2, .inl (G.2.1 1, 25, .inr (.inl (aL (fun _ => 0)))))]) A) A)) (mc := 2) (ms := 50) (cc := cX1_init) (maxL := 1) (ret := none) (C := RX1) [(0, .ref h0)] (by decide) rfl rfl (Nat.le_of_ble_eq_true rfl) rfl ?_
  intro p e s m args below meth c ls A hx hb hr hml hown hts hlocks hin hP hK hD hT hN hA hS hl
  show W p l e rm_c_X1_init s m args below meth c s.heap [] 0 0 _ (F0 m 0 ls [])
  refine lv_aload_n hx hb dX1_init_0 rfl (lv_at hl 0 rfl) ?_
  refine W.objInit hx hb hown (hts (.methodLink RX1 3 objectInit) (by decide +kernel)) (hts (.instanceMethod objectInit) (by decide +kernel)) (hts (.code objectInit ⟨#[0xb1]⟩ 1 none) (by decide +kernel)) rfl (by rw [hml]; exact hl.1) rfl dX1_init_1 (Nat.le_of_ble_eq_true rfl) (Nat.le_of_ble_eq_true rfl) ?_
  refine W.eq (g2 := F0 m 4 ls []) rfl ?_
  refine lv_aload_n hx hb dX1_init_4 rfl (lv_at hl 0 rfl) ?_
  refine lv_bipush (v := iI 25) hx hb dX1_init_5 (by decide) ?_
  refine w_newJ hx hb (hts (.arrayClass .long) (by decide +kernel)) hK hP hD hS hA 25 rfl (by decide) (Nat.le_of_ble_eq_true rfl) (Nat.le_of_ble_eq_true rfl) dX1_init_7 (fun q7_1 H hP hD hS => ?_)
  refine W.widen (k := 1) (n := 25) (by omega) (by omega) ?_
  have hP : va_P G.1 vwCl ([(h0, .inr (2, [.null, .null])), (q7_1, .inl (G.2.1 1, 25, .inr (.inl (aL (fun _ => 0)))))]) H := hP
  have hD : va_D A ([(h0, .inr (2, [.null, .null])), (q7_1, .inl (G.2.1 1, 25, .inr (.inl (aL (fun _ => 0)))))]) := hD
  refine va_putF (D := G.1) (ci := 2) (v := .ref q7_1) (ty := (.array .long)) (C := RX1) (T := TX1) (N := 2) hx hb hts (by decide +kernel) tyX1 tyX1_ok nmX1 hown hK hP hD hS 0 rfl rfl 0 (by decide) (hts (.fieldLink RX1 9 "MilkFirst$Looking" "ahead" "[J") (by decide +kernel)) (fun _ h9 => h9) rfl hin rfl (by decide +kernel) rfl rfl (Nat.le_of_ble_eq_true rfl) dX1_init_9 (fun H locs hP hD hS => ?_)
  have hP : va_P G.1 vwCl ([(h0, .inr (2, [.ref q7_1, .null])), (q7_1, .inl (G.2.1 1, 25, .inr (.inl (aL (fun _ => 0)))))]) H := hP
  have hD : va_D A ([(h0, .inr (2, [.ref q7_1, .null])), (q7_1, .inl (G.2.1 1, 25, .inr (.inl (aL (fun _ => 0)))))]) := hD
  refine lv_aload_n hx hb dX1_init_12 rfl (lv_at hl 0 rfl) ?_
  refine lv_bipush (v := iI 25) hx hb dX1_init_13 (by decide) ?_
  refine w_newJ hx hb (hts (.arrayClass .long) (by decide +kernel)) hK hP hD hS hA 25 rfl (by decide) (Nat.le_of_ble_eq_true rfl) (Nat.le_of_ble_eq_true rfl) dX1_init_15 (fun q15_2 H hP hD hS => ?_)
  refine W.widen (k := 2) (n := 50) (by omega) (by omega) ?_
  have hP : va_P G.1 vwCl ([(h0, .inr (2, [.ref q7_1, .null])), (q7_1, .inl (G.2.1 1, 25, .inr (.inl (aL (fun _ => 0))))), (q15_2, .inl (G.2.1 1, 25, .inr (.inl (aL (fun _ => 0)))))]) H := hP
  have hD : va_D A ([(h0, .inr (2, [.ref q7_1, .null])), (q7_1, .inl (G.2.1 1, 25, .inr (.inl (aL (fun _ => 0))))), (q15_2, .inl (G.2.1 1, 25, .inr (.inl (aL (fun _ => 0)))))]) := hD
  refine va_putF (D := G.1) (ci := 2) (v := .ref q15_2) (ty := (.array .long)) (C := RX1) (T := TX1) (N := 2) hx hb hts (by decide +kernel) tyX1 tyX1_ok nmX1 hown hK hP hD hS 0 rfl rfl 1 (by decide) (hts (.fieldLink RX1 15 "MilkFirst$Looking" "after" "[J") (by decide +kernel)) (fun _ h9 => h9) rfl hin rfl (by decide +kernel) rfl rfl (Nat.le_of_ble_eq_true rfl) dX1_init_17 (fun H locs hP hD hS => ?_)
  have hP : va_P G.1 vwCl ([(h0, .inr (2, [.ref q7_1, .ref q15_2])), (q7_1, .inl (G.2.1 1, 25, .inr (.inl (aL (fun _ => 0))))), (q15_2, .inl (G.2.1 1, 25, .inr (.inl (aL (fun _ => 0)))))]) H := hP
  have hD : va_D A ([(h0, .inr (2, [.ref q7_1, .ref q15_2])), (q7_1, .inl (G.2.1 1, 25, .inr (.inl (aL (fun _ => 0))))), (q15_2, .inl (G.2.1 1, 25, .inr (.inl (aL (fun _ => 0)))))]) := hD
  exact rtWv hx hb hr hlocks dX1_init_20 (q7_1, q15_2) trivial hP hD hS
abbrev rm_c_X7_init : Room := { frames := 1, cells := 2, slots := 80, locals := 20 }
set_option maxHeartbeats 4000000 in
set_option maxRecDepth 100000 in
theorem c_X7_init (l : Launch) (G : Gx) (h0 : Nat) (sz : Nat) : Met l yX7_init wsX7_init rm_c_X7_init (va_Pc [.ref h0] (wr G ([(h0, .inr (6, [.null, .null, .int (iI 0), .int (iI 0), .int (iI 0), .int (iI 0)]))]) sz)) (va_Qv (fun (u : Nat × Nat) => True) (Bw G.1 vwCl (fun (u : Nat × Nat) => [(h0, .inr (6, [.ref u.1, .ref u.2, .int (iI 0), .int (iI 0), .int (iI 0), .int (iI (-1))])), (u.1, .inl (G.2.1 0, 40, .inl (aI (fun _ => 0)))), (u.2, .inl (G.2.1 0, 40, .inl (aI (fun _ => 0))))]) (va_A ([(h0, .inr (6, [.null, .null, .int (iI 0), .int (iI 0), .int (iI 0), .int (iI 0)]))]) sz)) (va_A ([(h0, .inr (6, [.null, .null, .int (iI 0), .int (iI 0), .int (iI 0), .int (iI 0)]))]) sz)) 2 80 (va_A ([(h0, .inr (6, [.null, .null, .int (iI 0), .int (iI 0), .int (iI 0), .int (iI 0)]))]) sz) := by
  refine enW (Qc := fun A => (va_Qv (fun (u : Nat × Nat) => True) (Bw G.1 vwCl (fun (u : Nat × Nat) => [(h0, .inr (6, [.ref u.1, .ref u.2, .int (iI 0), .int (iI 0), .int (iI 0), .int (iI (-1))])), (u.1, .inl (G.2.1 0, 40, .inl (aI (fun _ => 0)))), (u.2, .inl (G.2.1 0, 40, .inl (aI (fun _ => 0))))]) A) A)) (mc := 2) (ms := 80) (cc := cX7_init) (maxL := 1) (ret := none) (C := RX7) [(0, .ref h0)] (by decide) rfl rfl (Nat.le_of_ble_eq_true rfl) rfl ?_
  intro p e s m args below meth c ls A hx hb hr hml hown hts hlocks hin hP hK hD hT hN hA hS hl
  show W p l e rm_c_X7_init s m args below meth c s.heap [] 0 0 _ (F0 m 0 ls [])
  refine lv_aload_n hx hb dX7_init_0 rfl (lv_at hl 0 rfl) ?_
  refine W.objInit hx hb hown (hts (.methodLink RX7 3 objectInit) (by decide +kernel)) (hts (.instanceMethod objectInit) (by decide +kernel)) (hts (.code objectInit ⟨#[0xb1]⟩ 1 none) (by decide +kernel)) rfl (by rw [hml]; exact hl.1) rfl dX7_init_1 (Nat.le_of_ble_eq_true rfl) (Nat.le_of_ble_eq_true rfl) ?_
  refine W.eq (g2 := F0 m 4 ls []) rfl ?_
  refine lv_aload_n hx hb dX7_init_4 rfl (lv_at hl 0 rfl) ?_
  refine lv_bipush (v := iI 40) hx hb dX7_init_5 (by decide) ?_
  refine w_newI hx hb (hts (.arrayClass .int) (by decide +kernel)) hK hP hD hS hA 40 rfl (by decide) (Nat.le_of_ble_eq_true rfl) (Nat.le_of_ble_eq_true rfl) dX7_init_7 (fun q7_1 H hP hD hS => ?_)
  refine W.widen (k := 1) (n := 40) (by omega) (by omega) ?_
  have hP : va_P G.1 vwCl ([(h0, .inr (6, [.null, .null, .int (iI 0), .int (iI 0), .int (iI 0), .int (iI 0)])), (q7_1, .inl (G.2.1 0, 40, .inl (aI (fun _ => 0))))]) H := hP
  have hD : va_D A ([(h0, .inr (6, [.null, .null, .int (iI 0), .int (iI 0), .int (iI 0), .int (iI 0)])), (q7_1, .inl (G.2.1 0, 40, .inl (aI (fun _ => 0))))]) := hD
  refine va_putF (D := G.1) (ci := 6) (v := .ref q7_1) (ty := (.array .int)) (C := RX7) (T := TX7) (N := 6) hx hb hts (by decide +kernel) tyX7 tyX7_ok nmX7 hown hK hP hD hS 0 rfl rfl 0 (by decide) (hts (.fieldLink RX7 9 "MilkFirst$Tape" "text" "[I") (by decide +kernel)) (fun _ h9 => h9) rfl hin rfl (by decide +kernel) rfl rfl (Nat.le_of_ble_eq_true rfl) dX7_init_9 (fun H locs hP hD hS => ?_)
  have hP : va_P G.1 vwCl ([(h0, .inr (6, [.ref q7_1, .null, .int (iI 0), .int (iI 0), .int (iI 0), .int (iI 0)])), (q7_1, .inl (G.2.1 0, 40, .inl (aI (fun _ => 0))))]) H := hP
  have hD : va_D A ([(h0, .inr (6, [.ref q7_1, .null, .int (iI 0), .int (iI 0), .int (iI 0), .int (iI 0)])), (q7_1, .inl (G.2.1 0, 40, .inl (aI (fun _ => 0))))]) := hD
  refine lv_aload_n hx hb dX7_init_12 rfl (lv_at hl 0 rfl) ?_
  refine lv_bipush (v := iI 40) hx hb dX7_init_13 (by decide) ?_
  refine w_newI hx hb (hts (.arrayClass .int) (by decide +kernel)) hK hP hD hS hA 40 rfl (by decide) (Nat.le_of_ble_eq_true rfl) (Nat.le_of_ble_eq_true rfl) dX7_init_15 (fun q15_2 H hP hD hS => ?_)
  refine W.widen (k := 2) (n := 80) (by omega) (by omega) ?_
  have hP : va_P G.1 vwCl ([(h0, .inr (6, [.ref q7_1, .null, .int (iI 0), .int (iI 0), .int (iI 0), .int (iI 0)])), (q7_1, .inl (G.2.1 0, 40, .inl (aI (fun _ => 0)))), (q15_2, .inl (G.2.1 0, 40, .inl (aI (fun _ => 0))))]) H := hP
  have hD : va_D A ([(h0, .inr (6, [.ref q7_1, .null, .int (iI 0), .int (iI 0), .int (iI 0), .int (iI 0)])), (q7_1, .inl (G.2.1 0, 40, .inl (aI (fun _ => 0)))), (q15_2, .inl (G.2.1 0, 40, .inl (aI (fun _ => 0))))]) := hD
  refine va_putF (D := G.1) (ci := 6) (v := .ref q15_2) (ty := (.array .int)) (C := RX7) (T := TX7) (N := 6) hx hb hts (by decide +kernel) tyX7 tyX7_ok nmX7 hown hK hP hD hS 0 rfl rfl 1 (by decide) (hts (.fieldLink RX7 15 "MilkFirst$Tape" "code" "[I") (by decide +kernel)) (fun _ h9 => h9) rfl hin rfl (by decide +kernel) rfl rfl (Nat.le_of_ble_eq_true rfl) dX7_init_17 (fun H locs hP hD hS => ?_)
  have hP : va_P G.1 vwCl ([(h0, .inr (6, [.ref q7_1, .ref q15_2, .int (iI 0), .int (iI 0), .int (iI 0), .int (iI 0)])), (q7_1, .inl (G.2.1 0, 40, .inl (aI (fun _ => 0)))), (q15_2, .inl (G.2.1 0, 40, .inl (aI (fun _ => 0))))]) H := hP
  have hD : va_D A ([(h0, .inr (6, [.ref q7_1, .ref q15_2, .int (iI 0), .int (iI 0), .int (iI 0), .int (iI 0)])), (q7_1, .inl (G.2.1 0, 40, .inl (aI (fun _ => 0)))), (q15_2, .inl (G.2.1 0, 40, .inl (aI (fun _ => 0))))]) := hD
  refine lv_aload_n hx hb dX7_init_20 rfl (lv_at hl 0 rfl) ?_
  refine lv_iconst (v := iI 0) hx hb dX7_init_21 rfl ?_
  refine va_put (D := G.1) (ci := 6) (v := .int (iI 0)) (ty := .int) (C := RX7) (T := TX7) (N := 6) hx hb hts (by decide +kernel) tyX7 tyX7_ok nmX7 hown hK hP hD hS 0 rfl rfl 2 (by decide) (hts (.fieldLink RX7 18 "MilkFirst$Tape" "textLength" "I") (by decide +kernel)) (fun _ h9 => h9) rfl (by decide +kernel) rfl rfl (Nat.le_of_ble_eq_true rfl) dX7_init_22 (fun H locs hP hD hS => ?_)
  have hP : va_P G.1 vwCl ([(h0, .inr (6, [.ref q7_1, .ref q15_2, .int (iI 0), .int (iI 0), .int (iI 0), .int (iI 0)])), (q7_1, .inl (G.2.1 0, 40, .inl (aI (fun _ => 0)))), (q15_2, .inl (G.2.1 0, 40, .inl (aI (fun _ => 0))))]) H := hP
  have hD : va_D A ([(h0, .inr (6, [.ref q7_1, .ref q15_2, .int (iI 0), .int (iI 0), .int (iI 0), .int (iI 0)])), (q7_1, .inl (G.2.1 0, 40, .inl (aI (fun _ => 0)))), (q15_2, .inl (G.2.1 0, 40, .inl (aI (fun _ => 0))))]) := hD
  refine lv_aload_n hx hb dX7_init_25 rfl (lv_at hl 0 rfl) ?_
  refine lv_iconst (v := iI 0) hx hb dX7_init_26 rfl ?_
  refine va_put (D := G.1) (ci := 6) (v := .int (iI 0)) (ty := .int) (C := RX7) (T := TX7) (N := 6) hx hb hts (by decide +kernel) tyX7 tyX7_ok nmX7 hown hK hP hD hS 0 rfl rfl 3 (by decide) (hts (.fieldLink RX7 22 "MilkFirst$Tape" "codeLength" "I") (by decide +kernel)) (fun _ h9 => h9) rfl (by decide +kernel) rfl rfl (Nat.le_of_ble_eq_true rfl) dX7_init_27 (fun H locs hP hD hS => ?_)
  have hP : va_P G.1 vwCl ([(h0, .inr (6, [.ref q7_1, .ref q15_2, .int (iI 0), .int (iI 0), .int (iI 0), .int (iI 0)])), (q7_1, .inl (G.2.1 0, 40, .inl (aI (fun _ => 0)))), (q15_2, .inl (G.2.1 0, 40, .inl (aI (fun _ => 0))))]) H := hP
  have hD : va_D A ([(h0, .inr (6, [.ref q7_1, .ref q15_2, .int (iI 0), .int (iI 0), .int (iI 0), .int (iI 0)])), (q7_1, .inl (G.2.1 0, 40, .inl (aI (fun _ => 0)))), (q15_2, .inl (G.2.1 0, 40, .inl (aI (fun _ => 0))))]) := hD
  refine lv_aload_n hx hb dX7_init_30 rfl (lv_at hl 0 rfl) ?_
  refine lv_iconst (v := iI 0) hx hb dX7_init_31 rfl ?_
  refine va_put (D := G.1) (ci := 6) (v := .int (iI 0)) (ty := .int) (C := RX7) (T := TX7) (N := 6) hx hb hts (by decide +kernel) tyX7 tyX7_ok nmX7 hown hK hP hD hS 0 rfl rfl 4 (by decide) (hts (.fieldLink RX7 25 "MilkFirst$Tape" "at" "I") (by decide +kernel)) (fun _ h9 => h9) rfl (by decide +kernel) rfl rfl (Nat.le_of_ble_eq_true rfl) dX7_init_32 (fun H locs hP hD hS => ?_)
  have hP : va_P G.1 vwCl ([(h0, .inr (6, [.ref q7_1, .ref q15_2, .int (iI 0), .int (iI 0), .int (iI 0), .int (iI 0)])), (q7_1, .inl (G.2.1 0, 40, .inl (aI (fun _ => 0)))), (q15_2, .inl (G.2.1 0, 40, .inl (aI (fun _ => 0))))]) H := hP
  have hD : va_D A ([(h0, .inr (6, [.ref q7_1, .ref q15_2, .int (iI 0), .int (iI 0), .int (iI 0), .int (iI 0)])), (q7_1, .inl (G.2.1 0, 40, .inl (aI (fun _ => 0)))), (q15_2, .inl (G.2.1 0, 40, .inl (aI (fun _ => 0))))]) := hD
  refine lv_aload_n hx hb dX7_init_35 rfl (lv_at hl 0 rfl) ?_
  refine lv_iconst (v := iI (-1)) hx hb dX7_init_36 rfl ?_
  refine va_put (D := G.1) (ci := 6) (v := .int (iI (-1))) (ty := .int) (C := RX7) (T := TX7) (N := 6) hx hb hts (by decide +kernel) tyX7 tyX7_ok nmX7 hown hK hP hD hS 0 rfl rfl 5 (by decide) (hts (.fieldLink RX7 28 "MilkFirst$Tape" "fault" "I") (by decide +kernel)) (fun _ h9 => h9) rfl (by decide +kernel) rfl rfl (Nat.le_of_ble_eq_true rfl) dX7_init_37 (fun H locs hP hD hS => ?_)
  have hP : va_P G.1 vwCl ([(h0, .inr (6, [.ref q7_1, .ref q15_2, .int (iI 0), .int (iI 0), .int (iI 0), .int (iI (-1))])), (q7_1, .inl (G.2.1 0, 40, .inl (aI (fun _ => 0)))), (q15_2, .inl (G.2.1 0, 40, .inl (aI (fun _ => 0))))]) H := hP
  have hD : va_D A ([(h0, .inr (6, [.ref q7_1, .ref q15_2, .int (iI 0), .int (iI 0), .int (iI 0), .int (iI (-1))])), (q7_1, .inl (G.2.1 0, 40, .inl (aI (fun _ => 0)))), (q15_2, .inl (G.2.1 0, 40, .inl (aI (fun _ => 0))))]) := hD
  exact rtWv hx hb hr hlocks dX7_init_40 (q7_1, q15_2) trivial hP hD hS
abbrev rm_c_X4_init : Room := { frames := 1, cells := 1, slots := 40, locals := 20 }
set_option maxHeartbeats 4000000 in
set_option maxRecDepth 100000 in
theorem c_X4_init (l : Launch) (G : Gx) (h0 : Nat) (k0 : Nat) (cn : Nat) (C : Nat → Int) (sz : Nat) (hcn : cn ≤ 40) : Met l yX4_init wsX4_init rm_c_X4_init (va_Pc [.ref h0, .ref k0] (wr G ([(h0, .inr (4, [.null, .null, .int (iI 0)])), (k0, .inl (G.2.1 0, cn, .inl (aI C)))]) sz)) (va_Qv (fun (u : Nat) => True) (Bw G.1 vwCl (fun (u : Nat) => [(h0, .inr (4, [.ref k0, .ref u, .int (iI 0)])), (k0, .inl (G.2.1 0, cn, .inl (aI C))), (u, .inl (G.2.1 1, cn, .inr (.inl (aL (fun _ => 0)))))]) (va_A ([(h0, .inr (4, [.null, .null, .int (iI 0)])), (k0, .inl (G.2.1 0, cn, .inl (aI C)))]) sz)) (va_A ([(h0, .inr (4, [.null, .null, .int (iI 0)])), (k0, .inl (G.2.1 0, cn, .inl (aI C)))]) sz)) 1 40 (va_A ([(h0, .inr (4, [.null, .null, .int (iI 0)])), (k0, .inl (G.2.1 0, cn, .inl (aI C)))]) sz) := by
  refine enW (Qc := fun A => (va_Qv (fun (u : Nat) => True) (Bw G.1 vwCl (fun (u : Nat) => [(h0, .inr (4, [.ref k0, .ref u, .int (iI 0)])), (k0, .inl (G.2.1 0, cn, .inl (aI C))), (u, .inl (G.2.1 1, cn, .inr (.inl (aL (fun _ => 0)))))]) A) A)) (mc := 1) (ms := 40) (cc := cX4_init) (maxL := 2) (ret := none) (C := RX4) [(0, .ref h0), (1, .ref k0)] (by decide) rfl rfl (Nat.le_of_ble_eq_true rfl) rfl ?_
  intro p e s m args below meth c ls A hx hb hr hml hown hts hlocks hin hP hK hD hT hN hA hS hl
  show W p l e rm_c_X4_init s m args below meth c s.heap [] 0 0 _ (F0 m 0 ls [])
  refine lv_aload_n hx hb dX4_init_0 rfl (lv_at hl 0 rfl) ?_
  refine W.objInit hx hb hown (hts (.methodLink RX4 1 objectInit) (by decide +kernel)) (hts (.instanceMethod objectInit) (by decide +kernel)) (hts (.code objectInit ⟨#[0xb1]⟩ 1 none) (by decide +kernel)) rfl (by rw [hml]; exact hl.1) rfl dX4_init_1 (Nat.le_of_ble_eq_true rfl) (Nat.le_of_ble_eq_true rfl) ?_
  refine W.eq (g2 := F0 m 4 ls []) rfl ?_
  refine lv_aload_n hx hb dX4_init_4 rfl (lv_at hl 0 rfl) ?_
  refine lv_iconst (v := iI 0) hx hb dX4_init_5 rfl ?_
  refine va_put (D := G.1) (ci := 4) (v := .int (iI 0)) (ty := .int) (C := RX4) (T := TX4) (N := 3) hx hb hts (by decide +kernel) tyX4 tyX4_ok nmX4 hown hK hP hD hS 0 rfl rfl 2 (by decide) (hts (.fieldLink RX4 7 "MilkFirst$Rule" "standing" "I") (by decide +kernel)) (fun _ h9 => h9) rfl (by decide +kernel) rfl rfl (Nat.le_of_ble_eq_true rfl) dX4_init_6 (fun H locs hP hD hS => ?_)
  have hP : va_P G.1 vwCl ([(h0, .inr (4, [.null, .null, .int (iI 0)])), (k0, .inl (G.2.1 0, cn, .inl (aI C)))]) H := hP
  have hD : va_D A ([(h0, .inr (4, [.null, .null, .int (iI 0)])), (k0, .inl (G.2.1 0, cn, .inl (aI C)))]) := hD
  refine lv_aload_n hx hb dX4_init_9 rfl (lv_at hl 0 rfl) ?_
  refine lv_aload_n hx hb dX4_init_10 rfl (lv_at hl 1 rfl) ?_
  refine va_putF (D := G.1) (ci := 4) (v := .ref k0) (ty := (.array .int)) (C := RX4) (T := TX4) (N := 3) hx hb hts (by decide +kernel) tyX4 tyX4_ok nmX4 hown hK hP hD hS 0 rfl rfl 0 (by decide) (hts (.fieldLink RX4 13 "MilkFirst$Rule" "code" "[I") (by decide +kernel)) (fun _ h9 => h9) rfl hin rfl (by decide +kernel) rfl rfl (Nat.le_of_ble_eq_true rfl) dX4_init_11 (fun H locs hP hD hS => ?_)
  have hP : va_P G.1 vwCl ([(h0, .inr (4, [.ref k0, .null, .int (iI 0)])), (k0, .inl (G.2.1 0, cn, .inl (aI C)))]) H := hP
  have hD : va_D A ([(h0, .inr (4, [.ref k0, .null, .int (iI 0)])), (k0, .inl (G.2.1 0, cn, .inl (aI C)))]) := hD
  refine lv_aload_n hx hb dX4_init_14 rfl (lv_at hl 0 rfl) ?_
  refine lv_aload_n hx hb dX4_init_15 rfl (lv_at hl 1 rfl) ?_
  refine va_alen (v := iI ((cn : Nat) : Int)) hx hb hK hP 1 0 rfl rfl (iI_N _) dX4_init_16 ?_
  refine w_newJ hx hb (hts (.arrayClass .long) (by decide +kernel)) hK hP hD hS hA cn (by first | rfl | omega) (by omega) (Nat.le_of_ble_eq_true rfl) (by show _ ≤ 40; omega) dX4_init_17 (fun q17_1 H hP hD hS => ?_)
  refine W.widen (k := 1) (n := 40) (by omega) (by omega) ?_
  have hP : va_P G.1 vwCl ([(h0, .inr (4, [.ref k0, .null, .int (iI 0)])), (k0, .inl (G.2.1 0, cn, .inl (aI C))), (q17_1, .inl (G.2.1 1, cn, .inr (.inl (aL (fun _ => 0)))))]) H := hP
  have hD : va_D A ([(h0, .inr (4, [.ref k0, .null, .int (iI 0)])), (k0, .inl (G.2.1 0, cn, .inl (aI C))), (q17_1, .inl (G.2.1 1, cn, .inr (.inl (aL (fun _ => 0)))))]) := hD
  refine va_putF (D := G.1) (ci := 4) (v := .ref q17_1) (ty := (.array .long)) (C := RX4) (T := TX4) (N := 3) hx hb hts (by decide +kernel) tyX4 tyX4_ok nmX4 hown hK hP hD hS 0 rfl rfl 1 (by decide) (hts (.fieldLink RX4 17 "MilkFirst$Rule" "stack" "[J") (by decide +kernel)) (fun _ h9 => h9) rfl hin rfl (by decide +kernel) rfl rfl (Nat.le_of_ble_eq_true rfl) dX4_init_19 (fun H locs hP hD hS => ?_)
  have hP : va_P G.1 vwCl ([(h0, .inr (4, [.ref k0, .ref q17_1, .int (iI 0)])), (k0, .inl (G.2.1 0, cn, .inl (aI C))), (q17_1, .inl (G.2.1 1, cn, .inr (.inl (aL (fun _ => 0)))))]) H := hP
  have hD : va_D A ([(h0, .inr (4, [.ref k0, .ref q17_1, .int (iI 0)])), (k0, .inl (G.2.1 0, cn, .inl (aI C))), (q17_1, .inl (G.2.1 1, cn, .inr (.inl (aL (fun _ => 0)))))]) := hD
  exact rtWv hx hb hr hlocks dX4_init_22 (q17_1) trivial hP hD hS
abbrev rm_c_X4_push : Room := { frames := 0, cells := 0, slots := 0, locals := 0 }
set_option maxHeartbeats 4000000 in
set_option maxRecDepth 100000 in
theorem c_X4_push (l : Launch) (G : Gx) (h0 : Nat) (s0 : Nat) (cn : Nat) (A1 : Nat → Int64) (L : List Int64) (k0 : Nat) (v : Int64) (sz : Nat) (hcn : cn ≤ 40) (hL : L.length ≤ cn) (hst : stT A1 L) : Met l yX4_push wsX4_push rm_c_X4_push (va_Pc [.ref h0, .long v] (wr G ([(h0, .inr (4, [.ref k0, .ref s0, .int (iI ((L.length : Nat) : Int))])), (s0, .inl (G.2.1 1, cn, .inr (.inl A1)))]) sz)) (va_Qv (fun (u : (Nat → Int64)) => stT u (psh cn v L)) (Bw G.1 vwCl (fun (u : (Nat → Int64)) => [(h0, .inr (4, [.ref k0, .ref s0, .int (iI (((psh cn v L).length : Nat) : Int))])), (s0, .inl (G.2.1 1, cn, .inr (.inl u)))]) (va_A ([(h0, .inr (4, [.ref k0, .ref s0, .int (iI ((L.length : Nat) : Int))])), (s0, .inl (G.2.1 1, cn, .inr (.inl A1)))]) sz)) (va_A ([(h0, .inr (4, [.ref k0, .ref s0, .int (iI ((L.length : Nat) : Int))])), (s0, .inl (G.2.1 1, cn, .inr (.inl A1)))]) sz)) 0 0 (va_A ([(h0, .inr (4, [.ref k0, .ref s0, .int (iI ((L.length : Nat) : Int))])), (s0, .inl (G.2.1 1, cn, .inr (.inl A1)))]) sz) := by
  refine enW (Qc := fun A => (va_Qv (fun (u : (Nat → Int64)) => stT u (psh cn v L)) (Bw G.1 vwCl (fun (u : (Nat → Int64)) => [(h0, .inr (4, [.ref k0, .ref s0, .int (iI (((psh cn v L).length : Nat) : Int))])), (s0, .inl (G.2.1 1, cn, .inr (.inl u)))]) A) A)) (mc := 0) (ms := 0) (cc := cX4_push) (maxL := 3) (ret := none) (C := RX4) [(0, .ref h0), (1, .long v)] (by decide) rfl rfl (Nat.le_of_ble_eq_true rfl) rfl ?_
  intro p e s m args below meth c ls A hx hb hr hml hown hts hlocks hin hP hK hD hT hN hA hS hl
  show W p l e rm_c_X4_push s m args below meth c s.heap [] 0 0 _ (F0 m 0 ls [])
  refine lv_aload_n hx hb dX4_push_0 rfl (lv_at hl 0 rfl) ?_
  refine va_get (D := G.1) (ci := 4) (v := .int (iI ((L.length : Nat) : Int))) (C := RX4) (T := TX4) (N := 3) hx hb hts (by decide +kernel) hown hK hP 0 rfl rfl 2 (by decide) (hts (.fieldLink RX4 7 "MilkFirst$Rule" "standing" "I") (by decide +kernel)) (fun _ h9 => h9) rfl dX4_push_1 ?_
  refine w_if_lt (tgt := 39) hx hb dX4_push_4 (by decide) (by omega) (fun c_4_1 => absurd c_4_1 (by omega)) (fun c_4_1 => ?_)
  refine lv_aload_n hx hb dX4_push_7 rfl (lv_at hl 0 rfl) ?_
  refine va_get (D := G.1) (ci := 4) (v := .int (iI ((L.length : Nat) : Int))) (C := RX4) (T := TX4) (N := 3) hx hb hts (by decide +kernel) hown hK hP 0 rfl rfl 2 (by decide) (hts (.fieldLink RX4 7 "MilkFirst$Rule" "standing" "I") (by decide +kernel)) (fun _ h9 => h9) rfl dX4_push_8 ?_
  refine lv_aload_n hx hb dX4_push_11 rfl (lv_at hl 0 rfl) ?_
  refine va_get (D := G.1) (ci := 4) (v := .ref s0) (C := RX4) (T := TX4) (N := 3) hx hb hts (by decide +kernel) hown hK hP 0 rfl rfl 1 (by decide) (hts (.fieldLink RX4 17 "MilkFirst$Rule" "stack" "[J") (by decide +kernel)) (fun _ h9 => h9) rfl dX4_push_12 ?_
  refine va_alen (v := iI ((cn : Nat) : Int)) hx hb hK hP 1 1 rfl rfl (iI_N _) dX4_push_15 ?_
  refine w_icmp_ge (tgt := 39) hx hb dX4_push_16 (by decide) (by omega) (by omega) (fun c_16_2 => ?_) (fun c_16_2 => ?_)
  · have hwe : ([(h0, .inr (4, [.ref k0, .ref s0, .int (iI ((L.length : Nat) : Int))])), (s0, .inl (G.2.1 1, cn, .inr (.inl A1)))] : va_W) = [(h0, .inr (4, [.ref k0, .ref s0, .int (iI (((psh cn v L).length : Nat) : Int))])), (s0, .inl (G.2.1 1, cn, .inr (.inl A1)))] := by unfold psh; rw [if_neg (by omega)]
    have hP9 : va_P G.1 vwCl ([(h0, .inr (4, [.ref k0, .ref s0, .int (iI (((psh cn v L).length : Nat) : Int))])), (s0, .inl (G.2.1 1, cn, .inr (.inl A1)))]) s.heap := hwe ▸ hP
    have hD9 : va_D A ([(h0, .inr (4, [.ref k0, .ref s0, .int (iI (((psh cn v L).length : Nat) : Int))])), (s0, .inl (G.2.1 1, cn, .inr (.inl A1)))]) := hwe ▸ hD
    exact rtWv hx hb hr hlocks dX4_push_39 (A1) (by unfold psh; rw [if_neg (by omega)]; exact hst) hP9 hD9 hS
  · refine lv_aload_n hx hb dX4_push_19 rfl (lv_at hl 0 rfl) ?_
    refine va_get (D := G.1) (ci := 4) (v := .ref s0) (C := RX4) (T := TX4) (N := 3) hx hb hts (by decide +kernel) hown hK hP 0 rfl rfl 1 (by decide) (hts (.fieldLink RX4 17 "MilkFirst$Rule" "stack" "[J") (by decide +kernel)) (fun _ h9 => h9) rfl dX4_push_20 ?_
    refine lv_aload_n hx hb dX4_push_23 rfl (lv_at hl 0 rfl) ?_
    refine va_get (D := G.1) (ci := 4) (v := .int (iI ((L.length : Nat) : Int))) (C := RX4) (T := TX4) (N := 3) hx hb hts (by decide +kernel) hown hK hP 0 rfl rfl 2 (by decide) (hts (.fieldLink RX4 7 "MilkFirst$Rule" "standing" "I") (by decide +kernel)) (fun _ h9 => h9) rfl dX4_push_24 ?_
    refine lv_lload_n hx hb dX4_push_27 rfl (lv_at hl 1 rfl) ?_
    refine w_lastR hx hb hK hP hD hS 1 1 rfl rfl L.length rfl (by omega) (by omega) dX4_push_28 (fun H locs hP hD hS => ?_)
    have hP : va_P G.1 vwCl ([(h0, .inr (4, [.ref k0, .ref s0, .int (iI ((L.length : Nat) : Int))])), (s0, .inl (G.2.1 1, cn, .inr (.inl (vp_updL A1 L.length v))))]) H := hP
    have hD : va_D A ([(h0, .inr (4, [.ref k0, .ref s0, .int (iI ((L.length : Nat) : Int))])), (s0, .inl (G.2.1 1, cn, .inr (.inl (vp_updL A1 L.length v))))]) := hD
    refine lv_aload_n hx hb dX4_push_29 rfl (lv_at hl 0 rfl) ?_
    refine lv_dup hx hb dX4_push_30 rfl ?_
    refine va_get (D := G.1) (ci := 4) (v := .int (iI ((L.length : Nat) : Int))) (C := RX4) (T := TX4) (N := 3) hx hb hts (by decide +kernel) hown hK hP 0 rfl rfl 2 (by decide) (hts (.fieldLink RX4 7 "MilkFirst$Rule" "standing" "I") (by decide +kernel)) (fun _ h9 => h9) rfl dX4_push_31 ?_
    refine lv_iconst (v := iI 1) hx hb dX4_push_34 rfl ?_
    refine w_iadd hx hb dX4_push_35 ?_
    refine va_put (D := G.1) (ci := 4) (v := .int (iI (((L.length : Nat) : Int) + 1))) (ty := .int) (C := RX4) (T := TX4) (N := 3) hx hb hts (by decide +kernel) tyX4 tyX4_ok nmX4 hown hK hP hD hS 0 rfl rfl 2 (by decide) (hts (.fieldLink RX4 7 "MilkFirst$Rule" "standing" "I") (by decide +kernel)) (fun _ h9 => h9) rfl (by decide +kernel) rfl rfl (Nat.le_of_ble_eq_true rfl) dX4_push_36 (fun H locs hP hD hS => ?_)
    have hP : va_P G.1 vwCl ([(h0, .inr (4, [.ref k0, .ref s0, .int (iI (((L.length : Nat) : Int) + 1))])), (s0, .inl (G.2.1 1, cn, .inr (.inl (vp_updL A1 L.length v))))]) H := hP
    have hD : va_D A ([(h0, .inr (4, [.ref k0, .ref s0, .int (iI (((L.length : Nat) : Int) + 1))])), (s0, .inl (G.2.1 1, cn, .inr (.inl (vp_updL A1 L.length v))))]) := hD
    have hwe : ([(h0, .inr (4, [.ref k0, .ref s0, .int (iI (((L.length : Nat) : Int) + 1))])), (s0, .inl (G.2.1 1, cn, .inr (.inl (vp_updL A1 L.length v))))] : va_W) = [(h0, .inr (4, [.ref k0, .ref s0, .int (iI (((psh cn v L).length : Nat) : Int))])), (s0, .inl (G.2.1 1, cn, .inr (.inl (vp_updL A1 L.length v))))] := by unfold psh; rw [if_pos (by omega)]; rfl
    have hP9 : va_P G.1 vwCl ([(h0, .inr (4, [.ref k0, .ref s0, .int (iI (((psh cn v L).length : Nat) : Int))])), (s0, .inl (G.2.1 1, cn, .inr (.inl (vp_updL A1 L.length v))))]) H := hwe ▸ hP
    have hD9 : va_D A ([(h0, .inr (4, [.ref k0, .ref s0, .int (iI (((psh cn v L).length : Nat) : Int))])), (s0, .inl (G.2.1 1, cn, .inr (.inl (vp_updL A1 L.length v))))]) := hwe ▸ hD
    exact rtWv hx hb hr hlocks dX4_push_39 (vp_updL A1 L.length v) (by unfold psh; rw [if_pos (by omega)]; exact stT_psh hst) hP9 hD9 hS
abbrev rm_c_X4_pop : Room := { frames := 0, cells := 0, slots := 0, locals := 0 }
set_option maxHeartbeats 4000000 in
set_option maxRecDepth 100000 in
theorem c_X4_pop (l : Launch) (G : Gx) (h0 : Nat) (s0 : Nat) (cn : Nat) (A1 : Nat → Int64) (L : List Int64) (k0 : Nat) (sz : Nat) (hcn : cn ≤ 40) (hL : L.length ≤ cn) (hst : stT A1 L) : Met l yX4_pop wsX4_pop rm_c_X4_pop (va_Pc [.ref h0] (wr G ([(h0, .inr (4, [.ref k0, .ref s0, .int (iI ((L.length : Nat) : Int))])), (s0, .inl (G.2.1 1, cn, .inr (.inl A1)))]) sz)) (va_Ql (fun (rv : Int64) (u : Unit) => rv = (ppV L) ∧ (stT A1 (ppT L))) (Bw G.1 vwCl (fun (u : Unit) => [(h0, .inr (4, [.ref k0, .ref s0, .int (iI (((ppT L).length : Nat) : Int))])), (s0, .inl (G.2.1 1, cn, .inr (.inl A1)))]) (va_A ([(h0, .inr (4, [.ref k0, .ref s0, .int (iI ((L.length : Nat) : Int))])), (s0, .inl (G.2.1 1, cn, .inr (.inl A1)))]) sz)) (va_A ([(h0, .inr (4, [.ref k0, .ref s0, .int (iI ((L.length : Nat) : Int))])), (s0, .inl (G.2.1 1, cn, .inr (.inl A1)))]) sz)) 0 0 (va_A ([(h0, .inr (4, [.ref k0, .ref s0, .int (iI ((L.length : Nat) : Int))])), (s0, .inl (G.2.1 1, cn, .inr (.inl A1)))]) sz) := by
  refine enW (Qc := fun A => (va_Ql (fun (rv : Int64) (u : Unit) => rv = (ppV L) ∧ (stT A1 (ppT L))) (Bw G.1 vwCl (fun (u : Unit) => [(h0, .inr (4, [.ref k0, .ref s0, .int (iI (((ppT L).length : Nat) : Int))])), (s0, .inl (G.2.1 1, cn, .inr (.inl A1)))]) A) A)) (mc := 0) (ms := 0) (cc := cX4_pop) (maxL := 1) (ret := (some .long)) (C := RX4) [(0, .ref h0)] (by decide) rfl rfl (Nat.le_of_ble_eq_true rfl) rfl ?_
  intro p e s m args below meth c ls A hx hb hr hml hown hts hlocks hin hP hK hD hT hN hA hS hl
  show W p l e rm_c_X4_pop s m args below meth c s.heap [] 0 0 _ (F0 m 0 ls [])
  refine lv_aload_n hx hb dX4_pop_0 rfl (lv_at hl 0 rfl) ?_
  refine va_get (D := G.1) (ci := 4) (v := .int (iI ((L.length : Nat) : Int))) (C := RX4) (T := TX4) (N := 3) hx hb hts (by decide +kernel) hown hK hP 0 rfl rfl 2 (by decide) (hts (.fieldLink RX4 7 "MilkFirst$Rule" "standing" "I") (by decide +kernel)) (fun _ h9 => h9) rfl dX4_pop_1 ?_
  refine w_if_le (tgt := 19) hx hb dX4_pop_4 (by decide) (by omega) (fun c_4_1 => ?_) (fun c_4_1 => ?_)
  · have c9 : ((L.length : Nat) : Int) ≤ 0 := by omega
    refine lv_lconst (v := lI 0) hx hb dX4_pop_19 (by decide) ?_
    have hwe : ([(h0, .inr (4, [.ref k0, .ref s0, .int (iI ((L.length : Nat) : Int))])), (s0, .inl (G.2.1 1, cn, .inr (.inl A1)))] : va_W) = [(h0, .inr (4, [.ref k0, .ref s0, .int (iI (((ppT L).length : Nat) : Int))])), (s0, .inl (G.2.1 1, cn, .inr (.inl A1)))] := by cases L with | nil => rfl | cons a b => exact absurd c9 (by show ¬ (((b.length + 1 : Nat) : Int) ≤ 0); omega)
    have hP9 : va_P G.1 vwCl ([(h0, .inr (4, [.ref k0, .ref s0, .int (iI (((ppT L).length : Nat) : Int))])), (s0, .inl (G.2.1 1, cn, .inr (.inl A1)))]) s.heap := hwe ▸ hP
    have hD9 : va_D A ([(h0, .inr (4, [.ref k0, .ref s0, .int (iI (((ppT L).length : Nat) : Int))])), (s0, .inl (G.2.1 1, cn, .inr (.inl A1)))]) := hwe ▸ hD
    exact rtWl hx hb hr hlocks dX4_pop_20 () ⟨(by cases L with | nil => rfl | cons a b => exact absurd c9 (by show ¬ (((b.length + 1 : Nat) : Int) ≤ 0); omega)), stT_pp hst⟩ hP9 hD9 hS
  · refine lv_aload_n hx hb dX4_pop_7 rfl (lv_at hl 0 rfl) ?_
    refine va_get (D := G.1) (ci := 4) (v := .int (iI ((L.length : Nat) : Int))) (C := RX4) (T := TX4) (N := 3) hx hb hts (by decide +kernel) hown hK hP 0 rfl rfl 2 (by decide) (hts (.fieldLink RX4 7 "MilkFirst$Rule" "standing" "I") (by decide +kernel)) (fun _ h9 => h9) rfl dX4_pop_8 ?_
    refine lv_aload_n hx hb dX4_pop_11 rfl (lv_at hl 0 rfl) ?_
    refine va_get (D := G.1) (ci := 4) (v := .ref s0) (C := RX4) (T := TX4) (N := 3) hx hb hts (by decide +kernel) hown hK hP 0 rfl rfl 1 (by decide) (hts (.fieldLink RX4 17 "MilkFirst$Rule" "stack" "[J") (by decide +kernel)) (fun _ h9 => h9) rfl dX4_pop_12 ?_
    refine va_alen (v := iI ((cn : Nat) : Int)) hx hb hK hP 1 1 rfl rfl (iI_N _) dX4_pop_15 ?_
    refine w_icmp_le (tgt := 21) hx hb dX4_pop_16 (by decide) (by omega) (by omega) (fun c_16_2 => ?_) (fun c_16_2 => absurd c_16_2 (by omega))
    refine lv_aload_n hx hb dX4_pop_21 rfl (lv_at hl 0 rfl) ?_
    refine lv_dup hx hb dX4_pop_22 rfl ?_
    refine va_get (D := G.1) (ci := 4) (v := .int (iI ((L.length : Nat) : Int))) (C := RX4) (T := TX4) (N := 3) hx hb hts (by decide +kernel) hown hK hP 0 rfl rfl 2 (by decide) (hts (.fieldLink RX4 7 "MilkFirst$Rule" "standing" "I") (by decide +kernel)) (fun _ h9 => h9) rfl dX4_pop_23 ?_
    refine lv_iconst (v := iI 1) hx hb dX4_pop_26 rfl ?_
    refine w_isub hx hb dX4_pop_27 ?_
    refine va_put (D := G.1) (ci := 4) (v := .int (iI (((L.length : Nat) : Int) - 1))) (ty := .int) (C := RX4) (T := TX4) (N := 3) hx hb hts (by decide +kernel) tyX4 tyX4_ok nmX4 hown hK hP hD hS 0 rfl rfl 2 (by decide) (hts (.fieldLink RX4 7 "MilkFirst$Rule" "standing" "I") (by decide +kernel)) (fun _ h9 => h9) rfl (by decide +kernel) rfl rfl (Nat.le_of_ble_eq_true rfl) dX4_pop_28 (fun H locs hP hD hS => ?_)
    have hP : va_P G.1 vwCl ([(h0, .inr (4, [.ref k0, .ref s0, .int (iI (((L.length : Nat) : Int) - 1))])), (s0, .inl (G.2.1 1, cn, .inr (.inl A1)))]) H := hP
    have hD : va_D A ([(h0, .inr (4, [.ref k0, .ref s0, .int (iI (((L.length : Nat) : Int) - 1))])), (s0, .inl (G.2.1 1, cn, .inr (.inl A1)))]) := hD
    refine lv_aload_n hx hb dX4_pop_31 rfl (lv_at hl 0 rfl) ?_
    refine va_get (D := G.1) (ci := 4) (v := .ref s0) (C := RX4) (T := TX4) (N := 3) hx hb hts (by decide +kernel) hown hK hP 0 rfl rfl 1 (by decide) (hts (.fieldLink RX4 17 "MilkFirst$Rule" "stack" "[J") (by decide +kernel)) (fun _ h9 => h9) rfl dX4_pop_32 ?_
    refine lv_aload_n hx hb dX4_pop_35 rfl (lv_at hl 0 rfl) ?_
    refine va_get (D := G.1) (ci := 4) (v := .int (iI (((L.length : Nat) : Int) - 1))) (C := RX4) (T := TX4) (N := 3) hx hb hts (by decide +kernel) hown hK hP 0 rfl rfl 2 (by decide) (hts (.fieldLink RX4 7 "MilkFirst$Rule" "standing" "I") (by decide +kernel)) (fun _ h9 => h9) rfl dX4_pop_36 ?_
    refine w_laldR hx hb hK hP 1 1 rfl rfl (L.length - 1) (by omega) (by omega) (by omega) dX4_pop_39 ?_
    have hwe : ([(h0, .inr (4, [.ref k0, .ref s0, .int (iI (((L.length : Nat) : Int) - 1))])), (s0, .inl (G.2.1 1, cn, .inr (.inl A1)))] : va_W) = [(h0, .inr (4, [.ref k0, .ref s0, .int (iI (((ppT L).length : Nat) : Int))])), (s0, .inl (G.2.1 1, cn, .inr (.inl A1)))] := by rw [ppT_len, show ((L.length - 1 : Nat) : Int) = (L.length : Int) - 1 from by omega]
    have hP9 : va_P G.1 vwCl ([(h0, .inr (4, [.ref k0, .ref s0, .int (iI (((ppT L).length : Nat) : Int))])), (s0, .inl (G.2.1 1, cn, .inr (.inl A1)))]) H := hwe ▸ hP
    have hD9 : va_D A ([(h0, .inr (4, [.ref k0, .ref s0, .int (iI (((ppT L).length : Nat) : Int))])), (s0, .inl (G.2.1 1, cn, .inr (.inl A1)))]) := hwe ▸ hD
    exact rtWl hx hb hr hlocks dX4_pop_40 () ⟨stT_top hst (by omega), stT_pp hst⟩ hP9 hD9 hS
abbrev rm_c_X4_valueOf : Room := { frames := 2, cells := 0, slots := 0, locals := 41 }
set_option maxHeartbeats 4000000 in
set_option maxRecDepth 100000 in
theorem c_X4_valueOf (l : Launch) (G : Gx) (p0 : Nat) (e0 : Nat) (kd : Int) (n : Int) (k : Int) (ch : Int) (r : Int) (hv : okP kd n k) (hch : rI ch) (hrr : 0 ≤ r ∧ r ≤ moZ kd n) (hrk : rI k) : Met l yX4_valueOf wsX4_valueOf rm_c_X4_valueOf (va_Pc [.int (iI ch), .ref p0, .int (iI r)] (rd G ([(p0, .inr (3, [.int (iI kd), .int (iI n), .int (iI k), .ref e0]))]))) (vp_Sl (fun rv => rv = (lI (voZ ch kd n k r)))) 0 0 (fun _ => False) := by
  refine enR (cc := cX4_valueOf) (maxL := 3) (ret := (some .long)) (C := RX4) [(0, .int (iI ch)), (1, .ref p0), (2, .int (iI r))] (by decide) rfl rfl (Nat.le_of_ble_eq_true rfl) rfl ?_
  intro p e s m args below meth c ls hx hb hr hml hown hts hlocks hP hK hT hN hl
  have hS : va_S (fun _ => False) s.heap s.heap [] := va_S.rf
  show W p l e rm_c_X4_valueOf s m args below meth c s.heap [] 0 0 _ (F0 m 0 ls [])
  have hmo := moZ_b hv
  have hv2 := hv
  unfold okP at hv2
  refine lv_iload_n hx hb dX4_valueOf_0 rfl (lv_at hl 0 rfl) ?_
  by_cases sw_1_107 : ch = 107
  · refine lv_tableIn (off := 90) (tgt := 91) hx hb dX4_valueOf_1 (by rw [sw_1_107]; decide) (by rw [sw_1_107]; decide) (by rw [sw_1_107]; decide) (by decide) ?_
    refine lv_aload_n hx hb dX4_valueOf_91 rfl (lv_at hl 1 rfl) ?_
    refine va_get (D := G.1) (ci := 3) (v := .int (iI k)) (C := RX3) (T := TX3) (N := 4) hx hb hts (by decide +kernel) hown hK hP 0 rfl rfl 2 (by decide) (hts (.fieldLink RX4 52 "MilkFirst$Plan" "k" "I") (by decide +kernel)) (fun _ h9 => h9) rfl dX4_valueOf_92 ?_
    refine w_i2l hx hb dX4_valueOf_95 (by omega) ?_
    exact rtRl hx hb hr hlocks dX4_valueOf_96 (congrArg lI (by unfold voZ; rw [if_pos sw_1_107]))
  · skip
    by_cases sw_1_110 : ch = 110
    · refine lv_tableIn (off := 84) (tgt := 85) hx hb dX4_valueOf_1 (by rw [sw_1_110]; decide) (by rw [sw_1_110]; decide) (by rw [sw_1_110]; decide) (by decide) ?_
      refine lv_aload_n hx hb dX4_valueOf_85 rfl (lv_at hl 1 rfl) ?_
      refine va_get (D := G.1) (ci := 3) (v := .int (iI n)) (C := RX3) (T := TX3) (N := 4) hx hb hts (by decide +kernel) hown hK hP 0 rfl rfl 1 (by decide) (hts (.fieldLink RX4 49 "MilkFirst$Plan" "n" "I") (by decide +kernel)) (fun _ h9 => h9) rfl dX4_valueOf_86 ?_
      refine w_i2l hx hb dX4_valueOf_89 (by omega) ?_
      exact rtRl hx hb hr hlocks dX4_valueOf_90 (congrArg lI (by unfold voZ; rw [if_neg (by omega), if_pos sw_1_110]))
    · skip
      by_cases sw_1_114 : ch = 114
      · refine lv_tableIn (off := 67) (tgt := 68) hx hb dX4_valueOf_1 (by rw [sw_1_114]; decide) (by rw [sw_1_114]; decide) (by rw [sw_1_114]; decide) (by decide) ?_
        refine lv_iload_n hx hb dX4_valueOf_68 rfl (lv_at hl 2 rfl) ?_
        refine w_i2l hx hb dX4_valueOf_69 (by omega) ?_
        exact rtRl hx hb hr hlocks dX4_valueOf_70 (congrArg lI (by unfold voZ; rw [if_neg (by omega), if_neg (by omega), if_pos sw_1_114]))
      · skip
        by_cases sw_1_115 : ch = 115
        · refine lv_tableIn (off := 78) (tgt := 79) hx hb dX4_valueOf_1 (by rw [sw_1_115]; decide) (by rw [sw_1_115]; decide) (by rw [sw_1_115]; decide) (by decide) ?_
          refine lv_aload_n hx hb dX4_valueOf_79 rfl (lv_at hl 1 rfl) ?_
          refine cRVi (As := []) (rest := []) ⟨hx, hb, hml, hown, hts⟩ (c_X3_most l G p0 e0 kd n k (by exact hv)) (cwV 0 hts gX4_valueOf_X3_most rfl rfl rfl (by decide +kernel) ⟨Nat.le_of_ble_eq_true rfl, Nat.le_of_ble_eq_true rfl⟩) rfl hl.1 rfl (Nat.le_of_ble_eq_true rfl) dX4_valueOf_80 ⟨Nat.le_of_ble_eq_true rfl, Nat.le_of_ble_eq_true rfl⟩ (hP.sub [0] rfl) hK hT hN hS (ci := 3) rfl rfl ?_
          refine w_i2l hx hb dX4_valueOf_83 (by omega) ?_
          exact rtRl hx hb hr hlocks dX4_valueOf_84 (congrArg lI (by unfold voZ; rw [if_neg (by omega), if_neg (by omega), if_neg (by omega), if_pos sw_1_115]))
        · skip
          by_cases sw_1_119 : ch = 119
          · refine lv_tableIn (off := 70) (tgt := 71) hx hb dX4_valueOf_1 (by rw [sw_1_119]; decide) (by rw [sw_1_119]; decide) (by rw [sw_1_119]; decide) (by decide) ?_
            refine lv_aload_n hx hb dX4_valueOf_71 rfl (lv_at hl 1 rfl) ?_
            refine cRVi (As := []) (rest := []) ⟨hx, hb, hml, hown, hts⟩ (c_X3_most l G p0 e0 kd n k (by exact hv)) (cwV 0 hts gX4_valueOf_X3_most rfl rfl rfl (by decide +kernel) ⟨Nat.le_of_ble_eq_true rfl, Nat.le_of_ble_eq_true rfl⟩) rfl hl.1 rfl (Nat.le_of_ble_eq_true rfl) dX4_valueOf_72 ⟨Nat.le_of_ble_eq_true rfl, Nat.le_of_ble_eq_true rfl⟩ (hP.sub [0] rfl) hK hT hN hS (ci := 3) rfl rfl ?_
            refine lv_iload_n hx hb dX4_valueOf_75 rfl (lv_at hl 2 rfl) ?_
            refine w_isub hx hb dX4_valueOf_76 ?_
            refine w_i2l hx hb dX4_valueOf_77 (by omega) ?_
            exact rtRl hx hb hr hlocks dX4_valueOf_78 (congrArg lI (by unfold voZ; rw [if_neg (by omega), if_neg (by omega), if_neg (by omega), if_neg (by omega), if_pos sw_1_119]))
          · skip
            refine w_tdef (tgt := 97) hx hb dX4_valueOf_1 (by decide) (by omega) (fun h1 h2 => by (have h3 : ch = 108 ∨ ch = 109 ∨ ch = 111 ∨ ch = 112 ∨ ch = 113 ∨ ch = 116 ∨ ch = 117 ∨ ch = 118 := by omega); rcases h3 with h3 | h3 | h3 | h3 | h3 | h3 | h3 | h3 <;> (rw [h3]; decide)) ?_
            refine lv_aload_n hx hb dX4_valueOf_97 rfl (lv_at hl 1 rfl) ?_
            refine va_get (D := G.1) (ci := 3) (v := .int (iI kd)) (C := RX3) (T := TX3) (N := 4) hx hb hts (by decide +kernel) hown hK hP 0 rfl rfl 0 (by decide) (hts (.fieldLink RX4 55 "MilkFirst$Plan" "kind" "I") (by decide +kernel)) (fun _ h9 => h9) rfl dX4_valueOf_98 ?_
            refine w_i2l hx hb dX4_valueOf_101 (by omega) ?_
            exact rtRl hx hb hr hlocks dX4_valueOf_102 (congrArg lI (by unfold voZ; rw [if_neg (by omega), if_neg (by omega), if_neg (by omega), if_neg (by omega), if_neg (by omega)]))
abbrev rm_c_X4_joined : Room := { frames := 0, cells := 0, slots := 0, locals := 0 }
set_option maxHeartbeats 4000000 in
set_option maxRecDepth 100000 in
theorem c_X4_joined (l : Launch) (G : Gx) (ch : Int) (f : Int64) (g : Int64) (hch : rI ch) : Met l yX4_joined wsX4_joined rm_c_X4_joined (va_Pc [.int (iI ch), .long f, .long g] (rd G ([]))) (vp_Sl (fun rv => rv = (joZ ch f g))) 0 0 (fun _ => False) := by
  refine enR (cc := cX4_joined) (maxL := 5) (ret := (some .long)) (C := RX4) [(0, .int (iI ch)), (1, .long f), (3, .long g)] (by decide) rfl rfl (Nat.le_of_ble_eq_true rfl) rfl ?_
  intro p e s m args below meth c ls hx hb hr hml hown hts hlocks hP hK hT hN hl
  have hS : va_S (fun _ => False) s.heap s.heap [] := va_S.rf
  show W p l e rm_c_X4_joined s m args below meth c s.heap [] 0 0 _ (F0 m 0 ls [])
  refine lv_iload_n hx hb dX4_joined_0 rfl (lv_at hl 0 rfl) ?_
  by_cases sw_1_38 : ch = 38
  · refine lv_tableIn (off := 163) (tgt := 164) hx hb dX4_joined_1 (by rw [sw_1_38]; decide) (by rw [sw_1_38]; decide) (by rw [sw_1_38]; decide) (by decide) ?_
    refine lv_lload_n hx hb dX4_joined_164 rfl (lv_at hl 1 rfl) ?_
    refine lv_lload_n hx hb dX4_joined_165 rfl (lv_at hl 2 rfl) ?_
    refine lv_land hx hb dX4_joined_166 ?_
    exact rtRl hx hb hr hlocks dX4_joined_167 (by unfold joZ; rw [if_pos sw_1_38])
  · skip
    by_cases sw_1_42 : ch = 42
    · refine lv_tableIn (off := 123) (tgt := 124) hx hb dX4_joined_1 (by rw [sw_1_42]; decide) (by rw [sw_1_42]; decide) (by rw [sw_1_42]; decide) (by decide) ?_
      refine lv_lload_n hx hb dX4_joined_124 rfl (lv_at hl 1 rfl) ?_
      refine lv_lload_n hx hb dX4_joined_125 rfl (lv_at hl 2 rfl) ?_
      refine lv_lmul hx hb dX4_joined_126 ?_
      exact rtRl hx hb hr hlocks dX4_joined_127 (by unfold joZ; rw [if_neg (by omega), if_pos sw_1_42])
    · skip
      by_cases sw_1_43 : ch = 43
      · refine lv_tableIn (off := 115) (tgt := 116) hx hb dX4_joined_1 (by rw [sw_1_43]; decide) (by rw [sw_1_43]; decide) (by rw [sw_1_43]; decide) (by decide) ?_
        refine lv_lload_n hx hb dX4_joined_116 rfl (lv_at hl 1 rfl) ?_
        refine lv_lload_n hx hb dX4_joined_117 rfl (lv_at hl 2 rfl) ?_
        refine lv_ladd hx hb dX4_joined_118 ?_
        exact rtRl hx hb hr hlocks dX4_joined_119 (by unfold joZ; rw [if_neg (by omega), if_neg (by omega), if_pos sw_1_43])
      · skip
        by_cases sw_1_45 : ch = 45
        · refine lv_tableIn (off := 119) (tgt := 120) hx hb dX4_joined_1 (by rw [sw_1_45]; decide) (by rw [sw_1_45]; decide) (by rw [sw_1_45]; decide) (by decide) ?_
          refine lv_lload_n hx hb dX4_joined_120 rfl (lv_at hl 1 rfl) ?_
          refine lv_lload_n hx hb dX4_joined_121 rfl (lv_at hl 2 rfl) ?_
          refine lv_lsub hx hb dX4_joined_122 ?_
          exact rtRl hx hb hr hlocks dX4_joined_123 (by unfold joZ; rw [if_neg (by omega), if_neg (by omega), if_neg (by omega), if_pos sw_1_45])
        · skip
          by_cases sw_1_60 : ch = 60
          · refine lv_tableIn (off := 127) (tgt := 128) hx hb dX4_joined_1 (by rw [sw_1_60]; decide) (by rw [sw_1_60]; decide) (by rw [sw_1_60]; decide) (by decide) ?_
            refine lv_lload_n hx hb dX4_joined_128 rfl (lv_at hl 1 rfl) ?_
            refine lv_lload_n hx hb dX4_joined_129 rfl (lv_at hl 2 rfl) ?_
            refine w_lcr_ge (tgt := 138) hx hb dX4_joined_130 dX4_joined_131 (by decide) (fun c_130_2 => ?_) (fun c_130_2 => ?_)
            · refine lv_lconst (v := lI 0) hx hb dX4_joined_138 (by decide) ?_
              exact rtRl hx hb hr hlocks dX4_joined_139 (by unfold joZ; rw [if_neg (by omega), if_neg (by omega), if_neg (by omega), if_neg (by omega), if_pos sw_1_60]; first | rfl | (rw [if_pos (by assumption)]) | (rw [if_neg (by assumption)]))
            · refine lv_lconst (v := lI 1) hx hb dX4_joined_134 (by decide) ?_
              refine lv_goto (tgt := 139) hx hb dX4_joined_135 (by decide) ?_
              exact rtRl hx hb hr hlocks dX4_joined_139 (by unfold joZ; rw [if_neg (by omega), if_neg (by omega), if_neg (by omega), if_neg (by omega), if_pos sw_1_60]; first | rfl | (rw [if_pos (by assumption)]) | (rw [if_neg (by assumption)]))
          · skip
            by_cases sw_1_61 : ch = 61
            · refine lv_tableIn (off := 139) (tgt := 140) hx hb dX4_joined_1 (by rw [sw_1_61]; decide) (by rw [sw_1_61]; decide) (by rw [sw_1_61]; decide) (by decide) ?_
              refine lv_lload_n hx hb dX4_joined_140 rfl (lv_at hl 1 rfl) ?_
              refine lv_lload_n hx hb dX4_joined_141 rfl (lv_at hl 2 rfl) ?_
              refine w_lcr_ne (tgt := 150) hx hb dX4_joined_142 dX4_joined_143 (by decide) (fun c_142_3 => ?_) (fun c_142_3 => ?_)
              · refine lv_lconst (v := lI 0) hx hb dX4_joined_150 (by decide) ?_
                exact rtRl hx hb hr hlocks dX4_joined_151 (by unfold joZ; rw [if_neg (by omega), if_neg (by omega), if_neg (by omega), if_neg (by omega), if_neg (by omega), if_pos sw_1_61]; first | rfl | (rw [if_pos (by assumption)]) | (rw [if_neg (by assumption)]))
              · refine lv_lconst (v := lI 1) hx hb dX4_joined_146 (by decide) ?_
                refine lv_goto (tgt := 151) hx hb dX4_joined_147 (by decide) ?_
                exact rtRl hx hb hr hlocks dX4_joined_151 (by unfold joZ; rw [if_neg (by omega), if_neg (by omega), if_neg (by omega), if_neg (by omega), if_neg (by omega), if_pos sw_1_61]; first | rfl | (rw [if_pos (by assumption)]) | (rw [if_neg (by assumption)]))
            · skip
              by_cases sw_1_62 : ch = 62
              · refine lv_tableIn (off := 151) (tgt := 152) hx hb dX4_joined_1 (by rw [sw_1_62]; decide) (by rw [sw_1_62]; decide) (by rw [sw_1_62]; decide) (by decide) ?_
                refine lv_lload_n hx hb dX4_joined_152 rfl (lv_at hl 1 rfl) ?_
                refine lv_lload_n hx hb dX4_joined_153 rfl (lv_at hl 2 rfl) ?_
                refine w_lcr_le (tgt := 162) hx hb dX4_joined_154 dX4_joined_155 (by decide) (fun c_154_4 => ?_) (fun c_154_4 => ?_)
                · refine lv_lconst (v := lI 0) hx hb dX4_joined_162 (by decide) ?_
                  exact rtRl hx hb hr hlocks dX4_joined_163 (by unfold joZ; rw [if_neg (by omega), if_neg (by omega), if_neg (by omega), if_neg (by omega), if_neg (by omega), if_neg (by omega), if_pos sw_1_62]; first | rfl | (rw [if_pos (by assumption)]) | (rw [if_neg (by assumption)]))
                · refine lv_lconst (v := lI 1) hx hb dX4_joined_158 (by decide) ?_
                  refine lv_goto (tgt := 163) hx hb dX4_joined_159 (by decide) ?_
                  exact rtRl hx hb hr hlocks dX4_joined_163 (by unfold joZ; rw [if_neg (by omega), if_neg (by omega), if_neg (by omega), if_neg (by omega), if_neg (by omega), if_neg (by omega), if_pos sw_1_62]; first | rfl | (rw [if_pos (by assumption)]) | (rw [if_neg (by assumption)]))
              · skip
                refine w_tdef (tgt := 168) hx hb dX4_joined_1 (by decide) (by omega) (fun h1 h2 => by (have h3 : ch = 39 ∨ ch = 40 ∨ ch = 41 ∨ ch = 44 ∨ ch = 46 ∨ ch = 47 ∨ ch = 48 ∨ ch = 49 ∨ ch = 50 ∨ ch = 51 ∨ ch = 52 ∨ ch = 53 ∨ ch = 54 ∨ ch = 55 ∨ ch = 56 ∨ ch = 57 ∨ ch = 58 ∨ ch = 59 := by omega); rcases h3 with h3 | h3 | h3 | h3 | h3 | h3 | h3 | h3 | h3 | h3 | h3 | h3 | h3 | h3 | h3 | h3 | h3 | h3 <;> (rw [h3]; decide)) ?_
                refine lv_lload_n hx hb dX4_joined_168 rfl (lv_at hl 1 rfl) ?_
                refine lv_lload_n hx hb dX4_joined_169 rfl (lv_at hl 2 rfl) ?_
                refine lv_lor hx hb dX4_joined_170 ?_
                exact rtRl hx hb hr hlocks dX4_joined_171 (by unfold joZ; rw [if_neg (by omega), if_neg (by omega), if_neg (by omega), if_neg (by omega), if_neg (by omega), if_neg (by omega), if_neg (by omega)])
abbrev rm_c_X4_holds : Room := { frames := 3, cells := 0, slots := 0, locals := 63 }
set_option maxHeartbeats 4000000 in
set_option maxRecDepth 100000 in
theorem c_X4_holds (l : Launch) (G : Gx) (h0 : Nat) (k0 : Nat) (s0 : Nat) (cn : Nat) (C : Nat → Int) (A1 : Nat → Int64) (L : List Int64) (p0 : Nat) (e0 : Nat) (kd : Int) (n : Int) (k : Int) (r : Int) (sz : Nat) (hcn : cn ≤ 40) (hL : L.length ≤ cn) (hst : stT A1 L) (hv : okP kd n k) (hC : ∀ j : Nat, j < cn → -200 ≤ C j ∧ C j ≤ 99) (hrr : 0 ≤ r ∧ r ≤ moZ kd n) (hrk : rI k) : Met l yX4_holds wsX4_holds rm_c_X4_holds (va_Pc [.ref h0, .ref p0, .int (iI r)] (wr G ([(h0, .inr (4, [.ref k0, .ref s0, .int (iI ((L.length : Nat) : Int))])), (k0, .inl (G.2.1 0, cn, .inl (aI C))), (s0, .inl (G.2.1 1, cn, .inr (.inl A1))), (p0, .inr (3, [.int (iI kd), .int (iI n), .int (iI k), .ref e0]))]) sz)) (va_Qi (fun (rv : Int32) (u : (List Int64) × (Nat → Int64)) => rv = (iI (bz (ppV (evL C cn (fun z => voZ z kd n k r) cn) = lI 1))) ∧ (u.1.length ≤ cn ∧ stT u.2 u.1)) (Bw G.1 vwCl (fun (u : (List Int64) × (Nat → Int64)) => [(h0, .inr (4, [.ref k0, .ref s0, .int (iI ((u.1.length : Nat) : Int))])), (k0, .inl (G.2.1 0, cn, .inl (aI C))), (s0, .inl (G.2.1 1, cn, .inr (.inl u.2))), (p0, .inr (3, [.int (iI kd), .int (iI n), .int (iI k), .ref e0]))]) (va_A ([(h0, .inr (4, [.ref k0, .ref s0, .int (iI ((L.length : Nat) : Int))])), (k0, .inl (G.2.1 0, cn, .inl (aI C))), (s0, .inl (G.2.1 1, cn, .inr (.inl A1))), (p0, .inr (3, [.int (iI kd), .int (iI n), .int (iI k), .ref e0]))]) sz)) (va_A ([(h0, .inr (4, [.ref k0, .ref s0, .int (iI ((L.length : Nat) : Int))])), (k0, .inl (G.2.1 0, cn, .inl (aI C))), (s0, .inl (G.2.1 1, cn, .inr (.inl A1))), (p0, .inr (3, [.int (iI kd), .int (iI n), .int (iI k), .ref e0]))]) sz)) 0 0 (va_A ([(h0, .inr (4, [.ref k0, .ref s0, .int (iI ((L.length : Nat) : Int))])), (k0, .inl (G.2.1 0, cn, .inl (aI C))), (s0, .inl (G.2.1 1, cn, .inr (.inl A1))), (p0, .inr (3, [.int (iI kd), .int (iI n), .int (iI k), .ref e0]))]) sz) := by
  refine enW (Qc := fun A => (va_Qi (fun (rv : Int32) (u : (List Int64) × (Nat → Int64)) => rv = (iI (bz (ppV (evL C cn (fun z => voZ z kd n k r) cn) = lI 1))) ∧ (u.1.length ≤ cn ∧ stT u.2 u.1)) (Bw G.1 vwCl (fun (u : (List Int64) × (Nat → Int64)) => [(h0, .inr (4, [.ref k0, .ref s0, .int (iI ((u.1.length : Nat) : Int))])), (k0, .inl (G.2.1 0, cn, .inl (aI C))), (s0, .inl (G.2.1 1, cn, .inr (.inl u.2))), (p0, .inr (3, [.int (iI kd), .int (iI n), .int (iI k), .ref e0]))]) A) A)) (mc := 0) (ms := 0) (cc := cX4_holds) (maxL := 7) (ret := (some .boolean)) (C := RX4) [(0, .ref h0), (1, .ref p0), (2, .int (iI r))] (by decide) rfl rfl (Nat.le_of_ble_eq_true rfl) rfl ?_
  intro p e s m args below meth c ls A hx hb hr hml hown hts hlocks hin hP hK hD hT hN hA hS hl
  show W p l e rm_c_X4_holds s m args below meth c s.heap [] 0 0 _ (F0 m 0 ls [])
  refine lv_aload_n hx hb dX4_holds_0 rfl (lv_at hl 0 rfl) ?_
  refine lv_iconst (v := iI 0) hx hb dX4_holds_1 rfl ?_
  refine va_put (D := G.1) (ci := 4) (v := .int (iI 0)) (ty := .int) (C := RX4) (T := TX4) (N := 3) hx hb hts (by decide +kernel) tyX4 tyX4_ok nmX4 hown hK hP hD hS 0 rfl rfl 2 (by decide) (hts (.fieldLink RX4 7 "MilkFirst$Rule" "standing" "I") (by decide +kernel)) (fun _ h9 => h9) rfl (by decide +kernel) rfl rfl (Nat.le_of_ble_eq_true rfl) dX4_holds_2 (fun H locs hP hD hS => ?_)
  have hP : va_P G.1 vwCl ([(h0, .inr (4, [.ref k0, .ref s0, .int (iI 0)])), (k0, .inl (G.2.1 0, cn, .inl (aI C))), (s0, .inl (G.2.1 1, cn, .inr (.inl A1))), (p0, .inr (3, [.int (iI kd), .int (iI n), .int (iI k), .ref e0]))]) H := hP
  have hD : va_D A ([(h0, .inr (4, [.ref k0, .ref s0, .int (iI 0)])), (k0, .inl (G.2.1 0, cn, .inl (aI C))), (s0, .inl (G.2.1 1, cn, .inr (.inl A1))), (p0, .inr (3, [.int (iI kd), .int (iI n), .int (iI k), .ref e0]))]) := hD
  refine lv_iconst (v := iI 0) hx hb dX4_holds_5 rfl ?_
  refine lv_istore_n (lv' := [(3, .int (iI 0)), (0, .ref h0), (1, .ref p0), (2, .int (iI r))]) hx hb dX4_holds_6 rfl hl (by decide) rfl (fun ls hl => ?_)
  have lp_7 : ∀ (μ7 : Nat) (i : Int) (M : List Int64) (A2 : Nat → Int64) (hi : 0 ≤ i ∧ i ≤ cn) (hM : M = evL C cn (fun z => voZ z kd n k r) i.toNat) (hA2 : stT A2 M) (hμ7 : ((cn : Int) - i).toNat < μ7) (H : Heap) (locs : List Loc) (ls : Array Slot) (hP : va_P G.1 vwCl ([(h0, .inr (4, [.ref k0, .ref s0, .int (iI ((M.length : Nat) : Int))])), (k0, .inl (G.2.1 0, cn, .inl (aI C))), (s0, .inl (G.2.1 1, cn, .inr (.inl A2))), (p0, .inr (3, [.int (iI kd), .int (iI n), .int (iI k), .ref e0]))]) H) (hD : va_D A ([(h0, .inr (4, [.ref k0, .ref s0, .int (iI ((M.length : Nat) : Int))])), (k0, .inl (G.2.1 0, cn, .inl (aI C))), (s0, .inl (G.2.1 1, cn, .inr (.inl A2))), (p0, .inr (3, [.int (iI kd), .int (iI n), .int (iI k), .ref e0]))])) (hS : va_S A s.heap H locs) (hl : lv_has ls 7 [(3, .int (iI i)), (0, .ref h0), (1, .ref p0), (2, .int (iI r))]), W p l e rm_c_X4_holds s m args below meth c H locs 0 0 (MQ below (va_Qi (fun (rv : Int32) (u : (List Int64) × (Nat → Int64)) => rv = (iI (bz (ppV (evL C cn (fun z => voZ z kd n k r) cn) = lI 1))) ∧ (u.1.length ≤ cn ∧ stT u.2 u.1)) (Bw G.1 vwCl (fun (u : (List Int64) × (Nat → Int64)) => [(h0, .inr (4, [.ref k0, .ref s0, .int (iI ((u.1.length : Nat) : Int))])), (k0, .inl (G.2.1 0, cn, .inl (aI C))), (s0, .inl (G.2.1 1, cn, .inr (.inl u.2))), (p0, .inr (3, [.int (iI kd), .int (iI n), .int (iI k), .ref e0]))]) A) A) args s 0 0 A) (F0 m 7 ls []) := by
    intro μ7
    induction μ7 with
    | zero => intro i M A2 hi hM hA2 hμ7; exact absurd hμ7 (Nat.not_lt_zero _)
    | succ μ7 ih7 =>
      intro i M A2 hi hM hA2 hμ7 H locs ls hP hD hS hl
      have hML : M.length ≤ cn := by rw [hM]; exact evL_len C cn _ _
      refine lv_iload_n hx hb dX4_holds_7 rfl (lv_at hl 0 rfl) ?_
      refine lv_aload_n hx hb dX4_holds_8 rfl (lv_at hl 1 rfl) ?_
      refine va_get (D := G.1) (ci := 4) (v := .ref k0) (C := RX4) (T := TX4) (N := 3) hx hb hts (by decide +kernel) hown hK hP 0 rfl rfl 0 (by decide) (hts (.fieldLink RX4 13 "MilkFirst$Rule" "code" "[I") (by decide +kernel)) (fun _ h9 => h9) rfl dX4_holds_9 ?_
      refine va_alen (v := iI ((cn : Nat) : Int)) hx hb hK hP 1 0 rfl rfl (iI_N _) dX4_holds_12 ?_
      refine w_icmp_ge (tgt := 111) hx hb dX4_holds_13 (by decide) (by omega) (by omega) (fun c_13_1 => ?_) (fun c_13_1 => ?_)
      · refine lv_aload_n hx hb dX4_holds_111 rfl (lv_at hl 1 rfl) ?_
        refine cWVl0 (As := []) (rest := []) (wr0 := [(k0, .inl (G.2.1 0, cn, .inl (aI C))), (p0, .inr (3, [.int (iI kd), .int (iI n), .int (iI k), .ref e0]))]) ⟨hx, hb, hml, hown, hts⟩ (c_X4_pop l G h0 s0 cn A2 M k0 H.size (by exact hcn) (by exact hML) (by exact hA2)) (cwV 0 hts gX4_holds_X4_pop rfl rfl rfl (by decide +kernel) ⟨Nat.le_of_ble_eq_true rfl, Nat.le_of_ble_eq_true rfl⟩) rfl hl.1 rfl (Nat.le_of_ble_eq_true rfl) dX4_holds_112 ⟨Nat.le_of_ble_eq_true rfl, Nat.le_of_ble_eq_true rfl⟩ hP hD hK hT hN hS hA [0, 2] [1, 3] rfl rfl (by decide) (by decide) (by decide) (ci := 4) rfl rfl (fun r_ u_2 hu_2 H locs hz_2 hP hD hS => ?_)
        obtain ⟨rfl, hu_2⟩ := hu_2
        have hP : va_P G.1 vwCl ([(k0, .inl (G.2.1 0, cn, .inl (aI C))), (p0, .inr (3, [.int (iI kd), .int (iI n), .int (iI k), .ref e0])), (h0, .inr (4, [.ref k0, .ref s0, .int (iI (((ppT M).length : Nat) : Int))])), (s0, .inl (G.2.1 1, cn, .inr (.inl A2)))]) H := hP
        have hD : va_D A ([(k0, .inl (G.2.1 0, cn, .inl (aI C))), (p0, .inr (3, [.int (iI kd), .int (iI n), .int (iI k), .ref e0])), (h0, .inr (4, [.ref k0, .ref s0, .int (iI (((ppT M).length : Nat) : Int))])), (s0, .inl (G.2.1 1, cn, .inr (.inl A2)))]) := hD
        refine lv_lconst (v := lI 1) hx hb dX4_holds_115 (by decide) ?_
        refine w_lcr_ne (tgt := 124) hx hb dX4_holds_116 dX4_holds_117 (by decide) (fun c_116_3 => ?_) (fun c_116_3 => ?_)
        · have hq9 : ¬ ppV (evL C cn (fun z => voZ z kd n k r) cn) = lI 1 := by rw [hM, show i.toNat = cn from by omega] at *; assumption
          refine lv_iconst (v := iI 0) hx hb dX4_holds_124 rfl ?_
          exact rtWz hx hb hr hlocks (by decide) dX4_holds_125 (ppT M, A2) (show (iI 0) = (iI (bz (ppV (evL C cn (fun z => voZ z kd n k r) cn) = lI 1))) ∧ ((ppT M).length ≤ cn ∧ stT A2 (ppT M)) from ⟨(bz_neg hq9), (pp_len hML), hu_2⟩) (hP.sub [2, 0, 3, 1] rfl) (hD.sub [2, 0, 3, 1] (by decide) rfl) hS
        · have hq9 : ppV (evL C cn (fun z => voZ z kd n k r) cn) = lI 1 := by rw [hM, show i.toNat = cn from by omega] at *; assumption
          refine lv_iconst (v := iI 1) hx hb dX4_holds_120 rfl ?_
          refine lv_goto (tgt := 125) hx hb dX4_holds_121 (by decide) ?_
          exact rtWz hx hb hr hlocks (by decide) dX4_holds_125 (ppT M, A2) (show (iI 1) = (iI (bz (ppV (evL C cn (fun z => voZ z kd n k r) cn) = lI 1))) ∧ ((ppT M).length ≤ cn ∧ stT A2 (ppT M)) from ⟨(bz_pos hq9), (pp_len hML), hu_2⟩) (hP.sub [2, 0, 3, 1] rfl) (hD.sub [2, 0, 3, 1] (by decide) rfl) hS
      · refine lv_aload_n hx hb dX4_holds_16 rfl (lv_at hl 1 rfl) ?_
        refine va_get (D := G.1) (ci := 4) (v := .ref k0) (C := RX4) (T := TX4) (N := 3) hx hb hts (by decide +kernel) hown hK hP 0 rfl rfl 0 (by decide) (hts (.fieldLink RX4 13 "MilkFirst$Rule" "code" "[I") (by decide +kernel)) (fun _ h9 => h9) rfl dX4_holds_17 ?_
        refine lv_iload_n hx hb dX4_holds_20 rfl (lv_at hl 0 rfl) ?_
        refine w_iald hx hb hK hP 1 0 rfl rfl ((i).toNat) (by omega) (by omega) (by omega) dX4_holds_21 ?_
        refine lv_istore (lv' := [(4, .int (iI (C ((i).toNat)))), (3, .int (iI i)), (0, .ref h0), (1, .ref p0), (2, .int (iI r))]) hx hb dX4_holds_22 hl (by decide) rfl (fun ls hl => ?_)
        have hCi := hC i.toNat (by omega)
        refine lv_iload hx hb dX4_holds_24 (lv_at hl 0 rfl) ?_
        refine w_if_lt (tgt := 39) hx hb dX4_holds_26 (by decide) (by omega) (fun c_26_4 => ?_) (fun c_26_4 => ?_)
        · refine lv_iload hx hb dX4_holds_39 (lv_at hl 0 rfl) ?_
          refine lv_bipush (v := iI (-33)) hx hb dX4_holds_41 (by decide) ?_
          refine w_icmp_ne (tgt := 59) hx hb dX4_holds_43 (by decide) (by omega) (by decide) (fun c_43_5 => ?_) (fun c_43_5 => ?_)
          · refine lv_iload hx hb dX4_holds_59 (lv_at hl 0 rfl) ?_
            refine w_ineg hx hb dX4_holds_61 ?_
            refine cRSi (As := [.int (iI (-(C ((i).toNat))))]) (rest := []) ⟨hx, hb, hml, hown, hts⟩ (c_X7_isLetter l G (-(C ((i).toNat))) (by omega)) (va_cwS 1 hts gX4_holds_X7_isLetter rfl rfl rfl (by decide +kernel) ⟨Nat.le_of_ble_eq_true rfl, Nat.le_of_ble_eq_true rfl⟩) rfl hl.1 rfl (Nat.le_of_ble_eq_true rfl) dX4_holds_62 ⟨Nat.le_of_ble_eq_true rfl, Nat.le_of_ble_eq_true rfl⟩ va_P_nil hK hT hN hS ?_
            refine w_bz_eq (tgt := 83) hx hb dX4_holds_65 (by decide) (fun c_65_6 => ?_) (fun c_65_6 => ?_)
            · refine lv_aload_n hx hb dX4_holds_83 rfl (lv_at hl 2 rfl) ?_
              refine cWVl0 (As := []) (rest := []) (wr0 := [(k0, .inl (G.2.1 0, cn, .inl (aI C))), (p0, .inr (3, [.int (iI kd), .int (iI n), .int (iI k), .ref e0]))]) ⟨hx, hb, hml, hown, hts⟩ (c_X4_pop l G h0 s0 cn A2 M k0 H.size (by exact hcn) (by exact hML) (by exact hA2)) (cwV 0 hts gX4_holds_X4_pop rfl rfl rfl (by decide +kernel) ⟨Nat.le_of_ble_eq_true rfl, Nat.le_of_ble_eq_true rfl⟩) rfl hl.1 rfl (Nat.le_of_ble_eq_true rfl) dX4_holds_84 ⟨Nat.le_of_ble_eq_true rfl, Nat.le_of_ble_eq_true rfl⟩ hP hD hK hT hN hS hA [0, 2] [1, 3] rfl rfl (by decide) (by decide) (by decide) (ci := 4) rfl rfl (fun r_ u_7 hu_7 H locs hz_7 hP hD hS => ?_)
              obtain ⟨rfl, hu_7⟩ := hu_7
              have hP : va_P G.1 vwCl ([(k0, .inl (G.2.1 0, cn, .inl (aI C))), (p0, .inr (3, [.int (iI kd), .int (iI n), .int (iI k), .ref e0])), (h0, .inr (4, [.ref k0, .ref s0, .int (iI (((ppT M).length : Nat) : Int))])), (s0, .inl (G.2.1 1, cn, .inr (.inl A2)))]) H := hP
              have hD : va_D A ([(k0, .inl (G.2.1 0, cn, .inl (aI C))), (p0, .inr (3, [.int (iI kd), .int (iI n), .int (iI k), .ref e0])), (h0, .inr (4, [.ref k0, .ref s0, .int (iI (((ppT M).length : Nat) : Int))])), (s0, .inl (G.2.1 1, cn, .inr (.inl A2)))]) := hD
              refine lv_lstore (lv' := [(5, .long (ppV M)), (4, .int (iI (C ((i).toNat)))), (3, .int (iI i)), (0, .ref h0), (1, .ref p0), (2, .int (iI r))]) hx hb dX4_holds_87 hl (by decide) rfl (fun ls hl => ?_)
              refine lv_aload_n hx hb dX4_holds_89 rfl (lv_at hl 3 rfl) ?_
              refine lv_iload hx hb dX4_holds_90 (lv_at hl 1 rfl) ?_
              refine w_ineg hx hb dX4_holds_92 ?_
              refine lv_aload_n hx hb dX4_holds_93 rfl (lv_at hl 3 rfl) ?_
              refine cWVl0 (As := []) (rest := [.int (iI (-(C ((i).toNat)))), .ref h0]) (wr0 := [(k0, .inl (G.2.1 0, cn, .inl (aI C))), (p0, .inr (3, [.int (iI kd), .int (iI n), .int (iI k), .ref e0]))]) ⟨hx, hb, hml, hown, hts⟩ (c_X4_pop l G h0 s0 cn A2 (ppT M) k0 H.size (by exact hcn) (by exact (pp_len hML)) (by exact hu_7)) (cwV 0 hts gX4_holds_X4_pop rfl rfl rfl (by decide +kernel) ⟨Nat.le_of_ble_eq_true rfl, Nat.le_of_ble_eq_true rfl⟩) rfl hl.1 rfl (Nat.le_of_ble_eq_true rfl) dX4_holds_94 ⟨Nat.le_of_ble_eq_true rfl, Nat.le_of_ble_eq_true rfl⟩ hP hD hK hT hN hS hA [2, 3] [0, 1] rfl rfl (by decide) (by decide) (by decide) (ci := 4) rfl rfl (fun r_ u_8 hu_8 H locs hz_8 hP hD hS => ?_)
              obtain ⟨rfl, hu_8⟩ := hu_8
              have hP : va_P G.1 vwCl ([(k0, .inl (G.2.1 0, cn, .inl (aI C))), (p0, .inr (3, [.int (iI kd), .int (iI n), .int (iI k), .ref e0])), (h0, .inr (4, [.ref k0, .ref s0, .int (iI (((ppT (ppT M)).length : Nat) : Int))])), (s0, .inl (G.2.1 1, cn, .inr (.inl A2)))]) H := hP
              have hD : va_D A ([(k0, .inl (G.2.1 0, cn, .inl (aI C))), (p0, .inr (3, [.int (iI kd), .int (iI n), .int (iI k), .ref e0])), (h0, .inr (4, [.ref k0, .ref s0, .int (iI (((ppT (ppT M)).length : Nat) : Int))])), (s0, .inl (G.2.1 1, cn, .inr (.inl A2)))]) := hD
              refine lv_lload hx hb dX4_holds_97 (lv_at hl 0 rfl) ?_
              refine cRSl (As := [.int (iI (-(C ((i).toNat)))), .long (ppV (ppT M)), .long (ppV M)]) (rest := [.ref h0]) ⟨hx, hb, hml, hown, hts⟩ (c_X4_joined l G (-(C ((i).toNat))) (ppV (ppT M)) (ppV M) (by omega)) (va_cwS 3 hts gX4_holds_X4_joined rfl rfl rfl (by decide +kernel) ⟨Nat.le_of_ble_eq_true rfl, Nat.le_of_ble_eq_true rfl⟩) rfl hl.1 rfl (Nat.le_of_ble_eq_true rfl) dX4_holds_99 ⟨Nat.le_of_ble_eq_true rfl, Nat.le_of_ble_eq_true rfl⟩ va_P_nil hK hT hN hS ?_
              refine cWVv0 (As := [.long (joZ (-(C ((i).toNat))) (ppV (ppT M)) (ppV M))]) (rest := []) (wr0 := [(k0, .inl (G.2.1 0, cn, .inl (aI C))), (p0, .inr (3, [.int (iI kd), .int (iI n), .int (iI k), .ref e0]))]) ⟨hx, hb, hml, hown, hts⟩ (c_X4_push l G h0 s0 cn A2 (ppT (ppT M)) k0 (joZ (-(C ((i).toNat))) (ppV (ppT M)) (ppV M)) H.size (by exact hcn) (by exact (pp_len (pp_len hML))) (by exact hu_8)) (cwV 1 hts gX4_holds_X4_push rfl rfl rfl (by decide +kernel) ⟨Nat.le_of_ble_eq_true rfl, Nat.le_of_ble_eq_true rfl⟩) rfl hl.1 rfl (Nat.le_of_ble_eq_true rfl) dX4_holds_102 ⟨Nat.le_of_ble_eq_true rfl, Nat.le_of_ble_eq_true rfl⟩ hP hD hK hT hN hS hA [2, 3] [0, 1] rfl rfl (by decide) (by decide) (by decide) (ci := 4) rfl rfl (fun u_9 hu_9 H locs hz_9 hP hD hS => ?_)
              generalize u_9 = A2_9 at *
              try dsimp only at hu_9
              have hP : va_P G.1 vwCl ([(k0, .inl (G.2.1 0, cn, .inl (aI C))), (p0, .inr (3, [.int (iI kd), .int (iI n), .int (iI k), .ref e0])), (h0, .inr (4, [.ref k0, .ref s0, .int (iI (((psh cn (joZ (-(C ((i).toNat))) (ppV (ppT M)) (ppV M)) (ppT (ppT M))).length : Nat) : Int))])), (s0, .inl (G.2.1 1, cn, .inr (.inl A2_9)))]) H := hP
              have hD : va_D A ([(k0, .inl (G.2.1 0, cn, .inl (aI C))), (p0, .inr (3, [.int (iI kd), .int (iI n), .int (iI k), .ref e0])), (h0, .inr (4, [.ref k0, .ref s0, .int (iI (((psh cn (joZ (-(C ((i).toNat))) (ppV (ppT M)) (ppV M)) (ppT (ppT M))).length : Nat) : Int))])), (s0, .inl (G.2.1 1, cn, .inr (.inl A2_9)))]) := hD
              refine w_iinc (k := 2) (lv' := [(3, .int (iI (i + 1))), (5, .long (ppV M)), (4, .int (iI (C ((i).toNat)))), (0, .ref h0), (1, .ref p0), (2, .int (iI r))]) hx hb dX4_holds_105 hl rfl (by decide) rfl (fun ls hl => ?_)
              refine lv_goto (tgt := 7) hx hb dX4_holds_108 (by decide) ?_
              exact ih7 (i + 1) (psh cn (joZ (-(C ((i).toNat))) (ppV (ppT M)) (ppV M)) (ppT (ppT M))) A2_9 (by omega) (by rw [show (i + 1).toNat = i.toNat + 1 from by omega]; show _ = evE cn (fun z => voZ z kd n k r) (C i.toNat) (evL C cn (fun z => voZ z kd n k r) i.toNat); rw [← hM]; unfold evE; rw [if_neg (by omega), if_neg (by omega), if_neg (by assumption)]) (by exact hu_9) (by omega) _ _ _ (hP.sub [2, 0, 3, 1] rfl) (hD.sub [2, 0, 3, 1] (by decide) rfl) hS (lv_sub hl [0, 3, 4, 5] rfl)
            · refine lv_aload_n hx hb dX4_holds_68 rfl (lv_at hl 2 rfl) ?_
              refine lv_iload hx hb dX4_holds_69 (lv_at hl 0 rfl) ?_
              refine w_ineg hx hb dX4_holds_71 ?_
              refine lv_aload_n hx hb dX4_holds_72 rfl (lv_at hl 3 rfl) ?_
              refine lv_iload_n hx hb dX4_holds_73 rfl (lv_at hl 4 rfl) ?_
              refine cRSl (As := [.int (iI (-(C ((i).toNat)))), .ref p0, .int (iI r)]) (rest := [.ref h0]) ⟨hx, hb, hml, hown, hts⟩ (c_X4_valueOf l G p0 e0 kd n k (-(C ((i).toNat))) r (by exact hv) (by omega) (by exact hrr) (by exact hrk)) (va_cwS 3 hts gX4_holds_X4_valueOf rfl rfl rfl (by decide +kernel) ⟨Nat.le_of_ble_eq_true rfl, Nat.le_of_ble_eq_true rfl⟩) rfl hl.1 rfl (Nat.le_of_ble_eq_true rfl) dX4_holds_74 ⟨Nat.le_of_ble_eq_true rfl, Nat.le_of_ble_eq_true rfl⟩ (hP.sub [3] rfl) hK hT hN hS ?_
              refine cWVv0 (As := [.long (lI (voZ (-(C ((i).toNat))) kd n k r))]) (rest := []) (wr0 := [(k0, .inl (G.2.1 0, cn, .inl (aI C))), (p0, .inr (3, [.int (iI kd), .int (iI n), .int (iI k), .ref e0]))]) ⟨hx, hb, hml, hown, hts⟩ (c_X4_push l G h0 s0 cn A2 M k0 (lI (voZ (-(C ((i).toNat))) kd n k r)) H.size (by exact hcn) (by exact hML) (by exact hA2)) (cwV 1 hts gX4_holds_X4_push rfl rfl rfl (by decide +kernel) ⟨Nat.le_of_ble_eq_true rfl, Nat.le_of_ble_eq_true rfl⟩) rfl hl.1 rfl (Nat.le_of_ble_eq_true rfl) dX4_holds_77 ⟨Nat.le_of_ble_eq_true rfl, Nat.le_of_ble_eq_true rfl⟩ hP hD hK hT hN hS hA [0, 2] [1, 3] rfl rfl (by decide) (by decide) (by decide) (ci := 4) rfl rfl (fun u_10 hu_10 H locs hz_10 hP hD hS => ?_)
              generalize u_10 = A2_10 at *
              try dsimp only at hu_10
              have hP : va_P G.1 vwCl ([(k0, .inl (G.2.1 0, cn, .inl (aI C))), (p0, .inr (3, [.int (iI kd), .int (iI n), .int (iI k), .ref e0])), (h0, .inr (4, [.ref k0, .ref s0, .int (iI (((psh cn (lI (voZ (-(C ((i).toNat))) kd n k r)) M).length : Nat) : Int))])), (s0, .inl (G.2.1 1, cn, .inr (.inl A2_10)))]) H := hP
              have hD : va_D A ([(k0, .inl (G.2.1 0, cn, .inl (aI C))), (p0, .inr (3, [.int (iI kd), .int (iI n), .int (iI k), .ref e0])), (h0, .inr (4, [.ref k0, .ref s0, .int (iI (((psh cn (lI (voZ (-(C ((i).toNat))) kd n k r)) M).length : Nat) : Int))])), (s0, .inl (G.2.1 1, cn, .inr (.inl A2_10)))]) := hD
              refine lv_goto (tgt := 105) hx hb dX4_holds_80 (by decide) ?_
              refine w_iinc (k := 1) (lv' := [(3, .int (iI (i + 1))), (4, .int (iI (C ((i).toNat)))), (0, .ref h0), (1, .ref p0), (2, .int (iI r))]) hx hb dX4_holds_105 hl rfl (by decide) rfl (fun ls hl => ?_)
              refine lv_goto (tgt := 7) hx hb dX4_holds_108 (by decide) ?_
              exact ih7 (i + 1) (psh cn (lI (voZ (-(C ((i).toNat))) kd n k r)) M) A2_10 (by omega) (by rw [show (i + 1).toNat = i.toNat + 1 from by omega]; show _ = evE cn (fun z => voZ z kd n k r) (C i.toNat) (evL C cn (fun z => voZ z kd n k r) i.toNat); rw [← hM]; unfold evE; rw [if_neg (by omega), if_neg (by omega), if_pos (by assumption)]) (by exact hu_10) (by omega) _ _ _ (hP.sub [2, 0, 3, 1] rfl) (hD.sub [2, 0, 3, 1] (by decide) rfl) hS (lv_sub hl [0, 2, 3, 4] rfl)
          · refine lv_aload_n hx hb dX4_holds_46 rfl (lv_at hl 2 rfl) ?_
            refine lv_lconst (v := lI 1) hx hb dX4_holds_47 (by decide) ?_
            refine lv_aload_n hx hb dX4_holds_48 rfl (lv_at hl 2 rfl) ?_
            refine cWVl0 (As := []) (rest := [.long (lI 1), .ref h0]) (wr0 := [(k0, .inl (G.2.1 0, cn, .inl (aI C))), (p0, .inr (3, [.int (iI kd), .int (iI n), .int (iI k), .ref e0]))]) ⟨hx, hb, hml, hown, hts⟩ (c_X4_pop l G h0 s0 cn A2 M k0 H.size (by exact hcn) (by exact hML) (by exact hA2)) (cwV 0 hts gX4_holds_X4_pop rfl rfl rfl (by decide +kernel) ⟨Nat.le_of_ble_eq_true rfl, Nat.le_of_ble_eq_true rfl⟩) rfl hl.1 rfl (Nat.le_of_ble_eq_true rfl) dX4_holds_49 ⟨Nat.le_of_ble_eq_true rfl, Nat.le_of_ble_eq_true rfl⟩ hP hD hK hT hN hS hA [0, 2] [1, 3] rfl rfl (by decide) (by decide) (by decide) (ci := 4) rfl rfl (fun r_ u_11 hu_11 H locs hz_11 hP hD hS => ?_)
            obtain ⟨rfl, hu_11⟩ := hu_11
            have hP : va_P G.1 vwCl ([(k0, .inl (G.2.1 0, cn, .inl (aI C))), (p0, .inr (3, [.int (iI kd), .int (iI n), .int (iI k), .ref e0])), (h0, .inr (4, [.ref k0, .ref s0, .int (iI (((ppT M).length : Nat) : Int))])), (s0, .inl (G.2.1 1, cn, .inr (.inl A2)))]) H := hP
            have hD : va_D A ([(k0, .inl (G.2.1 0, cn, .inl (aI C))), (p0, .inr (3, [.int (iI kd), .int (iI n), .int (iI k), .ref e0])), (h0, .inr (4, [.ref k0, .ref s0, .int (iI (((ppT M).length : Nat) : Int))])), (s0, .inl (G.2.1 1, cn, .inr (.inl A2)))]) := hD
            refine lv_lsub hx hb dX4_holds_52 ?_
            refine cWVv0 (As := [.long ((lI 1) - (ppV M))]) (rest := []) (wr0 := [(k0, .inl (G.2.1 0, cn, .inl (aI C))), (p0, .inr (3, [.int (iI kd), .int (iI n), .int (iI k), .ref e0]))]) ⟨hx, hb, hml, hown, hts⟩ (c_X4_push l G h0 s0 cn A2 (ppT M) k0 ((lI 1) - (ppV M)) H.size (by exact hcn) (by exact (pp_len hML)) (by exact hu_11)) (cwV 1 hts gX4_holds_X4_push rfl rfl rfl (by decide +kernel) ⟨Nat.le_of_ble_eq_true rfl, Nat.le_of_ble_eq_true rfl⟩) rfl hl.1 rfl (Nat.le_of_ble_eq_true rfl) dX4_holds_53 ⟨Nat.le_of_ble_eq_true rfl, Nat.le_of_ble_eq_true rfl⟩ hP hD hK hT hN hS hA [2, 3] [0, 1] rfl rfl (by decide) (by decide) (by decide) (ci := 4) rfl rfl (fun u_12 hu_12 H locs hz_12 hP hD hS => ?_)
            generalize u_12 = A2_12 at *
            try dsimp only at hu_12
            have hP : va_P G.1 vwCl ([(k0, .inl (G.2.1 0, cn, .inl (aI C))), (p0, .inr (3, [.int (iI kd), .int (iI n), .int (iI k), .ref e0])), (h0, .inr (4, [.ref k0, .ref s0, .int (iI (((psh cn ((lI 1) - (ppV M)) (ppT M)).length : Nat) : Int))])), (s0, .inl (G.2.1 1, cn, .inr (.inl A2_12)))]) H := hP
            have hD : va_D A ([(k0, .inl (G.2.1 0, cn, .inl (aI C))), (p0, .inr (3, [.int (iI kd), .int (iI n), .int (iI k), .ref e0])), (h0, .inr (4, [.ref k0, .ref s0, .int (iI (((psh cn ((lI 1) - (ppV M)) (ppT M)).length : Nat) : Int))])), (s0, .inl (G.2.1 1, cn, .inr (.inl A2_12)))]) := hD
            refine lv_goto (tgt := 105) hx hb dX4_holds_56 (by decide) ?_
            refine w_iinc (k := 1) (lv' := [(3, .int (iI (i + 1))), (4, .int (iI (C ((i).toNat)))), (0, .ref h0), (1, .ref p0), (2, .int (iI r))]) hx hb dX4_holds_105 hl rfl (by decide) rfl (fun ls hl => ?_)
            refine lv_goto (tgt := 7) hx hb dX4_holds_108 (by decide) ?_
            exact ih7 (i + 1) (psh cn ((lI 1) - (ppV M)) (ppT M)) A2_12 (by omega) (by rw [show (i + 1).toNat = i.toNat + 1 from by omega]; show _ = evE cn (fun z => voZ z kd n k r) (C i.toNat) (evL C cn (fun z => voZ z kd n k r) i.toNat); rw [← hM]; unfold evE; rw [if_neg (by omega), if_pos (by omega)]) (by exact hu_12) (by omega) _ _ _ (hP.sub [2, 0, 3, 1] rfl) (hD.sub [2, 0, 3, 1] (by decide) rfl) hS (lv_sub hl [0, 2, 3, 4] rfl)
        · refine lv_aload_n hx hb dX4_holds_29 rfl (lv_at hl 2 rfl) ?_
          refine lv_iload hx hb dX4_holds_30 (lv_at hl 0 rfl) ?_
          refine w_i2l hx hb dX4_holds_32 (by omega) ?_
          refine cWVv0 (As := [.long (lI (C ((i).toNat)))]) (rest := []) (wr0 := [(k0, .inl (G.2.1 0, cn, .inl (aI C))), (p0, .inr (3, [.int (iI kd), .int (iI n), .int (iI k), .ref e0]))]) ⟨hx, hb, hml, hown, hts⟩ (c_X4_push l G h0 s0 cn A2 M k0 (lI (C ((i).toNat))) H.size (by exact hcn) (by exact hML) (by exact hA2)) (cwV 1 hts gX4_holds_X4_push rfl rfl rfl (by decide +kernel) ⟨Nat.le_of_ble_eq_true rfl, Nat.le_of_ble_eq_true rfl⟩) rfl hl.1 rfl (Nat.le_of_ble_eq_true rfl) dX4_holds_33 ⟨Nat.le_of_ble_eq_true rfl, Nat.le_of_ble_eq_true rfl⟩ hP hD hK hT hN hS hA [0, 2] [1, 3] rfl rfl (by decide) (by decide) (by decide) (ci := 4) rfl rfl (fun u_13 hu_13 H locs hz_13 hP hD hS => ?_)
          generalize u_13 = A2_13 at *
          try dsimp only at hu_13
          have hP : va_P G.1 vwCl ([(k0, .inl (G.2.1 0, cn, .inl (aI C))), (p0, .inr (3, [.int (iI kd), .int (iI n), .int (iI k), .ref e0])), (h0, .inr (4, [.ref k0, .ref s0, .int (iI (((psh cn (lI (C ((i).toNat))) M).length : Nat) : Int))])), (s0, .inl (G.2.1 1, cn, .inr (.inl A2_13)))]) H := hP
          have hD : va_D A ([(k0, .inl (G.2.1 0, cn, .inl (aI C))), (p0, .inr (3, [.int (iI kd), .int (iI n), .int (iI k), .ref e0])), (h0, .inr (4, [.ref k0, .ref s0, .int (iI (((psh cn (lI (C ((i).toNat))) M).length : Nat) : Int))])), (s0, .inl (G.2.1 1, cn, .inr (.inl A2_13)))]) := hD
          refine lv_goto (tgt := 105) hx hb dX4_holds_36 (by decide) ?_
          refine w_iinc (k := 1) (lv' := [(3, .int (iI (i + 1))), (4, .int (iI (C ((i).toNat)))), (0, .ref h0), (1, .ref p0), (2, .int (iI r))]) hx hb dX4_holds_105 hl rfl (by decide) rfl (fun ls hl => ?_)
          refine lv_goto (tgt := 7) hx hb dX4_holds_108 (by decide) ?_
          exact ih7 (i + 1) (psh cn (lI (C ((i).toNat))) M) A2_13 (by omega) (by rw [show (i + 1).toNat = i.toNat + 1 from by omega]; show _ = evE cn (fun z => voZ z kd n k r) (C i.toNat) (evL C cn (fun z => voZ z kd n k r) i.toNat); rw [← hM]; unfold evE; rw [if_pos (by omega)]) (by exact hu_13) (by omega) _ _ _ (hP.sub [2, 0, 3, 1] rfl) (hD.sub [2, 0, 3, 1] (by decide) rfl) hS (lv_sub hl [0, 2, 3, 4] rfl)
  exact lp_7 (((cn : Int) - (0 : Int)).toNat + 1) 0 ([]) A1 (by omega) (by rfl) (by intro j hj; exact absurd hj (Nat.not_lt_zero _)) (Nat.lt_succ_self _) _ _ _ hP hD hS (lv_sub hl [0, 1, 2, 3] rfl)
