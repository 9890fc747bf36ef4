abbrev rm_c_X1_stopFrom : Room := { frames := 1, cells := 0, slots := 0, locals := 21 }
set_option maxHeartbeats 4000000 in
set_option maxRecDepth 100000 in
theorem c_X1_stopFrom (l : Launch) (G : Gx) (h0 : Nat) (a0 : Nat) (f0 : Nat) (Ah : Nat → Int) (d : Int) (sz : Nat) (hd : 1 ≤ d ∧ d ≤ 12) : Met l yX1_stopFrom wsX1_stopFrom rm_c_X1_stopFrom (va_Pc [.ref h0, .int (iI d)] (wr G ([(h0, .inr (2, [.ref a0, .ref f0])), (a0, .inl (G.2.1 1, 25, .inr (.inl (aL Ah))))]) sz)) (va_Ql (fun (rv : Int64) (u : (Nat → Int)) => rv = (lI (spS Ah d)) ∧ (∀ r : Nat, r < 25 → u r = ctT Ah d r)) (Bw G.1 vwCl (fun (u : (Nat → Int)) => [(h0, .inr (2, [.ref a0, .ref f0])), (a0, .inl (G.2.1 1, 25, .inr (.inl (aL u))))]) (va_A ([(h0, .inr (2, [.ref a0, .ref f0])), (a0, .inl (G.2.1 1, 25, .inr (.inl (aL Ah))))]) sz)) (va_A ([(h0, .inr (2, [.ref a0, .ref f0])), (a0, .inl (G.2.1 1, 25, .inr (.inl (aL Ah))))]) sz)) 0 0 (va_A ([(h0, .inr (2, [.ref a0, .ref f0])), (a0, .inl (G.2.1 1, 25, .inr (.inl (aL Ah))))]) sz) := by
  refine enW (Qc := fun A => (va_Ql (fun (rv : Int64) (u : (Nat → Int)) => rv = (lI (spS Ah d)) ∧ (∀ r : Nat, r < 25 → u r = ctT Ah d r)) (Bw G.1 vwCl (fun (u : (Nat → Int)) => [(h0, .inr (2, [.ref a0, .ref f0])), (a0, .inl (G.2.1 1, 25, .inr (.inl (aL u))))]) A) A)) (mc := 0) (ms := 0) (cc := cX1_stopFrom) (maxL := 5) (ret := (some .long)) (C := RX1) [(0, .ref h0), (1, .int (iI d))] (by decide) rfl rfl (Nat.le_of_ble_eq_true rfl) rfl ?_
  intro p e s m args below meth c ls A hx hb hr hml hown hts hlocks hin hP hK hD hT hN hA hS hl
  show W p l e rm_c_X1_stopFrom s m args below meth c s.heap [] 0 0 _ (F0 m 0 ls [])
  refine lv_lconst (v := lI 0) hx hb dX1_stopFrom_0 (by decide) ?_
  refine lv_lstore_n (lv' := [(2, .long (lI 0)), (0, .ref h0), (1, .int (iI d))]) hx hb dX1_stopFrom_1 rfl hl (by decide) rfl (fun ls hl => ?_)
  refine lv_bipush (v := iI 12) hx hb dX1_stopFrom_2 (by decide) ?_
  refine lv_iload_n hx hb dX1_stopFrom_4 rfl (lv_at hl 2 rfl) ?_
  refine w_iadd hx hb dX1_stopFrom_5 ?_
  refine lv_iconst (v := iI 0) hx hb dX1_stopFrom_6 rfl ?_
  refine w_mmax hx hb (hml.trans hl.1.symm) hown (hts (.methodLink RX1 46 Lib.Math.max.name) (by decide +kernel)) (hts (.static Lib.Math.max.name) (by decide +kernel)) (hts (.initialized "java/lang/Math") (by decide +kernel)) (hts (.code Lib.Math.max.name Lib.Math.max.code 2 (some .int)) (by decide +kernel)) (Nat.le_of_ble_eq_true rfl) (Nat.le_of_ble_eq_true rfl) (Nat.le_of_ble_eq_true rfl) (Nat.le_of_ble_eq_true rfl) (by omega) (by decide) dX1_stopFrom_7 ?_
  refine lv_istore (lv' := [(4, .int (iI (max (12 + d) 0))), (2, .long (lI 0)), (0, .ref h0), (1, .int (iI d))]) hx hb dX1_stopFrom_10 hl (by decide) rfl (fun ls hl => ?_)
  have lp_12 : ∀ (μ12 : Nat) (i : Int) (sm : Int) (A2 : Nat → Int) (hi : 12 + d ≤ i ∧ i ≤ 25) (hs : sm = su (fun j => Ah ((12 + d).toNat + j)) (i - (12 + d)).toNat) (hF : ∀ r : Nat, r < 25 → A2 r = if (r : Int) < 12 + d then Ah r else if (r : Int) < i then 0 else Ah r) (hμ12 : (25 - i).toNat < μ12) (H : Heap) (locs : List Loc) (ls : Array Slot) (hP : va_P G.1 vwCl ([(h0, .inr (2, [.ref a0, .ref f0])), (a0, .inl (G.2.1 1, 25, .inr (.inl (aL A2))))]) H) (hD : va_D A ([(h0, .inr (2, [.ref a0, .ref f0])), (a0, .inl (G.2.1 1, 25, .inr (.inl (aL A2))))])) (hS : va_S A s.heap H locs) (hl : lv_has ls 5 [(4, .int (iI i)), (2, .long (lI sm)), (0, .ref h0), (1, .int (iI d))]), W p l e rm_c_X1_stopFrom s m args below meth c H locs 0 0 (MQ below (va_Ql (fun (rv : Int64) (u : (Nat → Int)) => rv = (lI (spS Ah d)) ∧ (∀ r : Nat, r < 25 → u r = ctT Ah d r)) (Bw G.1 vwCl (fun (u : (Nat → Int)) => [(h0, .inr (2, [.ref a0, .ref f0])), (a0, .inl (G.2.1 1, 25, .inr (.inl (aL u))))]) A) A) args s 0 0 A) (F0 m 12 ls []) := by
    intro μ12
    induction μ12 with
    | zero => intro i sm A2 hi hs hF hμ12; exact absurd hμ12 (Nat.not_lt_zero _)
    | succ μ12 ih12 =>
      intro i sm A2 hi hs hF hμ12 H locs ls hP hD hS hl
      refine lv_iload hx hb dX1_stopFrom_12 (lv_at hl 0 rfl) ?_
      refine lv_aload_n hx hb dX1_stopFrom_14 rfl (lv_at hl 2 rfl) ?_
      refine va_get (D := G.1) (ci := 2) (v := .ref a0) (C := RX1) (T := TX1) (N := 2) hx hb hts (by decide +kernel) hown hK hP 0 rfl rfl 0 (by decide) (hts (.fieldLink RX1 9 "MilkFirst$Looking" "ahead" "[J") (by decide +kernel)) (fun _ h9 => h9) rfl dX1_stopFrom_15 ?_
      refine va_alen (v := iI 25) hx hb hK hP 1 1 rfl rfl (iI_N 25) dX1_stopFrom_18 ?_
      refine w_icmp_ge (tgt := 46) hx hb dX1_stopFrom_19 (by decide) (by omega) (by decide) (fun c_19_1 => ?_) (fun c_19_1 => ?_)
      · refine lv_lload_n hx hb dX1_stopFrom_46 rfl (lv_at hl 1 rfl) ?_
        exact rtWl hx hb hr hlocks dX1_stopFrom_47 (A2) ⟨congrArg lI (by rw [hs, show i = 25 from by omega]; unfold spS; congr 1; omega), fun r hr => by rw [hF r hr]; unfold ctT; by_cases q1 : (r : Int) < 12 + d; rw [if_pos q1, if_pos q1]; rw [if_neg q1, if_neg q1, if_pos (by omega)]⟩ hP hD hS
      · refine lv_lload_n hx hb dX1_stopFrom_22 rfl (lv_at hl 1 rfl) ?_
        refine lv_aload_n hx hb dX1_stopFrom_23 rfl (lv_at hl 2 rfl) ?_
        refine va_get (D := G.1) (ci := 2) (v := .ref a0) (C := RX1) (T := TX1) (N := 2) hx hb hts (by decide +kernel) hown hK hP 0 rfl rfl 0 (by decide) (hts (.fieldLink RX1 9 "MilkFirst$Looking" "ahead" "[J") (by decide +kernel)) (fun _ h9 => h9) rfl dX1_stopFrom_24 ?_
        refine lv_iload hx hb dX1_stopFrom_27 (lv_at hl 0 rfl) ?_
        refine w_lald hx hb hK hP 1 1 rfl rfl ((i).toNat) (by omega) (by omega) (by decide) dX1_stopFrom_29 ?_
        refine w_ladd hx hb dX1_stopFrom_30 ?_
        refine lv_lstore_n (lv' := [(2, .long (lI (sm + (A2 ((i).toNat))))), (4, .int (iI i)), (0, .ref h0), (1, .int (iI d))]) hx hb dX1_stopFrom_31 rfl hl (by decide) rfl (fun ls hl => ?_)
        refine lv_aload_n hx hb dX1_stopFrom_32 rfl (lv_at hl 2 rfl) ?_
        refine va_get (D := G.1) (ci := 2) (v := .ref a0) (C := RX1) (T := TX1) (N := 2) hx hb hts (by decide +kernel) hown hK hP 0 rfl rfl 0 (by decide) (hts (.fieldLink RX1 9 "MilkFirst$Looking" "ahead" "[J") (by decide +kernel)) (fun _ h9 => h9) rfl dX1_stopFrom_33 ?_
        refine lv_iload hx hb dX1_stopFrom_36 (lv_at hl 1 rfl) ?_
        refine lv_lconst (v := lI 0) hx hb dX1_stopFrom_38 (by decide) ?_
        refine w_last hx hb hK hP hD hS 1 1 rfl rfl ((i).toNat) (by omega) (by omega) (by decide) dX1_stopFrom_39 (fun H locs hP hD hS => ?_)
        have hP : va_P G.1 vwCl ([(h0, .inr (2, [.ref a0, .ref f0])), (a0, .inl (G.2.1 1, 25, .inr (.inl (aL (va_up A2 ((i).toNat) 0)))))]) H := hP
        have hD : va_D A ([(h0, .inr (2, [.ref a0, .ref f0])), (a0, .inl (G.2.1 1, 25, .inr (.inl (aL (va_up A2 ((i).toNat) 0)))))]) := hD
        refine w_iinc (k := 1) (lv' := [(4, .int (iI (i + 1))), (2, .long (lI (sm + (A2 ((i).toNat))))), (0, .ref h0), (1, .int (iI d))]) hx hb dX1_stopFrom_40 hl rfl (by decide) rfl (fun ls hl => ?_)
        refine lv_goto (tgt := 12) hx hb dX1_stopFrom_43 (by decide) ?_
        exact ih12 (i + 1) (sm + (A2 ((i).toNat))) (va_up A2 ((i).toNat) 0) (by omega) (by rw [hs, show (i + 1 - (12 + d)).toNat = (i - (12 + d)).toNat + 1 from by omega]; show _ = su _ _ + Ah ((12 + d).toNat + (i - (12 + d)).toNat); rw [show (12 + d).toNat + (i - (12 + d)).toNat = i.toNat from by omega, hF i.toNat (by omega), if_neg (by omega), if_neg (by omega)]) (by intro r hr; by_cases q : r = i.toNat; (subst q; rw [va_up_self, if_neg (by omega), if_pos (by omega)]); (rw [va_up_ne _ _ q, hF r hr]; by_cases q1 : (r : Int) < 12 + d; rw [if_pos q1, if_pos q1]; rw [if_neg q1, if_neg q1]; by_cases q2 : (r : Int) < i; rw [if_pos q2, if_pos (by omega)]; rw [if_neg q2, if_neg (by omega)])) (by omega) _ _ _ hP hD hS (lv_sub hl [0, 1, 2, 3] rfl)
  exact lp_12 ((25 - (max (12 + d) 0)).toNat + 1) (max (12 + d) 0) 0 Ah (by omega) (by rw [show (max (12 + d) 0 - (12 + d)).toNat = 0 from by omega]; rfl) (by intro r hr; by_cases q : (r : Int) < 12 + d; (rw [if_pos q]); (rw [if_neg q, if_neg (by omega)])) (Nat.lt_succ_self _) _ _ _ hP hD hS (lv_sub hl [0, 1, 2, 3] rfl)
abbrev rm_c_X1_taste : Room := { frames := 1, cells := 0, slots := 0, locals := 48 }
set_option maxHeartbeats 4000000 in
set_option maxRecDepth 100000 in
theorem c_X1_taste (l : Launch) (G : Gx) (h0 : Nat) (a0 : Nat) (f0 : Nat) (Ah : Nat → Int) (Af : Nat → Int) (a : Int) (sz : Nat) (ha : 0 ≤ a ∧ a ≤ 10) : Met l yX1_taste wsX1_taste rm_c_X1_taste (va_Pc [.ref h0, .int (iI a)] (wr G ([(h0, .inr (2, [.ref a0, .ref f0])), (a0, .inl (G.2.1 1, 25, .inr (.inl (aL Ah)))), (f0, .inl (G.2.1 1, 25, .inr (.inl (aL Af))))]) sz)) (va_Qv (fun (u : (Nat → Int) × (Nat → Int)) => ∀ r : Nat, r < 25 → u.1 r = tsT Ah a 25 r) (Bw G.1 vwCl (fun (u : (Nat → Int) × (Nat → Int)) => [(h0, .inr (2, [.ref a0, .ref f0])), (a0, .inl (G.2.1 1, 25, .inr (.inl (aL u.1)))), (f0, .inl (G.2.1 1, 25, .inr (.inl (aL u.2))))]) (va_A ([(h0, .inr (2, [.ref a0, .ref f0])), (a0, .inl (G.2.1 1, 25, .inr (.inl (aL Ah)))), (f0, .inl (G.2.1 1, 25, .inr (.inl (aL Af))))]) sz)) (va_A ([(h0, .inr (2, [.ref a0, .ref f0])), (a0, .inl (G.2.1 1, 25, .inr (.inl (aL Ah)))), (f0, .inl (G.2.1 1, 25, .inr (.inl (aL Af))))]) sz)) 0 0 (va_A ([(h0, .inr (2, [.ref a0, .ref f0])), (a0, .inl (G.2.1 1, 25, .inr (.inl (aL Ah)))), (f0, .inl (G.2.1 1, 25, .inr (.inl (aL Af))))]) sz) := by
  refine enW (Qc := fun A => (va_Qv (fun (u : (Nat → Int) × (Nat → Int)) => ∀ r : Nat, r < 25 → u.1 r = tsT Ah a 25 r) (Bw G.1 vwCl (fun (u : (Nat → Int) × (Nat → Int)) => [(h0, .inr (2, [.ref a0, .ref f0])), (a0, .inl (G.2.1 1, 25, .inr (.inl (aL u.1)))), (f0, .inl (G.2.1 1, 25, .inr (.inl (aL u.2))))]) A) A)) (mc := 0) (ms := 0) (cc := cX1_taste) (maxL := 3) (ret := none) (C := RX1) [(0, .ref h0), (1, .int (iI a))] (by decide) rfl rfl (Nat.le_of_ble_eq_true rfl) rfl ?_
  intro p e s m args below meth c ls A hx hb hr hml hown hts hlocks hin hP hK hD hT hN hA hS hl
  show W p l e rm_c_X1_taste s m args below meth c s.heap [] 0 0 _ (F0 m 0 ls [])
  refine lv_aload_n hx hb dX1_taste_0 rfl (lv_at hl 0 rfl) ?_
  refine va_get (D := G.1) (ci := 2) (v := .ref f0) (C := RX1) (T := TX1) (N := 2) hx hb hts (by decide +kernel) hown hK hP 0 rfl rfl 1 (by decide) (hts (.fieldLink RX1 15 "MilkFirst$Looking" "after" "[J") (by decide +kernel)) (fun _ h9 => h9) rfl dX1_taste_1 ?_
  refine lv_lconst (v := lI 0) hx hb dX1_taste_4 (by decide) ?_
  refine cWSv0 (As := [.ref f0, .long (lI 0)]) (rest := []) (wr0 := [(h0, .inr (2, [.ref a0, .ref f0])), (a0, .inl (G.2.1 1, 25, .inr (.inl (aL Ah))))]) ⟨hx, hb, hml, hown, hts⟩ (c_J7_fill_d0a16 l G f0 25 Af 0 s.heap.size (by omega)) (va_cwS 2 hts gX1_taste_J7_fill_d0a16 rfl rfl rfl (by decide +kernel) ⟨Nat.le_of_ble_eq_true rfl, Nat.le_of_ble_eq_true rfl⟩) rfl hl.1 rfl (Nat.le_of_ble_eq_true rfl) dX1_taste_5 ⟨Nat.le_of_ble_eq_true rfl, Nat.le_of_ble_eq_true rfl⟩ hP hD hK hT hN hS hA [2] [0, 1] rfl rfl (by decide) (by decide) (by decide) (fun u_1 hu_1 H locs hz_1 hP hD hS => ?_)
  generalize u_1 = F2_1 at *
  try dsimp only at hu_1
  have hP : va_P G.1 vwCl ([(h0, .inr (2, [.ref a0, .ref f0])), (a0, .inl (G.2.1 1, 25, .inr (.inl (aL Ah)))), (f0, .inl (G.2.1 1, 25, .inr (.inl (aL F2_1))))]) H := hP
  have hD : va_D A ([(h0, .inr (2, [.ref a0, .ref f0])), (a0, .inl (G.2.1 1, 25, .inr (.inl (aL Ah)))), (f0, .inl (G.2.1 1, 25, .inr (.inl (aL F2_1))))]) := hD
  have hu5 := hu_1
  refine lv_iconst (v := iI 0) hx hb dX1_taste_8 rfl ?_
  refine lv_istore_n (lv' := [(2, .int (iI 0)), (0, .ref h0), (1, .int (iI a))]) hx hb dX1_taste_9 rfl hl (by decide) rfl (fun ls hl => ?_)
  have lp_10 : ∀ (μ10 : Nat) (i : Int) (F2 : Nat → Int) (hi : 0 ≤ i ∧ i ≤ 25) (hF : ∀ r : Nat, r < 25 → F2 r = tsT Ah a i.toNat r) (hμ10 : (25 - i).toNat < μ10) (H : Heap) (locs : List Loc) (ls : Array Slot) (hP : va_P G.1 vwCl ([(h0, .inr (2, [.ref a0, .ref f0])), (a0, .inl (G.2.1 1, 25, .inr (.inl (aL Ah)))), (f0, .inl (G.2.1 1, 25, .inr (.inl (aL F2))))]) H) (hD : va_D A ([(h0, .inr (2, [.ref a0, .ref f0])), (a0, .inl (G.2.1 1, 25, .inr (.inl (aL Ah)))), (f0, .inl (G.2.1 1, 25, .inr (.inl (aL F2))))])) (hS : va_S A s.heap H locs) (hl : lv_has ls 3 [(2, .int (iI i)), (0, .ref h0), (1, .int (iI a))]), W p l e rm_c_X1_taste s m args below meth c H locs 0 0 (MQ below (va_Qv (fun (u : (Nat → Int) × (Nat → Int)) => ∀ r : Nat, r < 25 → u.1 r = tsT Ah a 25 r) (Bw G.1 vwCl (fun (u : (Nat → Int) × (Nat → Int)) => [(h0, .inr (2, [.ref a0, .ref f0])), (a0, .inl (G.2.1 1, 25, .inr (.inl (aL u.1)))), (f0, .inl (G.2.1 1, 25, .inr (.inl (aL u.2))))]) A) A) args s 0 0 A) (F0 m 10 ls []) := by
    intro μ10
    induction μ10 with
    | zero => intro i F2 hi hF hμ10; exact absurd hμ10 (Nat.not_lt_zero _)
    | succ μ10 ih10 =>
      intro i F2 hi hF hμ10 H locs ls hP hD hS hl
      refine lv_iload_n hx hb dX1_taste_10 rfl (lv_at hl 0 rfl) ?_
      refine lv_aload_n hx hb dX1_taste_11 rfl (lv_at hl 1 rfl) ?_
      refine va_get (D := G.1) (ci := 2) (v := .ref a0) (C := RX1) (T := TX1) (N := 2) hx hb hts (by decide +kernel) hown hK hP 0 rfl rfl 0 (by decide) (hts (.fieldLink RX1 9 "MilkFirst$Looking" "ahead" "[J") (by decide +kernel)) (fun _ h9 => h9) rfl dX1_taste_12 ?_
      refine va_alen (v := iI 25) hx hb hK hP 1 1 rfl rfl (iI_N 25) dX1_taste_15 ?_
      refine w_icmp_ge (tgt := 94) hx hb dX1_taste_16 (by decide) (by omega) (by decide) (fun c_16_2 => ?_) (fun c_16_2 => ?_)
      · refine lv_aload_n hx hb dX1_taste_94 rfl (lv_at hl 1 rfl) ?_
        refine va_get (D := G.1) (ci := 2) (v := .ref f0) (C := RX1) (T := TX1) (N := 2) hx hb hts (by decide +kernel) hown hK hP 0 rfl rfl 1 (by decide) (hts (.fieldLink RX1 15 "MilkFirst$Looking" "after" "[J") (by decide +kernel)) (fun _ h9 => h9) rfl dX1_taste_95 ?_
        refine lv_iconst (v := iI 0) hx hb dX1_taste_98 rfl ?_
        refine lv_aload_n hx hb dX1_taste_99 rfl (lv_at hl 1 rfl) ?_
        refine va_get (D := G.1) (ci := 2) (v := .ref a0) (C := RX1) (T := TX1) (N := 2) hx hb hts (by decide +kernel) hown hK hP 0 rfl rfl 0 (by decide) (hts (.fieldLink RX1 9 "MilkFirst$Looking" "ahead" "[J") (by decide +kernel)) (fun _ h9 => h9) rfl dX1_taste_100 ?_
        refine lv_iconst (v := iI 0) hx hb dX1_taste_103 rfl ?_
        refine lv_aload_n hx hb dX1_taste_104 rfl (lv_at hl 1 rfl) ?_
        refine va_get (D := G.1) (ci := 2) (v := .ref f0) (C := RX1) (T := TX1) (N := 2) hx hb hts (by decide +kernel) hown hK hP 0 rfl rfl 1 (by decide) (hts (.fieldLink RX1 15 "MilkFirst$Looking" "after" "[J") (by decide +kernel)) (fun _ h9 => h9) rfl dX1_taste_105 ?_
        refine va_alen (v := iI 25) hx hb hK hP 2 1 rfl rfl (iI_N 25) dX1_taste_108 ?_
        refine lv_aload_n hx hb dX1_taste_109 rfl (lv_at hl 1 rfl) ?_
        refine va_get (D := G.1) (ci := 2) (v := .ref a0) (C := RX1) (T := TX1) (N := 2) hx hb hts (by decide +kernel) hown hK hP 0 rfl rfl 0 (by decide) (hts (.fieldLink RX1 9 "MilkFirst$Looking" "ahead" "[J") (by decide +kernel)) (fun _ h9 => h9) rfl dX1_taste_110 ?_
        refine va_alen (v := iI 25) hx hb hK hP 1 1 rfl rfl (iI_N 25) dX1_taste_113 ?_
        refine w_mmin hx hb (hml.trans hl.1.symm) hown (hts (.methodLink RX1 34 Lib.Math.min.name) (by decide +kernel)) (hts (.static Lib.Math.min.name) (by decide +kernel)) (hts (.initialized "java/lang/Math") (by decide +kernel)) (hts (.code Lib.Math.min.name Lib.Math.min.code 2 (some .int)) (by decide +kernel)) (Nat.le_of_ble_eq_true rfl) (Nat.le_of_ble_eq_true rfl) (Nat.le_of_ble_eq_true rfl) (Nat.le_of_ble_eq_true rfl) (by decide) (by decide) dX1_taste_114 ?_
        refine w_copyl hx hb (hml.trans hl.1.symm) hown (hts (.methodLink RX1 40 arraycopyName) (by decide +kernel)) (hts (.native arraycopyName) (by decide +kernel)) (hts (.static arraycopyName) (by decide +kernel)) (hts (.initialized "java/lang/System") (by decide +kernel)) hK hP hD hS 2 1 rfl rfl 25 (by decide) (by omega) (by omega) (by omega) (Nat.le_of_ble_eq_true rfl) (Nat.le_of_ble_eq_true rfl) dX1_taste_117 (fun H locs hP hD hS => ?_)
        have hP : va_P G.1 vwCl ([(h0, .inr (2, [.ref a0, .ref f0])), (a0, .inl (G.2.1 1, 25, .inr (.inl (aL (va_cpy F2 Ah 0 0 25))))), (f0, .inl (G.2.1 1, 25, .inr (.inl (aL F2))))]) H := hP
        have hD : va_D A ([(h0, .inr (2, [.ref a0, .ref f0])), (a0, .inl (G.2.1 1, 25, .inr (.inl (aL (va_cpy F2 Ah 0 0 25))))), (f0, .inl (G.2.1 1, 25, .inr (.inl (aL F2))))]) := hD
        exact rtWv hx hb hr hlocks dX1_taste_120 (va_cpy F2 Ah 0 0 25, F2) (show ∀ r : Nat, r < 25 → (va_cpy F2 Ah 0 0 25) r = tsT Ah a 25 r from (fun r hr => by unfold va_cpy; rw [if_pos (by omega), show 0 + (r - 0) = r from by omega, hF r hr, show i.toNat = 25 from by omega])) hP hD hS
      · refine lv_iload_n hx hb dX1_taste_19 rfl (lv_at hl 0 rfl) ?_
        refine lv_iconst (v := iI 1) hx hb dX1_taste_20 rfl ?_
        refine w_iadd hx hb dX1_taste_21 ?_
        refine lv_aload_n hx hb dX1_taste_22 rfl (lv_at hl 1 rfl) ?_
        refine va_get (D := G.1) (ci := 2) (v := .ref f0) (C := RX1) (T := TX1) (N := 2) hx hb hts (by decide +kernel) hown hK hP 0 rfl rfl 1 (by decide) (hts (.fieldLink RX1 15 "MilkFirst$Looking" "after" "[J") (by decide +kernel)) (fun _ h9 => h9) rfl dX1_taste_23 ?_
        refine va_alen (v := iI 25) hx hb hK hP 2 1 rfl rfl (iI_N 25) dX1_taste_26 ?_
        refine w_icmp_ge (tgt := 50) hx hb dX1_taste_27 (by decide) (by omega) (by decide) (fun c_27_3 => ?_) (fun c_27_3 => ?_)
        · refine lv_iload_n hx hb dX1_taste_50 rfl (lv_at hl 0 rfl) ?_
          refine w_if_le (tgt := 88) hx hb dX1_taste_51 (by decide) (by omega) (fun c_51_4 => ?_) (fun c_51_4 => ?_)
          · refine w_iinc (k := 0) (lv' := [(2, .int (iI (i + 1))), (0, .ref h0), (1, .int (iI a))]) hx hb dX1_taste_88 hl rfl (by decide) rfl (fun ls hl => ?_)
            refine lv_goto (tgt := 10) hx hb dX1_taste_91 (by decide) ?_
            exact ih10 (i + 1) F2 (by omega) (by exact ts_step hi.1 hF (up_no (z := i + 1) (nn := 25) (by omega)) (up_no (z := i - 1) (nn := 25) (by omega))) (by omega) _ _ _ hP hD hS (lv_sub hl [0, 1, 2] rfl)
          · refine lv_iload_n hx hb dX1_taste_54 rfl (lv_at hl 0 rfl) ?_
            refine lv_iconst (v := iI 1) hx hb dX1_taste_55 rfl ?_
            refine w_isub hx hb dX1_taste_56 ?_
            refine lv_aload_n hx hb dX1_taste_57 rfl (lv_at hl 1 rfl) ?_
            refine va_get (D := G.1) (ci := 2) (v := .ref f0) (C := RX1) (T := TX1) (N := 2) hx hb hts (by decide +kernel) hown hK hP 0 rfl rfl 1 (by decide) (hts (.fieldLink RX1 15 "MilkFirst$Looking" "after" "[J") (by decide +kernel)) (fun _ h9 => h9) rfl dX1_taste_58 ?_
            refine va_alen (v := iI 25) hx hb hK hP 2 1 rfl rfl (iI_N 25) dX1_taste_61 ?_
            refine w_icmp_ge (tgt := 88) hx hb dX1_taste_62 (by decide) (by omega) (by decide) (fun c_62_5 => absurd c_62_5 (by omega)) (fun c_62_5 => ?_)
            refine lv_aload_n hx hb dX1_taste_65 rfl (lv_at hl 1 rfl) ?_
            refine va_get (D := G.1) (ci := 2) (v := .ref f0) (C := RX1) (T := TX1) (N := 2) hx hb hts (by decide +kernel) hown hK hP 0 rfl rfl 1 (by decide) (hts (.fieldLink RX1 15 "MilkFirst$Looking" "after" "[J") (by decide +kernel)) (fun _ h9 => h9) rfl dX1_taste_66 ?_
            refine lv_iload_n hx hb dX1_taste_69 rfl (lv_at hl 0 rfl) ?_
            refine lv_iconst (v := iI 1) hx hb dX1_taste_70 rfl ?_
            refine w_isub hx hb dX1_taste_71 ?_
            refine lv_dup2_11 hx hb dX1_taste_72 rfl rfl ?_
            refine w_lald hx hb hK hP 2 1 rfl rfl (((i - 1)).toNat) (by omega) (by omega) (by decide) dX1_taste_73 ?_
            refine lv_aload_n hx hb dX1_taste_74 rfl (lv_at hl 1 rfl) ?_
            refine va_get (D := G.1) (ci := 2) (v := .ref a0) (C := RX1) (T := TX1) (N := 2) hx hb hts (by decide +kernel) hown hK hP 0 rfl rfl 0 (by decide) (hts (.fieldLink RX1 9 "MilkFirst$Looking" "ahead" "[J") (by decide +kernel)) (fun _ h9 => h9) rfl dX1_taste_75 ?_
            refine lv_iload_n hx hb dX1_taste_78 rfl (lv_at hl 0 rfl) ?_
            refine w_lald hx hb hK hP 1 1 rfl rfl ((i).toNat) (by omega) (by omega) (by decide) dX1_taste_79 ?_
            refine lv_bipush (v := iI 10) hx hb dX1_taste_80 (by decide) ?_
            refine lv_iload_n hx hb dX1_taste_82 rfl (lv_at hl 2 rfl) ?_
            refine w_isub hx hb dX1_taste_83 ?_
            refine w_i2l hx hb dX1_taste_84 (by omega) ?_
            refine w_lmul hx hb dX1_taste_85 ?_
            refine w_ladd hx hb dX1_taste_86 ?_
            refine w_last hx hb hK hP hD hS 2 1 rfl rfl (((i - 1)).toNat) (by omega) (by omega) (by decide) dX1_taste_87 (fun H locs hP hD hS => ?_)
            have hP : va_P G.1 vwCl ([(h0, .inr (2, [.ref a0, .ref f0])), (a0, .inl (G.2.1 1, 25, .inr (.inl (aL Ah)))), (f0, .inl (G.2.1 1, 25, .inr (.inl (aL (va_up F2 (((i - 1)).toNat) ((F2 (((i - 1)).toNat)) + ((Ah ((i).toNat)) * (10 - a))))))))]) H := hP
            have hD : va_D A ([(h0, .inr (2, [.ref a0, .ref f0])), (a0, .inl (G.2.1 1, 25, .inr (.inl (aL Ah)))), (f0, .inl (G.2.1 1, 25, .inr (.inl (aL (va_up F2 (((i - 1)).toNat) ((F2 (((i - 1)).toNat)) + ((Ah ((i).toNat)) * (10 - a))))))))]) := hD
            refine w_iinc (k := 0) (lv' := [(2, .int (iI (i + 1))), (0, .ref h0), (1, .int (iI a))]) hx hb dX1_taste_88 hl rfl (by decide) rfl (fun ls hl => ?_)
            refine lv_goto (tgt := 10) hx hb dX1_taste_91 (by decide) ?_
            exact ih10 (i + 1) (va_up F2 (((i - 1)).toNat) ((F2 (((i - 1)).toNat)) + ((Ah ((i).toNat)) * (10 - a)))) (by omega) (by exact ts_step hi.1 hF (up_no (z := i + 1) (nn := 25) (by omega)) (fun r _ => up_in (z := i - 1) (by omega) r)) (by omega) _ _ _ hP hD hS (lv_sub hl [0, 1, 2] rfl)
        · refine lv_aload_n hx hb dX1_taste_30 rfl (lv_at hl 1 rfl) ?_
          refine va_get (D := G.1) (ci := 2) (v := .ref f0) (C := RX1) (T := TX1) (N := 2) hx hb hts (by decide +kernel) hown hK hP 0 rfl rfl 1 (by decide) (hts (.fieldLink RX1 15 "MilkFirst$Looking" "after" "[J") (by decide +kernel)) (fun _ h9 => h9) rfl dX1_taste_31 ?_
          refine lv_iload_n hx hb dX1_taste_34 rfl (lv_at hl 0 rfl) ?_
          refine lv_iconst (v := iI 1) hx hb dX1_taste_35 rfl ?_
          refine w_iadd hx hb dX1_taste_36 ?_
          refine lv_dup2_11 hx hb dX1_taste_37 rfl rfl ?_
          refine w_lald hx hb hK hP 2 1 rfl rfl (((i + 1)).toNat) (by omega) (by omega) (by decide) dX1_taste_38 ?_
          refine lv_aload_n hx hb dX1_taste_39 rfl (lv_at hl 1 rfl) ?_
          refine va_get (D := G.1) (ci := 2) (v := .ref a0) (C := RX1) (T := TX1) (N := 2) hx hb hts (by decide +kernel) hown hK hP 0 rfl rfl 0 (by decide) (hts (.fieldLink RX1 9 "MilkFirst$Looking" "ahead" "[J") (by decide +kernel)) (fun _ h9 => h9) rfl dX1_taste_40 ?_
          refine lv_iload_n hx hb dX1_taste_43 rfl (lv_at hl 0 rfl) ?_
          refine w_lald hx hb hK hP 1 1 rfl rfl ((i).toNat) (by omega) (by omega) (by decide) dX1_taste_44 ?_
          refine lv_iload_n hx hb dX1_taste_45 rfl (lv_at hl 2 rfl) ?_
          refine w_i2l hx hb dX1_taste_46 (by omega) ?_
          refine w_lmul hx hb dX1_taste_47 ?_
          refine w_ladd hx hb dX1_taste_48 ?_
          refine w_last hx hb hK hP hD hS 2 1 rfl rfl (((i + 1)).toNat) (by omega) (by omega) (by decide) dX1_taste_49 (fun H locs hP hD hS => ?_)
          have hP : va_P G.1 vwCl ([(h0, .inr (2, [.ref a0, .ref f0])), (a0, .inl (G.2.1 1, 25, .inr (.inl (aL Ah)))), (f0, .inl (G.2.1 1, 25, .inr (.inl (aL (va_up F2 (((i + 1)).toNat) ((F2 (((i + 1)).toNat)) + ((Ah ((i).toNat)) * a)))))))]) H := hP
          have hD : va_D A ([(h0, .inr (2, [.ref a0, .ref f0])), (a0, .inl (G.2.1 1, 25, .inr (.inl (aL Ah)))), (f0, .inl (G.2.1 1, 25, .inr (.inl (aL (va_up F2 (((i + 1)).toNat) ((F2 (((i + 1)).toNat)) + ((Ah ((i).toNat)) * a)))))))]) := hD
          refine lv_iload_n hx hb dX1_taste_50 rfl (lv_at hl 0 rfl) ?_
          refine w_if_le (tgt := 88) hx hb dX1_taste_51 (by decide) (by omega) (fun c_51_6 => ?_) (fun c_51_6 => ?_)
          · refine w_iinc (k := 0) (lv' := [(2, .int (iI (i + 1))), (0, .ref h0), (1, .int (iI a))]) hx hb dX1_taste_88 hl rfl (by decide) rfl (fun ls hl => ?_)
            refine lv_goto (tgt := 10) hx hb dX1_taste_91 (by decide) ?_
            exact ih10 (i + 1) (va_up F2 (((i + 1)).toNat) ((F2 (((i + 1)).toNat)) + ((Ah ((i).toNat)) * a))) (by omega) (by exact ts_step hi.1 hF (fun r _ => up_in (z := i + 1) (by omega) r) (up_no (z := i - 1) (nn := 25) (by omega))) (by omega) _ _ _ hP hD hS (lv_sub hl [0, 1, 2] rfl)
          · refine lv_iload_n hx hb dX1_taste_54 rfl (lv_at hl 0 rfl) ?_
            refine lv_iconst (v := iI 1) hx hb dX1_taste_55 rfl ?_
            refine w_isub hx hb dX1_taste_56 ?_
            refine lv_aload_n hx hb dX1_taste_57 rfl (lv_at hl 1 rfl) ?_
            refine va_get (D := G.1) (ci := 2) (v := .ref f0) (C := RX1) (T := TX1) (N := 2) hx hb hts (by decide +kernel) hown hK hP 0 rfl rfl 1 (by decide) (hts (.fieldLink RX1 15 "MilkFirst$Looking" "after" "[J") (by decide +kernel)) (fun _ h9 => h9) rfl dX1_taste_58 ?_
            refine va_alen (v := iI 25) hx hb hK hP 2 1 rfl rfl (iI_N 25) dX1_taste_61 ?_
            refine w_icmp_ge (tgt := 88) hx hb dX1_taste_62 (by decide) (by omega) (by decide) (fun c_62_7 => absurd c_62_7 (by omega)) (fun c_62_7 => ?_)
            refine lv_aload_n hx hb dX1_taste_65 rfl (lv_at hl 1 rfl) ?_
            refine va_get (D := G.1) (ci := 2) (v := .ref f0) (C := RX1) (T := TX1) (N := 2) hx hb hts (by decide +kernel) hown hK hP 0 rfl rfl 1 (by decide) (hts (.fieldLink RX1 15 "MilkFirst$Looking" "after" "[J") (by decide +kernel)) (fun _ h9 => h9) rfl dX1_taste_66 ?_
            refine lv_iload_n hx hb dX1_taste_69 rfl (lv_at hl 0 rfl) ?_
            refine lv_iconst (v := iI 1) hx hb dX1_taste_70 rfl ?_
            refine w_isub hx hb dX1_taste_71 ?_
            refine lv_dup2_11 hx hb dX1_taste_72 rfl rfl ?_
            refine w_lald hx hb hK hP 2 1 rfl rfl (((i - 1)).toNat) (by omega) (by omega) (by decide) dX1_taste_73 ?_
            refine lv_aload_n hx hb dX1_taste_74 rfl (lv_at hl 1 rfl) ?_
            refine va_get (D := G.1) (ci := 2) (v := .ref a0) (C := RX1) (T := TX1) (N := 2) hx hb hts (by decide +kernel) hown hK hP 0 rfl rfl 0 (by decide) (hts (.fieldLink RX1 9 "MilkFirst$Looking" "ahead" "[J") (by decide +kernel)) (fun _ h9 => h9) rfl dX1_taste_75 ?_
            refine lv_iload_n hx hb dX1_taste_78 rfl (lv_at hl 0 rfl) ?_
            refine w_lald hx hb hK hP 1 1 rfl rfl ((i).toNat) (by omega) (by omega) (by decide) dX1_taste_79 ?_
            refine lv_bipush (v := iI 10) hx hb dX1_taste_80 (by decide) ?_
            refine lv_iload_n hx hb dX1_taste_82 rfl (lv_at hl 2 rfl) ?_
            refine w_isub hx hb dX1_taste_83 ?_
            refine w_i2l hx hb dX1_taste_84 (by omega) ?_
            refine w_lmul hx hb dX1_taste_85 ?_
            refine w_ladd hx hb dX1_taste_86 ?_
            refine w_last hx hb hK hP hD hS 2 1 rfl rfl (((i - 1)).toNat) (by omega) (by omega) (by decide) dX1_taste_87 (fun H locs hP hD hS => ?_)
            have hP : va_P G.1 vwCl ([(h0, .inr (2, [.ref a0, .ref f0])), (a0, .inl (G.2.1 1, 25, .inr (.inl (aL Ah)))), (f0, .inl (G.2.1 1, 25, .inr (.inl (aL (va_up (va_up F2 (((i + 1)).toNat) ((F2 (((i + 1)).toNat)) + ((Ah ((i).toNat)) * a))) (((i - 1)).toNat) (((va_up F2 (((i + 1)).toNat) ((F2 (((i + 1)).toNat)) + ((Ah ((i).toNat)) * a))) (((i - 1)).toNat)) + ((Ah ((i).toNat)) * (10 - a))))))))]) H := hP
            have hD : va_D A ([(h0, .inr (2, [.ref a0, .ref f0])), (a0, .inl (G.2.1 1, 25, .inr (.inl (aL Ah)))), (f0, .inl (G.2.1 1, 25, .inr (.inl (aL (va_up (va_up F2 (((i + 1)).toNat) ((F2 (((i + 1)).toNat)) + ((Ah ((i).toNat)) * a))) (((i - 1)).toNat) (((va_up F2 (((i + 1)).toNat) ((F2 (((i + 1)).toNat)) + ((Ah ((i).toNat)) * a))) (((i - 1)).toNat)) + ((Ah ((i).toNat)) * (10 - a))))))))]) := hD
            refine w_iinc (k := 0) (lv' := [(2, .int (iI (i + 1))), (0, .ref h0), (1, .int (iI a))]) hx hb dX1_taste_88 hl rfl (by decide) rfl (fun ls hl => ?_)
            refine lv_goto (tgt := 10) hx hb dX1_taste_91 (by decide) ?_
            exact ih10 (i + 1) (va_up (va_up F2 (((i + 1)).toNat) ((F2 (((i + 1)).toNat)) + ((Ah ((i).toNat)) * a))) (((i - 1)).toNat) (((va_up F2 (((i + 1)).toNat) ((F2 (((i + 1)).toNat)) + ((Ah ((i).toNat)) * a))) (((i - 1)).toNat)) + ((Ah ((i).toNat)) * (10 - a)))) (by omega) (by exact ts_step hi.1 hF (fun r _ => up_in (z := i + 1) (by omega) r) (fun r _ => up_in (z := i - 1) (by omega) r)) (by omega) _ _ _ hP hD hS (lv_sub hl [0, 1, 2] rfl)
  exact lp_10 ((25 - (0 : Int)).toNat + 1) 0 F2_1 (by omega) (by intro r hr; rw [hu5 r hr]; unfold tsT; rw [if_neg (by omega), if_neg (by omega)]; rfl) (Nat.lt_succ_self _) _ _ _ hP hD hS (lv_sub hl [0, 1, 2] rfl)
abbrev rm_c_X1_stops : Room := { frames := 2, cells := 0, slots := 0, locals := 70 }
set_option maxHeartbeats 4000000 in
set_option maxRecDepth 100000 in
theorem c_X1_stops (l : Launch) (G : Gx) (h0 : Nat) (a0 : Nat) (f0 : Nat) (Ah : Nat → Int) (Af : Nat → Int) (n : Int) (st : Int) (d : Int) (a : Int) (sz : Nat) (hn : 1 ≤ n ∧ n ≤ 12) (hst : 0 ≤ st ∧ st ≤ 4095) (hd : 1 ≤ d ∧ d ≤ 12) (ha : 0 ≤ a ∧ a ≤ 10) : Met l yX1_stops wsX1_stops rm_c_X1_stops (va_Pc [.ref h0, .int (iI n), .int (iI st), .int (iI d), .int (iI a)] (wr G ([(h0, .inr (2, [.ref a0, .ref f0])), (a0, .inl (G.2.1 1, 25, .inr (.inl (aL Ah)))), (f0, .inl (G.2.1 1, 25, .inr (.inl (aL Af))))]) sz)) (va_Ql (fun (rv : Int64) (u : (Nat → Int) × (Nat → Int)) => rv = (lI ((lkS st d a n.toNat).2)) ∧ (True)) (Bw G.1 vwCl (fun (u : (Nat → Int) × (Nat → Int)) => [(h0, .inr (2, [.ref a0, .ref f0])), (a0, .inl (G.2.1 1, 25, .inr (.inl (aL u.1)))), (f0, .inl (G.2.1 1, 25, .inr (.inl (aL u.2))))]) (va_A ([(h0, .inr (2, [.ref a0, .ref f0])), (a0, .inl (G.2.1 1, 25, .inr (.inl (aL Ah)))), (f0, .inl (G.2.1 1, 25, .inr (.inl (aL Af))))]) sz)) (va_A ([(h0, .inr (2, [.ref a0, .ref f0])), (a0, .inl (G.2.1 1, 25, .inr (.inl (aL Ah)))), (f0, .inl (G.2.1 1, 25, .inr (.inl (aL Af))))]) sz)) 0 0 (va_A ([(h0, .inr (2, [.ref a0, .ref f0])), (a0, .inl (G.2.1 1, 25, .inr (.inl (aL Ah)))), (f0, .inl (G.2.1 1, 25, .inr (.inl (aL Af))))]) sz) := by
  refine enW (Qc := fun A => (va_Ql (fun (rv : Int64) (u : (Nat → Int) × (Nat → Int)) => rv = (lI ((lkS st d a n.toNat).2)) ∧ (True)) (Bw G.1 vwCl (fun (u : (Nat → Int) × (Nat → Int)) => [(h0, .inr (2, [.ref a0, .ref f0])), (a0, .inl (G.2.1 1, 25, .inr (.inl (aL u.1)))), (f0, .inl (G.2.1 1, 25, .inr (.inl (aL u.2))))]) A) A)) (mc := 0) (ms := 0) (cc := cX1_stops) (maxL := 8) (ret := (some .long)) (C := RX1) [(0, .ref h0), (1, .int (iI n)), (2, .int (iI st)), (3, .int (iI d)), (4, .int (iI a))] (by decide) rfl rfl (Nat.le_of_ble_eq_true rfl) rfl ?_
  intro p e s m args below meth c ls A hx hb hr hml hown hts hlocks hin hP hK hD hT hN hA hS hl
  show W p l e rm_c_X1_stops s m args below meth c s.heap [] 0 0 _ (F0 m 0 ls [])
  refine lv_aload_n hx hb dX1_stops_0 rfl (lv_at hl 0 rfl) ?_
  refine va_get (D := G.1) (ci := 2) (v := .ref a0) (C := RX1) (T := TX1) (N := 2) hx hb hts (by decide +kernel) hown hK hP 0 rfl rfl 0 (by decide) (hts (.fieldLink RX1 9 "MilkFirst$Looking" "ahead" "[J") (by decide +kernel)) (fun _ h9 => h9) rfl dX1_stops_1 ?_
  refine lv_lconst (v := lI 0) hx hb dX1_stops_4 (by decide) ?_
  refine cWSv0 (As := [.ref a0, .long (lI 0)]) (rest := []) (wr0 := [(h0, .inr (2, [.ref a0, .ref f0])), (f0, .inl (G.2.1 1, 25, .inr (.inl (aL Af))))]) ⟨hx, hb, hml, hown, hts⟩ (c_J7_fill_d0a16 l G a0 25 Ah 0 s.heap.size (by omega)) (va_cwS 2 hts gX1_stops_J7_fill_d0a16 rfl rfl rfl (by decide +kernel) ⟨Nat.le_of_ble_eq_true rfl, Nat.le_of_ble_eq_true rfl⟩) rfl hl.1 rfl (Nat.le_of_ble_eq_true rfl) dX1_stops_5 ⟨Nat.le_of_ble_eq_true rfl, Nat.le_of_ble_eq_true rfl⟩ hP hD hK hT hN hS hA [1] [0, 2] rfl rfl (by decide) (by decide) (by decide) (fun u_1 hu_1 H locs hz_1 hP hD hS => ?_)
  generalize u_1 = F2_1 at *
  try dsimp only at hu_1
  have hP : va_P G.1 vwCl ([(h0, .inr (2, [.ref a0, .ref f0])), (f0, .inl (G.2.1 1, 25, .inr (.inl (aL Af)))), (a0, .inl (G.2.1 1, 25, .inr (.inl (aL F2_1))))]) H := hP
  have hD : va_D A ([(h0, .inr (2, [.ref a0, .ref f0])), (f0, .inl (G.2.1 1, 25, .inr (.inl (aL Af)))), (a0, .inl (G.2.1 1, 25, .inr (.inl (aL F2_1))))]) := hD
  have hu5 := hu_1
  refine lv_bipush (v := iI 12) hx hb dX1_stops_8 (by decide) ?_
  refine lv_aload_n hx hb dX1_stops_10 rfl (lv_at hl 0 rfl) ?_
  refine va_get (D := G.1) (ci := 2) (v := .ref a0) (C := RX1) (T := TX1) (N := 2) hx hb hts (by decide +kernel) hown hK hP 0 rfl rfl 0 (by decide) (hts (.fieldLink RX1 9 "MilkFirst$Looking" "ahead" "[J") (by decide +kernel)) (fun _ h9 => h9) rfl dX1_stops_11 ?_
  refine va_alen (v := iI 25) hx hb hK hP 2 1 rfl rfl (iI_N 25) dX1_stops_14 ?_
  refine w_icmp_ge (tgt := 26) hx hb dX1_stops_15 (by decide) (by decide) (by decide) (fun c_ => absurd c_ (by decide)) (fun _ => ?_)
  refine lv_aload_n hx hb dX1_stops_18 rfl (lv_at hl 0 rfl) ?_
  refine va_get (D := G.1) (ci := 2) (v := .ref a0) (C := RX1) (T := TX1) (N := 2) hx hb hts (by decide +kernel) hown hK hP 0 rfl rfl 0 (by decide) (hts (.fieldLink RX1 9 "MilkFirst$Looking" "ahead" "[J") (by decide +kernel)) (fun _ h9 => h9) rfl dX1_stops_19 ?_
  refine lv_bipush (v := iI 12) hx hb dX1_stops_22 (by decide) ?_
  refine lv_lconst (v := lI 1) hx hb dX1_stops_24 (by decide) ?_
  refine w_last hx hb hK hP hD hS 2 1 rfl rfl 12 rfl (by decide) (by decide) dX1_stops_25 (fun H locs hP hD hS => ?_)
  have hP : va_P G.1 vwCl ([(h0, .inr (2, [.ref a0, .ref f0])), (f0, .inl (G.2.1 1, 25, .inr (.inl (aL Af)))), (a0, .inl (G.2.1 1, 25, .inr (.inl (aL (va_up F2_1 12 1)))))]) H := hP
  have hD : va_D A ([(h0, .inr (2, [.ref a0, .ref f0])), (f0, .inl (G.2.1 1, 25, .inr (.inl (aL Af)))), (a0, .inl (G.2.1 1, 25, .inr (.inl (aL (va_up F2_1 12 1)))))]) := hD
  refine lv_lconst (v := lI 0) hx hb dX1_stops_26 (by decide) ?_
  refine lv_lstore (lv' := [(5, .long (lI 0)), (0, .ref h0), (1, .int (iI n)), (2, .int (iI st)), (3, .int (iI d)), (4, .int (iI a))]) hx hb dX1_stops_27 hl (by decide) rfl (fun ls hl => ?_)
  refine lv_iconst (v := iI 0) hx hb dX1_stops_29 rfl ?_
  refine lv_istore (lv' := [(7, .int (iI 0)), (5, .long (lI 0)), (0, .ref h0), (1, .int (iI n)), (2, .int (iI st)), (3, .int (iI d)), (4, .int (iI a))]) hx hb dX1_stops_30 hl (by decide) rfl (fun ls hl => ?_)
  have lp_32 : ∀ (μ32 : Nat) (i : Int) (sm : Int) (A2 : Nat → Int) (F2 : Nat → Int) (hi : 0 ≤ i ∧ i ≤ n) (hs : sm = (lkS st d a i.toNat).2) (hF : ∀ r : Nat, r < 25 → A2 r = (lkS st d a i.toNat).1 r) (hμ32 : (n - i).toNat < μ32) (H : Heap) (locs : List Loc) (ls : Array Slot) (hP : va_P G.1 vwCl ([(h0, .inr (2, [.ref a0, .ref f0])), (f0, .inl (G.2.1 1, 25, .inr (.inl (aL F2)))), (a0, .inl (G.2.1 1, 25, .inr (.inl (aL A2))))]) H) (hD : va_D A ([(h0, .inr (2, [.ref a0, .ref f0])), (f0, .inl (G.2.1 1, 25, .inr (.inl (aL F2)))), (a0, .inl (G.2.1 1, 25, .inr (.inl (aL A2))))])) (hS : va_S A s.heap H locs) (hl : lv_has ls 8 [(7, .int (iI i)), (5, .long (lI sm)), (0, .ref h0), (1, .int (iI n)), (2, .int (iI st)), (3, .int (iI d)), (4, .int (iI a))]), W p l e rm_c_X1_stops s m args below meth c H locs 0 0 (MQ below (va_Ql (fun (rv : Int64) (u : (Nat → Int) × (Nat → Int)) => rv = (lI ((lkS st d a n.toNat).2)) ∧ (True)) (Bw G.1 vwCl (fun (u : (Nat → Int) × (Nat → Int)) => [(h0, .inr (2, [.ref a0, .ref f0])), (a0, .inl (G.2.1 1, 25, .inr (.inl (aL u.1)))), (f0, .inl (G.2.1 1, 25, .inr (.inl (aL u.2))))]) A) A) args s 0 0 A) (F0 m 32 ls []) := by
    intro μ32
    induction μ32 with
    | zero => intro i sm A2 F2 hi hs hF hμ32; exact absurd hμ32 (Nat.not_lt_zero _)
    | succ μ32 ih32 =>
      intro i sm A2 F2 hi hs hF hμ32 H locs ls hP hD hS hl
      refine lv_iload hx hb dX1_stops_32 (lv_at hl 0 rfl) ?_
      refine lv_iload_n hx hb dX1_stops_34 rfl (lv_at hl 3 rfl) ?_
      refine w_icmp_ge (tgt := 85) hx hb dX1_stops_35 (by decide) (by omega) (by omega) (fun c_35_2 => ?_) (fun c_35_2 => ?_)
      · refine lv_lload hx hb dX1_stops_85 (lv_at hl 1 rfl) ?_
        exact rtWl hx hb hr hlocks dX1_stops_87 (A2, F2) (show (lI sm) = (lI ((lkS st d a n.toNat).2)) ∧ (True) from ⟨congrArg lI (by rw [hs, show i = n from by omega]), trivial⟩) (hP.sub [0, 2, 1] rfl) (hD.sub [0, 2, 1] (by decide) rfl) hS
      · refine lv_iload hx hb dX1_stops_38 (lv_at hl 0 rfl) ?_
        refine lv_bipush (v := iI 12) hx hb dX1_stops_40 (by decide) ?_
        refine w_icmp_ge (tgt := 85) hx hb dX1_stops_42 (by decide) (by omega) (by decide) (fun c_42_3 => absurd c_42_3 (by omega)) (fun c_42_3 => ?_)
        refine lv_aload_n hx hb dX1_stops_45 rfl (lv_at hl 2 rfl) ?_
        refine lv_iload hx hb dX1_stops_46 (lv_at hl 6 rfl) ?_
        refine cWVv0 (As := [.int (iI a)]) (rest := []) (wr0 := []) ⟨hx, hb, hml, hown, hts⟩ (c_X1_taste l G h0 a0 f0 A2 F2 a H.size (by omega)) (cwV 1 hts gX1_stops_X1_taste rfl rfl rfl (by decide +kernel) ⟨Nat.le_of_ble_eq_true rfl, Nat.le_of_ble_eq_true rfl⟩) rfl hl.1 rfl (Nat.le_of_ble_eq_true rfl) dX1_stops_48 ⟨Nat.le_of_ble_eq_true rfl, Nat.le_of_ble_eq_true rfl⟩ hP hD hK hT hN hS hA [0, 2, 1] [] rfl rfl (by decide) (by decide) (by decide) (ci := 2) rfl rfl (fun u_4 hu_4 H locs hz_4 hP hD hS => ?_)
        obtain ⟨A2_4, F2_4⟩ := u_4
        try dsimp only at hu_4
        have hP : va_P G.1 vwCl ([(h0, .inr (2, [.ref a0, .ref f0])), (a0, .inl (G.2.1 1, 25, .inr (.inl (aL A2_4)))), (f0, .inl (G.2.1 1, 25, .inr (.inl (aL F2_4))))]) H := hP
        have hD : va_D A ([(h0, .inr (2, [.ref a0, .ref f0])), (a0, .inl (G.2.1 1, 25, .inr (.inl (aL A2_4)))), (f0, .inl (G.2.1 1, 25, .inr (.inl (aL F2_4))))]) := hD
        have hz1 := hu_4
        refine lv_lload hx hb dX1_stops_51 (lv_at hl 1 rfl) ?_
        refine lv_ldc2 (v := lI 10) hx hb hown (show (Jvm.Cond.constantLong RX1 28 (lI 10)).before args s = true from (by rw [show (lI 10) = (10 : Int64) from by decide]; exact (hts (.constantLong RX1 28 (10)) (by decide +kernel)))) dX1_stops_53 ?_
        refine w_lmul hx hb dX1_stops_56 ?_
        refine lv_lstore (lv' := [(5, .long (lI (sm * 10))), (7, .int (iI i)), (0, .ref h0), (1, .int (iI n)), (2, .int (iI st)), (3, .int (iI d)), (4, .int (iI a))]) hx hb dX1_stops_57 hl (by decide) rfl (fun ls hl => ?_)
        refine lv_iload_n hx hb dX1_stops_59 rfl (lv_at hl 4 rfl) ?_
        refine lv_iload hx hb dX1_stops_60 (lv_at hl 1 rfl) ?_
        refine lv_ishr hx hb dX1_stops_62 ?_
        refine lv_iconst (v := iI 1) hx hb dX1_stops_63 rfl ?_
        refine lv_iand hx hb dX1_stops_64 ?_
        refine W.eq (g2 := F0 m 65 ls [.int (iI (bitZ st i))]) (by first | rfl | (rw [show (.int (((iI st) >>> ((iI i) &&& 31)) &&& (iI 1)) : Value) = .int (iI (bitZ st i)) from by exact congrArg Value.int (bit_sh (by omega) (by omega))])) ?_
        refine lv_iconst (v := iI 1) hx hb dX1_stops_65 rfl ?_
        refine w_icmp_ne (tgt := 79) hx hb dX1_stops_66 (by decide) (by have := bitZ_01 st i; omega) (by decide) (fun c_66_5 => ?_) (fun c_66_5 => ?_)
        · have hbt : bitZ st i ≠ 1 := by omega
          refine w_iinc (k := 1) (lv' := [(7, .int (iI (i + 1))), (5, .long (lI (sm * 10))), (0, .ref h0), (1, .int (iI n)), (2, .int (iI st)), (3, .int (iI d)), (4, .int (iI a))]) hx hb dX1_stops_79 hl rfl (by decide) rfl (fun ls hl => ?_)
          refine lv_goto (tgt := 32) hx hb dX1_stops_82 (by decide) ?_
          exact ih32 (i + 1) (sm * 10) A2_4 F2_4 (by omega) (by exact lk_s0 hi.1 hs hbt) (by exact lk_f0 hi.1 hF hz1 hbt) (by omega) _ _ _ (hP.sub [0, 2, 1] rfl) (hD.sub [0, 2, 1] (by decide) rfl) hS (lv_sub hl [0, 1, 2, 3, 4, 5, 6] rfl)
        · have hbt : bitZ st i = 1 := by omega
          refine lv_lload hx hb dX1_stops_69 (lv_at hl 0 rfl) ?_
          refine lv_aload_n hx hb dX1_stops_71 rfl (lv_at hl 2 rfl) ?_
          refine lv_iload_n hx hb dX1_stops_72 rfl (lv_at hl 5 rfl) ?_
          refine cWVl0 (As := [.int (iI d)]) (rest := [.long (lI (sm * 10))]) (wr0 := [(f0, .inl (G.2.1 1, 25, .inr (.inl (aL F2_4))))]) ⟨hx, hb, hml, hown, hts⟩ (c_X1_stopFrom l G h0 a0 f0 A2_4 d H.size (by omega)) (cwV 1 hts gX1_stops_X1_stopFrom rfl rfl rfl (by decide +kernel) ⟨Nat.le_of_ble_eq_true rfl, Nat.le_of_ble_eq_true rfl⟩) rfl hl.1 rfl (Nat.le_of_ble_eq_true rfl) dX1_stops_73 ⟨Nat.le_of_ble_eq_true rfl, Nat.le_of_ble_eq_true rfl⟩ hP hD hK hT hN hS hA [0, 1] [2] rfl rfl (by decide) (by decide) (by decide) (ci := 2) rfl rfl (fun r_ u_6 hu_6 H locs hz_6 hP hD hS => ?_)
          generalize u_6 = A2_6 at *
          obtain ⟨rfl, hu_6⟩ := hu_6
          try dsimp only at hu_6
          have hP : va_P G.1 vwCl ([(f0, .inl (G.2.1 1, 25, .inr (.inl (aL F2_4)))), (h0, .inr (2, [.ref a0, .ref f0])), (a0, .inl (G.2.1 1, 25, .inr (.inl (aL A2_6))))]) H := hP
          have hD : va_D A ([(f0, .inl (G.2.1 1, 25, .inr (.inl (aL F2_4)))), (h0, .inr (2, [.ref a0, .ref f0])), (a0, .inl (G.2.1 1, 25, .inr (.inl (aL A2_6))))]) := hD
          have hz2 := hu_6
          refine w_ladd hx hb dX1_stops_76 ?_
          refine lv_lstore (lv' := [(5, .long (lI ((sm * 10) + (spS A2_4 d)))), (7, .int (iI i)), (0, .ref h0), (1, .int (iI n)), (2, .int (iI st)), (3, .int (iI d)), (4, .int (iI a))]) hx hb dX1_stops_77 hl (by decide) rfl (fun ls hl => ?_)
          refine w_iinc (k := 1) (lv' := [(7, .int (iI (i + 1))), (5, .long (lI ((sm * 10) + (spS A2_4 d)))), (0, .ref h0), (1, .int (iI n)), (2, .int (iI st)), (3, .int (iI d)), (4, .int (iI a))]) hx hb dX1_stops_79 hl rfl (by decide) rfl (fun ls hl => ?_)
          refine lv_goto (tgt := 32) hx hb dX1_stops_82 (by decide) ?_
          exact ih32 (i + 1) ((sm * 10) + (spS A2_4 d)) A2_6 F2_4 (by omega) (by exact lk_s1 hi.1 hd hs hF hz1 hbt) (by exact lk_f1 hi.1 hF hz1 hz2 hbt) (by omega) _ _ _ (hP.sub [1, 0, 2] rfl) (hD.sub [1, 0, 2] (by decide) rfl) hS (lv_sub hl [0, 1, 2, 3, 4, 5, 6] rfl)
  exact lp_32 ((n - (0 : Int)).toNat + 1) 0 0 (va_up F2_1 12 1) Af (by omega) (by rfl) (by intro r hr; show _ = if r = 12 then 1 else 0; by_cases q : r = 12; (subst q; rw [va_up_self, if_pos rfl]); (rw [va_up_ne _ _ q, if_neg q, hu5 r hr])) (Nat.lt_succ_self _) _ _ _ hP hD hS (lv_sub hl [0, 1, 2, 3, 4, 5, 6] rfl)
