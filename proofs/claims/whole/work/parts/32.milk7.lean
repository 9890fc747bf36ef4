abbrev rm_c_J7_copyOf_59c91 : Room := { frames := 1, cells := 1, slots := 40, locals := 48 }
set_option maxHeartbeats 4000000 in
set_option maxRecDepth 100000 in
theorem c_J7_copyOf_59c91 (l : Launch) (G : Gx) (k0 : Nat) (C : Nat → Int) (n : Int) (sz : Nat) (hn : 0 ≤ n ∧ n ≤ 40) : Met l yJ7_copyOf_59c91 wsJ7_copyOf_59c91 rm_c_J7_copyOf_59c91 (va_Pc [.ref k0, .int (iI n)] (wr G ([(k0, .inl (G.2.1 0, 40, .inl (aI C)))]) sz)) (va_Qr (fun (u : Nat × (Nat → Int)) => ∀ j : Nat, (j : Int) < n → u.2 j = C j) (Bwr G.1 vwCl (fun (u : Nat × (Nat → Int)) => [(k0, .inl (G.2.1 0, 40, .inl (aI C))), (u.1, .inl (G.2.1 0, n.toNat, .inl (aI u.2)))]) (fun (u : Nat × (Nat → Int)) => u.1) (va_A ([(k0, .inl (G.2.1 0, 40, .inl (aI C)))]) sz)) (va_A ([(k0, .inl (G.2.1 0, 40, .inl (aI C)))]) sz)) 1 40 (va_A ([(k0, .inl (G.2.1 0, 40, .inl (aI C)))]) sz) := by
  refine enW (y := yJ7_copyOf_59c91) (ws := wsJ7_copyOf_59c91) (As := [.ref k0, .int (iI n)]) (Qc := fun A => (va_Qr (fun (u : Nat × (Nat → Int)) => ∀ j : Nat, (j : Int) < n → u.2 j = C j) (Bwr G.1 vwCl (fun (u : Nat × (Nat → Int)) => [(k0, .inl (G.2.1 0, 40, .inl (aI C))), (u.1, .inl (G.2.1 0, n.toNat, .inl (aI u.2)))]) (fun (u : Nat × (Nat → Int)) => u.1) A) A)) (mc := 1) (ms := 40) (cc := cJ7_copyOf_59c91) (maxL := 3) (ret := (some (.array .int))) (C := RJ7) [(0, .ref k0), (1, .int (iI n))] (by decide) rfl rfl (Nat.le_of_ble_eq_true rfl) rfl ?_
  intro p e s m args below meth c ls A hx hb hr hml hown hts hlocks hin hP hK hD hT hN hA hS hl
  show W p l e rm_c_J7_copyOf_59c91 s m args below meth c s.heap [] 0 0 _ (F0 m 0 ls [])
  refine lv_iload_n hx hb dJ7_copyOf_59c91_0 rfl (lv_at hl 1 rfl) ?_
  refine lv_aload_n hx hb dJ7_copyOf_59c91_1 rfl (lv_at hl 0 rfl) ?_
  refine va_alen (v := iI 40) hx hb hK hP 0 0 rfl rfl (iI_N 40) dJ7_copyOf_59c91_2 ?_
  refine w_icmp_ne (tgt := 14) hx hb dJ7_copyOf_59c91_3 (by decide) (by omega) (by decide) (fun c_3_1 => ?_) (fun c_3_1 => ?_)
  · refine lv_iload_n hx hb dJ7_copyOf_59c91_14 rfl (lv_at hl 1 rfl) ?_
    refine w_newI hx hb (hts (.arrayClass .int) (by decide +kernel)) hK hP hD hS hA n.toNat (by first | rfl | omega) (by omega) (Nat.le_of_ble_eq_true rfl) (by show _ ≤ 40; omega) dJ7_copyOf_59c91_15 (fun q15_2 H hP hD hS => ?_)
    refine W.widen (k := 1) (n := 40) (by omega) (by omega) ?_
    have hP : va_P G.1 vwCl ([(k0, .inl (G.2.1 0, 40, .inl (aI C))), (q15_2, .inl (G.2.1 0, n.toNat, .inl (aI (fun _ => 0))))]) H := hP
    have hD : va_D A ([(k0, .inl (G.2.1 0, 40, .inl (aI C))), (q15_2, .inl (G.2.1 0, n.toNat, .inl (aI (fun _ => 0))))]) := hD
    refine lv_astore_n (lv' := [(2, .ref q15_2), (0, .ref k0), (1, .int (iI n))]) hx hb dJ7_copyOf_59c91_17 rfl hl (by decide) rfl (fun ls hl => ?_)
    refine lv_aload_n hx hb dJ7_copyOf_59c91_18 rfl (lv_at hl 1 rfl) ?_
    refine lv_iconst (v := iI 0) hx hb dJ7_copyOf_59c91_19 rfl ?_
    refine lv_aload_n hx hb dJ7_copyOf_59c91_20 rfl (lv_at hl 0 rfl) ?_
    refine lv_iconst (v := iI 0) hx hb dJ7_copyOf_59c91_21 rfl ?_
    refine lv_aload_n hx hb dJ7_copyOf_59c91_22 rfl (lv_at hl 1 rfl) ?_
    refine va_alen (v := iI 40) hx hb hK hP 0 0 rfl rfl (iI_N 40) dJ7_copyOf_59c91_23 ?_
    refine lv_iload_n hx hb dJ7_copyOf_59c91_24 rfl (lv_at hl 2 rfl) ?_
    refine w_mmin hx hb (hml.trans hl.1.symm) hown (hts (.methodLink RJ7 304 Lib.Math.min.name) (by decide +kernel)) (hts (.static Lib.Math.min.name) (by decide +kernel)) (hts (.initialized "java/lang/Math") (by decide +kernel)) (hts (.code Lib.Math.min.name Lib.Math.min.code 2 (some .int)) (by decide +kernel)) (Nat.le_of_ble_eq_true rfl) (Nat.le_of_ble_eq_true rfl) (Nat.le_of_ble_eq_true rfl) (Nat.le_of_ble_eq_true rfl) (by decide) (by omega) dJ7_copyOf_59c91_25 ?_
    refine w_copyi hx hb (hml.trans hl.1.symm) hown (hts (.methodLink RJ7 150 arraycopyName) (by decide +kernel)) (hts (.native arraycopyName) (by decide +kernel)) (hts (.static arraycopyName) (by decide +kernel)) (hts (.initialized "java/lang/System") (by decide +kernel)) hK hP hD hS 0 1 rfl rfl n.toNat (by omega) (by omega) (by omega) (by omega) (Nat.le_of_ble_eq_true rfl) (Nat.le_of_ble_eq_true rfl) dJ7_copyOf_59c91_28 (fun H locs hP hD hS => ?_)
    have hP : va_P G.1 vwCl ([(k0, .inl (G.2.1 0, 40, .inl (aI C))), (q15_2, .inl (G.2.1 0, n.toNat, .inl (aI (va_cpy C (fun _ => 0) 0 0 n.toNat))))]) H := hP
    have hD : va_D A ([(k0, .inl (G.2.1 0, 40, .inl (aI C))), (q15_2, .inl (G.2.1 0, n.toNat, .inl (aI (va_cpy C (fun _ => 0) 0 0 n.toNat))))]) := hD
    refine lv_aload_n hx hb dJ7_copyOf_59c91_31 rfl (lv_at hl 0 rfl) ?_
    exact rtWr hx hb hr hlocks (Or.inr ⟨_, rfl⟩) dJ7_copyOf_59c91_32 (q15_2, va_cpy C (fun _ => 0) 0 0 n.toNat) (show ∀ j : Nat, (j : Int) < n → (va_cpy C (fun _ => 0) 0 0 n.toNat) j = C j from (fun j hj => by unfold va_cpy; rw [if_pos (by omega), show 0 + (j - 0) = j from by omega])) hP hD hS
  · refine lv_aload_n hx hb dJ7_copyOf_59c91_6 rfl (lv_at hl 0 rfl) ?_
    refine va_clone (ad := "[I") hx hb (hml.trans hl.1.symm) hown (hts (.methodLink RJ7 316 ⟨"[I", "clone", "()Ljava/lang/Object;"⟩) (by decide +kernel)) (hts (.sameMethod "[I" "java/lang/Object" "clone" "()Ljava/lang/Object;") (by decide +kernel)) (hts (.native ⟨"java/lang/Object", "clone", "()Ljava/lang/Object;"⟩) (by decide +kernel)) (hts (.instanceMethod ⟨"java/lang/Object", "clone", "()Ljava/lang/Object;"⟩) (by decide +kernel)) (hts (.selects "[I" ⟨"[I", "clone", "()Ljava/lang/Object;"⟩ ⟨"java/lang/Object", "clone", "()Ljava/lang/Object;"⟩) (by decide +kernel)) (hN.1 (.castable "[I" "java/lang/Cloneable") (by decide +kernel)) hK hP hD hS hA 0 0 rfl rfl (hK.2 0 (G.2.1 0, .int) rfl).2 (fun i v hv => fit_I hv) (Nat.le_of_ble_eq_true rfl) (Nat.le_of_ble_eq_true rfl) (Nat.le_of_ble_eq_true rfl) (by show _ ≤ 40; omega) dJ7_copyOf_59c91_7 (fun q7_3 H _ hP hD hS => ?_)
    refine W.widen (k := 1) (n := 40) (by omega) (by show _ ≤ 40; first | exact Nat.le_refl _ | omega) ?_
    have hP : va_P G.1 vwCl ([(k0, .inl (G.2.1 0, 40, .inl (aI C))), (q7_3, .inl (G.2.1 0, 40, .inl (aI C)))]) H := hP
    have hD : va_D A ([(k0, .inl (G.2.1 0, 40, .inl (aI C))), (q7_3, .inl (G.2.1 0, 40, .inl (aI C)))]) := hD
    refine va_castA hx hb hown (hts (.classLink RJ7 317 "[I") (by decide +kernel)) hP 1 rfl (hK.2 0 (G.2.1 0, .int) rfl).2 dJ7_copyOf_59c91_10 ?_
    have hwe : ([(k0, .inl (G.2.1 0, 40, .inl (aI C))), (q7_3, .inl (G.2.1 0, 40, .inl (aI C)))] : va_W) = [(k0, .inl (G.2.1 0, 40, .inl (aI C))), (q7_3, .inl (G.2.1 0, n.toNat, .inl (aI C)))] := by rw [show n.toNat = 40 from by omega]
    have hP9 : va_P G.1 vwCl ([(k0, .inl (G.2.1 0, 40, .inl (aI C))), (q7_3, .inl (G.2.1 0, n.toNat, .inl (aI C)))]) H := hwe ▸ hP
    have hD9 : va_D A ([(k0, .inl (G.2.1 0, 40, .inl (aI C))), (q7_3, .inl (G.2.1 0, n.toNat, .inl (aI C)))]) := hwe ▸ hD
    exact rtWr hx hb hr hlocks (Or.inr ⟨_, rfl⟩) dJ7_copyOf_59c91_13 (q7_3, C) (show ∀ j : Nat, (j : Int) < n → C j = C j from (fun j _ => rfl)) hP9 hD9 hS
abbrev rm_c_X7_codeRead : Room := { frames := 2, cells := 1, slots := 40, locals := 70 }
set_option maxHeartbeats 4000000 in
set_option maxRecDepth 100000 in
theorem c_X7_codeRead (l : Launch) (G : Gx) (h0 : Nat) (t0 : Nat) (k0 : Nat) (C : Nat → Int) (tl : Int) (x : Tp) (sz : Nat) (hok : okT tl x) : Met l yX7_codeRead wsX7_codeRead rm_c_X7_codeRead (va_Pc [.ref h0] (wr G ([(h0, .inr (6, [.ref t0, .ref k0, .int (iI tl), .int (iI ((x.2.2.length : Nat) : Int)), .int (iI x.1), .int (iI x.2.1)])), (k0, .inl (G.2.1 0, 40, .inl (aI C)))]) sz)) (va_Qr (fun (u : Nat × (Nat → Int)) => ∀ j : Nat, j < x.2.2.length → u.2 j = C j) (Bwr G.1 vwCl (fun (u : Nat × (Nat → Int)) => [(h0, .inr (6, [.ref t0, .ref k0, .int (iI tl), .int (iI ((x.2.2.length : Nat) : Int)), .int (iI x.1), .int (iI x.2.1)])), (k0, .inl (G.2.1 0, 40, .inl (aI C))), (u.1, .inl (G.2.1 0, x.2.2.length, .inl (aI u.2)))]) (fun (u : Nat × (Nat → Int)) => u.1) (va_A ([(h0, .inr (6, [.ref t0, .ref k0, .int (iI tl), .int (iI ((x.2.2.length : Nat) : Int)), .int (iI x.1), .int (iI x.2.1)])), (k0, .inl (G.2.1 0, 40, .inl (aI C)))]) sz)) (va_A ([(h0, .inr (6, [.ref t0, .ref k0, .int (iI tl), .int (iI ((x.2.2.length : Nat) : Int)), .int (iI x.1), .int (iI x.2.1)])), (k0, .inl (G.2.1 0, 40, .inl (aI C)))]) sz)) 1 40 (va_A ([(h0, .inr (6, [.ref t0, .ref k0, .int (iI tl), .int (iI ((x.2.2.length : Nat) : Int)), .int (iI x.1), .int (iI x.2.1)])), (k0, .inl (G.2.1 0, 40, .inl (aI C)))]) sz) := by
  refine enW (y := yX7_codeRead) (ws := wsX7_codeRead) (As := [.ref h0]) (Qc := fun A => (va_Qr (fun (u : Nat × (Nat → Int)) => ∀ j : Nat, j < x.2.2.length → u.2 j = C j) (Bwr G.1 vwCl (fun (u : Nat × (Nat → Int)) => [(h0, .inr (6, [.ref t0, .ref k0, .int (iI tl), .int (iI ((x.2.2.length : Nat) : Int)), .int (iI x.1), .int (iI x.2.1)])), (k0, .inl (G.2.1 0, 40, .inl (aI C))), (u.1, .inl (G.2.1 0, x.2.2.length, .inl (aI u.2)))]) (fun (u : Nat × (Nat → Int)) => u.1) A) A)) (mc := 1) (ms := 40) (cc := cX7_codeRead) (maxL := 1) (ret := (some (.array .int))) (C := RX7) [(0, .ref h0)] (by decide) rfl rfl (Nat.le_of_ble_eq_true rfl) rfl ?_
  intro p e s m args below meth c ls A hx hb hr hml hown hts hlocks hin hP hK hD hT hN hA hS hl
  show W p l e rm_c_X7_codeRead s m args below meth c s.heap [] 0 0 _ (F0 m 0 ls [])
  have hok2 := hok
  unfold okT at hok2
  refine lv_aload_n hx hb dX7_codeRead_0 rfl (lv_at hl 0 rfl) ?_
  refine va_get (D := G.1) (ci := 6) (v := .ref k0) (C := RX7) (T := TX7) (N := 6) hx hb hts (by decide +kernel) hown hK hP 0 rfl rfl 1 (by decide) (hts (.fieldLink RX7 15 "MilkFirst$Tape" "code" "[I") (by decide +kernel)) (fun _ h9 => h9) rfl dX7_codeRead_1 ?_
  refine lv_aload_n hx hb dX7_codeRead_4 rfl (lv_at hl 0 rfl) ?_
  refine va_get (D := G.1) (ci := 6) (v := .int (iI ((x.2.2.length : Nat) : Int))) (C := RX7) (T := TX7) (N := 6) hx hb hts (by decide +kernel) hown hK hP 0 rfl rfl 3 (by decide) (hts (.fieldLink RX7 22 "MilkFirst$Tape" "codeLength" "I") (by decide +kernel)) (fun _ h9 => h9) rfl dX7_codeRead_5 ?_
  refine lv_iconst (v := iI 0) hx hb dX7_codeRead_8 rfl ?_
  refine w_mmax hx hb (hml.trans hl.1.symm) hown (hts (.methodLink RX7 42 Lib.Math.max.name) (by decide +kernel)) (hts (.static Lib.Math.max.name) (by decide +kernel)) (hts (.initialized "java/lang/Math") (by decide +kernel)) (hts (.code Lib.Math.max.name Lib.Math.max.code 2 (some .int)) (by decide +kernel)) (Nat.le_of_ble_eq_true rfl) (Nat.le_of_ble_eq_true rfl) (Nat.le_of_ble_eq_true rfl) (Nat.le_of_ble_eq_true rfl) (by omega) (by decide) dX7_codeRead_9 ?_
  refine cWSr0 (As := [.ref k0, .int (iI (max ((x.2.2.length : Nat) : Int) 0))]) (rest := []) (wr0 := [(h0, .inr (6, [.ref t0, .ref k0, .int (iI tl), .int (iI ((x.2.2.length : Nat) : Int)), .int (iI x.1), .int (iI x.2.1)]))]) ⟨hx, hb, hml, hown, hts⟩ (c_J7_copyOf_59c91 l G k0 C (max ((x.2.2.length : Nat) : Int) 0) s.heap.size (by omega)) (va_cwS 2 hts gX7_codeRead_J7_copyOf_59c91 rfl rfl rfl (by decide +kernel) ⟨Nat.le_of_ble_eq_true rfl, Nat.le_of_ble_eq_true rfl⟩) rfl hl.1 rfl (Nat.le_of_ble_eq_true rfl) dX7_codeRead_12 ⟨Nat.le_of_ble_eq_true rfl, Nat.le_of_ble_eq_true rfl⟩ hP hD hK hT hN hS hA [1] [0] rfl rfl (by decide) (by decide) (by decide) (fun u_1 hu_1 H locs hz_1 hP hD hS => ?_)
  obtain ⟨q1_1, C2_1⟩ := u_1
  try dsimp only at hu_1
  have hP : va_P G.1 vwCl ([(h0, .inr (6, [.ref t0, .ref k0, .int (iI tl), .int (iI ((x.2.2.length : Nat) : Int)), .int (iI x.1), .int (iI x.2.1)])), (k0, .inl (G.2.1 0, 40, .inl (aI C))), (q1_1, .inl (G.2.1 0, (max ((x.2.2.length : Nat) : Int) 0).toNat, .inl (aI C2_1)))]) H := hP
  have hD : va_D A ([(h0, .inr (6, [.ref t0, .ref k0, .int (iI tl), .int (iI ((x.2.2.length : Nat) : Int)), .int (iI x.1), .int (iI x.2.1)])), (k0, .inl (G.2.1 0, 40, .inl (aI C))), (q1_1, .inl (G.2.1 0, (max ((x.2.2.length : Nat) : Int) 0).toNat, .inl (aI C2_1)))]) := hD
  have hz9 := hu_1
  have hwe : ([(h0, .inr (6, [.ref t0, .ref k0, .int (iI tl), .int (iI ((x.2.2.length : Nat) : Int)), .int (iI x.1), .int (iI x.2.1)])), (k0, .inl (G.2.1 0, 40, .inl (aI C))), (q1_1, .inl (G.2.1 0, (max ((x.2.2.length : Nat) : Int) 0).toNat, .inl (aI C2_1)))] : va_W) = [(h0, .inr (6, [.ref t0, .ref k0, .int (iI tl), .int (iI ((x.2.2.length : Nat) : Int)), .int (iI x.1), .int (iI x.2.1)])), (k0, .inl (G.2.1 0, 40, .inl (aI C))), (q1_1, .inl (G.2.1 0, x.2.2.length, .inl (aI C2_1)))] := by rw [show (max ((x.2.2.length : Nat) : Int) 0).toNat = x.2.2.length from by omega]
  have hP9 : va_P G.1 vwCl ([(h0, .inr (6, [.ref t0, .ref k0, .int (iI tl), .int (iI ((x.2.2.length : Nat) : Int)), .int (iI x.1), .int (iI x.2.1)])), (k0, .inl (G.2.1 0, 40, .inl (aI C))), (q1_1, .inl (G.2.1 0, x.2.2.length, .inl (aI C2_1)))]) H := hwe ▸ hP
  have hD9 : va_D A ([(h0, .inr (6, [.ref t0, .ref k0, .int (iI tl), .int (iI ((x.2.2.length : Nat) : Int)), .int (iI x.1), .int (iI x.2.1)])), (k0, .inl (G.2.1 0, 40, .inl (aI C))), (q1_1, .inl (G.2.1 0, x.2.2.length, .inl (aI C2_1)))]) := hwe ▸ hD
  exact rtWr hx hb hr hlocks (Or.inr ⟨_, rfl⟩) dX7_codeRead_15 (q1_1, C2_1) (show ∀ j : Nat, j < x.2.2.length → C2_1 j = C j from (fun j hj => hz9 j (by omega))) hP9 hD9 hS
abbrev rm_c_X7_take : Room := { frames := 0, cells := 0, slots := 0, locals := 0 }
set_option maxHeartbeats 4000000 in
set_option maxRecDepth 100000 in
theorem c_X7_take (l : Launch) (G : Gx) (tp0 : Nat) (T : Nat → Int) (v : Int) (tt0 : Nat) (tk0 : Nat) (tl : Int) (cl : Int) (ta : Int) (fl : Int) (sz : Nat) (htl : 0 ≤ tl ∧ tl < 40) : Met l yX7_take wsX7_take rm_c_X7_take (va_Pc [.ref tp0, .int (iI v)] (wr G ([(tp0, .inr (6, [.ref tt0, .ref tk0, .int (iI tl), .int (iI cl), .int (iI ta), .int (iI fl)])), (tt0, .inl (G.2.1 0, 40, .inl (aI T)))]) sz)) (va_Qv (fun (u : Unit) => True) (Bw G.1 vwCl (fun (u : Unit) => [(tp0, .inr (6, [.ref tt0, .ref tk0, .int (iI (tl + 1)), .int (iI cl), .int (iI ta), .int (iI fl)])), (tt0, .inl (G.2.1 0, 40, .inl (aI (va_up T tl.toNat v))))]) (va_A ([(tp0, .inr (6, [.ref tt0, .ref tk0, .int (iI tl), .int (iI cl), .int (iI ta), .int (iI fl)])), (tt0, .inl (G.2.1 0, 40, .inl (aI T)))]) sz)) (va_A ([(tp0, .inr (6, [.ref tt0, .ref tk0, .int (iI tl), .int (iI cl), .int (iI ta), .int (iI fl)])), (tt0, .inl (G.2.1 0, 40, .inl (aI T)))]) sz)) 0 0 (va_A ([(tp0, .inr (6, [.ref tt0, .ref tk0, .int (iI tl), .int (iI cl), .int (iI ta), .int (iI fl)])), (tt0, .inl (G.2.1 0, 40, .inl (aI T)))]) sz) := by
  refine enW (y := yX7_take) (ws := wsX7_take) (As := [.ref tp0, .int (iI v)]) (Qc := fun A => (va_Qv (fun (u : Unit) => True) (Bw G.1 vwCl (fun (u : Unit) => [(tp0, .inr (6, [.ref tt0, .ref tk0, .int (iI (tl + 1)), .int (iI cl), .int (iI ta), .int (iI fl)])), (tt0, .inl (G.2.1 0, 40, .inl (aI (va_up T tl.toNat v))))]) A) A)) (mc := 0) (ms := 0) (cc := cX7_take) (maxL := 2) (ret := none) (C := RX7) [(0, .ref tp0), (1, .int (iI v))] (by decide) rfl rfl (Nat.le_of_ble_eq_true rfl) rfl ?_
  intro p e s m args below meth c ls A hx hb hr hml hown hts hlocks hin hP hK hD hT hN hA hS hl
  show W p l e rm_c_X7_take s m args below meth c s.heap [] 0 0 _ (F0 m 0 ls [])
  refine lv_aload_n hx hb dX7_take_0 rfl (lv_at hl 0 rfl) ?_
  refine va_get (D := G.1) (ci := 6) (v := .int (iI tl)) (C := RX7) (T := TX7) (N := 6) hx hb hts (by decide +kernel) hown hK hP 0 rfl rfl 2 (by decide) (hts (.fieldLink RX7 18 "MilkFirst$Tape" "textLength" "I") (by decide +kernel)) (fun _ h9 => h9) rfl dX7_take_1 ?_
  refine w_if_lt (tgt := 39) hx hb dX7_take_4 (by decide) (by omega) (fun c_4_1 => absurd c_4_1 (by omega)) (fun c_4_1 => ?_)
  refine lv_aload_n hx hb dX7_take_7 rfl (lv_at hl 0 rfl) ?_
  refine va_get (D := G.1) (ci := 6) (v := .int (iI tl)) (C := RX7) (T := TX7) (N := 6) hx hb hts (by decide +kernel) hown hK hP 0 rfl rfl 2 (by decide) (hts (.fieldLink RX7 18 "MilkFirst$Tape" "textLength" "I") (by decide +kernel)) (fun _ h9 => h9) rfl dX7_take_8 ?_
  refine lv_aload_n hx hb dX7_take_11 rfl (lv_at hl 0 rfl) ?_
  refine va_get (D := G.1) (ci := 6) (v := .ref tt0) (C := RX7) (T := TX7) (N := 6) hx hb hts (by decide +kernel) hown hK hP 0 rfl rfl 0 (by decide) (hts (.fieldLink RX7 9 "MilkFirst$Tape" "text" "[I") (by decide +kernel)) (fun _ h9 => h9) rfl dX7_take_12 ?_
  refine va_alen (v := iI 40) hx hb hK hP 1 0 rfl rfl (iI_N 40) dX7_take_15 ?_
  refine w_icmp_ge (tgt := 39) hx hb dX7_take_16 (by decide) (by omega) (by decide) (fun c_16_2 => absurd c_16_2 (by omega)) (fun c_16_2 => ?_)
  refine lv_aload_n hx hb dX7_take_19 rfl (lv_at hl 0 rfl) ?_
  refine va_get (D := G.1) (ci := 6) (v := .ref tt0) (C := RX7) (T := TX7) (N := 6) hx hb hts (by decide +kernel) hown hK hP 0 rfl rfl 0 (by decide) (hts (.fieldLink RX7 9 "MilkFirst$Tape" "text" "[I") (by decide +kernel)) (fun _ h9 => h9) rfl dX7_take_20 ?_
  refine lv_aload_n hx hb dX7_take_23 rfl (lv_at hl 0 rfl) ?_
  refine va_get (D := G.1) (ci := 6) (v := .int (iI tl)) (C := RX7) (T := TX7) (N := 6) hx hb hts (by decide +kernel) hown hK hP 0 rfl rfl 2 (by decide) (hts (.fieldLink RX7 18 "MilkFirst$Tape" "textLength" "I") (by decide +kernel)) (fun _ h9 => h9) rfl dX7_take_24 ?_
  refine lv_iload_n hx hb dX7_take_27 rfl (lv_at hl 1 rfl) ?_
  refine w_iast hx hb hK hP hD hS 1 0 rfl rfl ((tl).toNat) (by omega) (by omega) (by decide) dX7_take_28 (fun H locs hP hD hS => ?_)
  have hP : va_P G.1 vwCl ([(tp0, .inr (6, [.ref tt0, .ref tk0, .int (iI tl), .int (iI cl), .int (iI ta), .int (iI fl)])), (tt0, .inl (G.2.1 0, 40, .inl (aI (va_up T ((tl).toNat) v))))]) H := hP
  have hD : va_D A ([(tp0, .inr (6, [.ref tt0, .ref tk0, .int (iI tl), .int (iI cl), .int (iI ta), .int (iI fl)])), (tt0, .inl (G.2.1 0, 40, .inl (aI (va_up T ((tl).toNat) v))))]) := hD
  refine lv_aload_n hx hb dX7_take_29 rfl (lv_at hl 0 rfl) ?_
  refine lv_dup hx hb dX7_take_30 rfl ?_
  refine va_get (D := G.1) (ci := 6) (v := .int (iI tl)) (C := RX7) (T := TX7) (N := 6) hx hb hts (by decide +kernel) hown hK hP 0 rfl rfl 2 (by decide) (hts (.fieldLink RX7 18 "MilkFirst$Tape" "textLength" "I") (by decide +kernel)) (fun _ h9 => h9) rfl dX7_take_31 ?_
  refine lv_iconst (v := iI 1) hx hb dX7_take_34 rfl ?_
  refine w_iadd hx hb dX7_take_35 ?_
  refine va_put (D := G.1) (ci := 6) (v := .int (iI (tl + 1))) (ty := .int) (C := RX7) (T := TX7) (N := 6) hx hb hts (by decide +kernel) tyX7 tyX7_ok nmX7 hown hK hP hD hS 0 rfl rfl 2 (by decide) (hts (.fieldLink RX7 18 "MilkFirst$Tape" "textLength" "I") (by decide +kernel)) (fun _ h9 => h9) rfl (by decide +kernel) rfl rfl (Nat.le_of_ble_eq_true rfl) dX7_take_36 (fun H locs hP hD hS => ?_)
  have hP : va_P G.1 vwCl ([(tp0, .inr (6, [.ref tt0, .ref tk0, .int (iI (tl + 1)), .int (iI cl), .int (iI ta), .int (iI fl)])), (tt0, .inl (G.2.1 0, 40, .inl (aI (va_up T ((tl).toNat) v))))]) H := hP
  have hD : va_D A ([(tp0, .inr (6, [.ref tt0, .ref tk0, .int (iI (tl + 1)), .int (iI cl), .int (iI ta), .int (iI fl)])), (tt0, .inl (G.2.1 0, 40, .inl (aI (va_up T ((tl).toNat) v))))]) := hD
  have hwe : ([(tp0, .inr (6, [.ref tt0, .ref tk0, .int (iI (tl + 1)), .int (iI cl), .int (iI ta), .int (iI fl)])), (tt0, .inl (G.2.1 0, 40, .inl (aI (va_up T ((tl).toNat) v))))] : va_W) = [(tp0, .inr (6, [.ref tt0, .ref tk0, .int (iI (tl + 1)), .int (iI cl), .int (iI ta), .int (iI fl)])), (tt0, .inl (G.2.1 0, 40, .inl (aI (va_up T tl.toNat v))))] := by rfl
  have hP9 : va_P G.1 vwCl ([(tp0, .inr (6, [.ref tt0, .ref tk0, .int (iI (tl + 1)), .int (iI cl), .int (iI ta), .int (iI fl)])), (tt0, .inl (G.2.1 0, 40, .inl (aI (va_up T tl.toNat v))))]) H := hwe ▸ hP
  have hD9 : va_D A ([(tp0, .inr (6, [.ref tt0, .ref tk0, .int (iI (tl + 1)), .int (iI cl), .int (iI ta), .int (iI fl)])), (tt0, .inl (G.2.1 0, 40, .inl (aI (va_up T tl.toNat v))))]) := hwe ▸ hD
  exact rtWv hx hb hr hlocks dX7_take_39 () trivial hP9 hD9 hS
