abbrev rm_c_Jx4a65c_size_8abf5 : Room := { frames := 0, cells := 0, slots := 0, locals := 0 }
set_option maxHeartbeats 4000000 in
set_option maxRecDepth 100000 in
theorem c_Jx4a65c_size_8abf5 (l : Launch) (G : Gx) (h0 : Nat) (ea : Nat) (md : Int) (n : Int) : Met l yJx4a65c_size_8abf5 wsJx4a65c_size_8abf5 rm_c_Jx4a65c_size_8abf5 (va_Pc [.ref h0] (rd G ([(h0, .inr (0, [.int (iI md), .ref ea, .int (iI n)]))]))) (vp_Si (fun rv => rv = (iI n))) 0 0 (fun _ => False) := by
  refine enR (cc := cJx4a65c_size_8abf5) (maxL := 1) (ret := (some .int)) (C := RJx4a65c) [(0, .ref h0)] (by decide) rfl rfl (Nat.le_of_ble_eq_true rfl) rfl ?_
  intro p e s m args below meth c ls hx hb hr hml hown hts hlocks hP hK hT hN hl
  have hS : va_S (fun _ => False) s.heap s.heap [] := va_S.rf
  show W p l e rm_c_Jx4a65c_size_8abf5 s m args below meth c s.heap [] 0 0 _ (F0 m 0 ls [])
  refine lv_aload_n hx hb dJx4a65c_size_8abf5_0 rfl (lv_at hl 0 rfl) ?_
  refine va_get (D := G.1) (ci := 0) (v := .int (iI n)) (C := RJx4a65c) (T := TJx4a65c) (N := 3) hx hb hts (by decide +kernel) hown hK hP 0 rfl rfl 2 (by decide) (hts (.fieldLink RJx4a65c 48 "java/util/ArrayList" "size" "I") (by decide +kernel)) (fun _ h9 => h9) rfl dJx4a65c_size_8abf5_1 ?_
  exact rtRi hx hb hr hlocks dJx4a65c_size_8abf5_4 rfl
abbrev rm_c_J3_checkIndex_8e157 : Room := { frames := 0, cells := 0, slots := 0, locals := 0 }
set_option maxHeartbeats 4000000 in
set_option maxRecDepth 100000 in
theorem c_J3_checkIndex_8e157 (l : Launch) (G : Gx) (i : Int) (n : Int) (hi : 0 ≤ i ∧ i < n ∧ n < 1000) : Met l yJ3_checkIndex_8e157 wsJ3_checkIndex_8e157 rm_c_J3_checkIndex_8e157 (va_Pc [.int (iI i), .int (iI n), .null] (rd G ([]))) (vp_Si (fun rv => rv = (iI i))) 0 0 (fun _ => False) := by
  refine enR (cc := cJ3_checkIndex_8e157) (maxL := 3) (ret := (some .int)) (C := RJ3) [(0, .int (iI i)), (1, .int (iI n)), (2, .null)] (by decide) rfl rfl (Nat.le_of_ble_eq_true rfl) rfl ?_
  intro p e s m args below meth c ls hx hb hr hml hown hts hlocks hP hK hT hN hl
  have hS : va_S (fun _ => False) s.heap s.heap [] := va_S.rf
  show W p l e rm_c_J3_checkIndex_8e157 s m args below meth c s.heap [] 0 0 _ (F0 m 0 ls [])
  refine lv_iload_n hx hb dJ3_checkIndex_8e157_0 rfl (lv_at hl 0 rfl) ?_
  refine w_if_lt (tgt := 9) hx hb dJ3_checkIndex_8e157_1 (by decide) (by omega) (fun c_1_1 => absurd c_1_1 (by omega)) (fun c_1_1 => ?_)
  refine lv_iload_n hx hb dJ3_checkIndex_8e157_4 rfl (lv_at hl 0 rfl) ?_
  refine lv_iload_n hx hb dJ3_checkIndex_8e157_5 rfl (lv_at hl 1 rfl) ?_
  refine w_icmp_lt (tgt := 16) hx hb dJ3_checkIndex_8e157_6 (by decide) (by omega) (by omega) (fun c_6_2 => ?_) (fun c_6_2 => absurd c_6_2 (by omega))
  refine lv_iload_n hx hb dJ3_checkIndex_8e157_16 rfl (lv_at hl 0 rfl) ?_
  exact rtRi hx hb hr hlocks dJ3_checkIndex_8e157_17 rfl
abbrev rm_c_J15_checkIndex_7cf53 : Room := { frames := 1, cells := 0, slots := 0, locals := 22 }
set_option maxHeartbeats 4000000 in
set_option maxRecDepth 100000 in
theorem c_J15_checkIndex_7cf53 (l : Launch) (G : Gx) (i : Int) (n : Int) (hi : 0 ≤ i ∧ i < n ∧ n < 1000) : Met l yJ15_checkIndex_7cf53 wsJ15_checkIndex_7cf53 rm_c_J15_checkIndex_7cf53 (va_Pc [.int (iI i), .int (iI n)] (rd G ([]))) (vp_Si (fun rv => rv = (iI i))) 0 0 (fun _ => False) := by
  refine enR (cc := cJ15_checkIndex_7cf53) (maxL := 2) (ret := (some .int)) (C := RJ15) [(0, .int (iI i)), (1, .int (iI n))] (by decide) rfl rfl (Nat.le_of_ble_eq_true rfl) rfl ?_
  intro p e s m args below meth c ls hx hb hr hml hown hts hlocks hP hK hT hN hl
  have hS : va_S (fun _ => False) s.heap s.heap [] := va_S.rf
  show W p l e rm_c_J15_checkIndex_7cf53 s m args below meth c s.heap [] 0 0 _ (F0 m 0 ls [])
  refine lv_iload_n hx hb dJ15_checkIndex_7cf53_0 rfl (lv_at hl 0 rfl) ?_
  refine lv_iload_n hx hb dJ15_checkIndex_7cf53_1 rfl (lv_at hl 1 rfl) ?_
  refine lv_null hx hb dJ15_checkIndex_7cf53_2 ?_
  refine cRSi (As := [.int (iI i), .int (iI n), .null]) (rest := []) ⟨hx, hb, hml, hown, hts⟩ (c_J3_checkIndex_8e157 l G i n (by omega)) (va_cwS 3 hts gJ15_checkIndex_7cf53_J3_checkIndex_8e157 rfl rfl rfl (by decide +kernel) ⟨Nat.le_of_ble_eq_true rfl, Nat.le_of_ble_eq_true rfl⟩) rfl hl.1 rfl (Nat.le_of_ble_eq_true rfl) dJ15_checkIndex_7cf53_3 ⟨Nat.le_of_ble_eq_true rfl, Nat.le_of_ble_eq_true rfl⟩ va_P_nil hK hT hN hS ?_
  exact rtRi hx hb hr hlocks dJ15_checkIndex_7cf53_6 rfl
abbrev rm_c_Jx4a65c_elementData_915e3 : Room := { frames := 0, cells := 0, slots := 0, locals := 0 }
set_option maxHeartbeats 4000000 in
set_option maxRecDepth 100000 in
theorem c_Jx4a65c_elementData_915e3 (l : Launch) (G : Gx) (h0 : Nat) (ea : Nat) (md : Int) (n : Int) (cap : Nat) (F : Nat → Option Nat) (i : Int) (y : Nat) (hi : 0 ≤ i ∧ i < cap ∧ cap ≤ 1000) (hy : F i.toNat = some y) : Met l yJx4a65c_elementData_915e3 wsJx4a65c_elementData_915e3 rm_c_Jx4a65c_elementData_915e3 (va_Pc [.ref h0, .int (iI i)] (rd G ([(h0, .inr (0, [.int (iI md), .ref ea, .int (iI n)])), (ea, .inl (G.2.1 3, cap, .inr (.inr (.inr (.inr F)))))]))) (va_Sr (fun _ => True) (fun _ => .ref y)) 0 0 (fun _ => False) := by
  refine enR (cc := cJx4a65c_elementData_915e3) (maxL := 2) (ret := (some (.object "java/lang/Object"))) (C := RJx4a65c) [(0, .ref h0), (1, .int (iI i))] (by decide) rfl rfl (Nat.le_of_ble_eq_true rfl) rfl ?_
  intro p e s m args below meth c ls hx hb hr hml hown hts hlocks hP hK hT hN hl
  have hS : va_S (fun _ => False) s.heap s.heap [] := va_S.rf
  show W p l e rm_c_Jx4a65c_elementData_915e3 s m args below meth c s.heap [] 0 0 _ (F0 m 0 ls [])
  refine lv_aload_n hx hb dJx4a65c_elementData_915e3_0 rfl (lv_at hl 0 rfl) ?_
  refine va_get (D := G.1) (ci := 0) (v := .ref ea) (C := RJx4a65c) (T := TJx4a65c) (N := 3) hx hb hts (by decide +kernel) hown hK hP 0 rfl rfl 1 (by decide) (hts (.fieldLink RJx4a65c 9 "java/util/ArrayList" "elementData" "[Ljava/lang/Object;") (by decide +kernel)) (fun _ h9 => h9) rfl dJx4a65c_elementData_915e3_1 ?_
  refine lv_iload_n hx hb dJx4a65c_elementData_915e3_4 rfl (lv_at hl 1 rfl) ?_
  refine w_aald hx hb hK hP 1 rfl ((i).toNat) (by omega) (by omega) (by omega) hy dJx4a65c_elementData_915e3_5 ?_
  exact rtRr hx hb hr hlocks (Or.inl ⟨_, rfl⟩) dJx4a65c_elementData_915e3_6
abbrev rm_c_Jx4a65c_get_915e3 : Room := { frames := 2, cells := 0, slots := 0, locals := 43 }
set_option maxHeartbeats 4000000 in
set_option maxRecDepth 100000 in
theorem c_Jx4a65c_get_915e3 (l : Launch) (G : Gx) (h0 : Nat) (ea : Nat) (md : Int) (n : Int) (cap : Nat) (F : Nat → Option Nat) (i : Int) (y : Nat) (hi : 0 ≤ i ∧ i < n ∧ n ≤ cap ∧ cap ≤ 900) (hy : F i.toNat = some y) : Met l yJx4a65c_get_915e3 wsJx4a65c_get_915e3 rm_c_Jx4a65c_get_915e3 (va_Pc [.ref h0, .int (iI i)] (rd G ([(h0, .inr (0, [.int (iI md), .ref ea, .int (iI n)])), (ea, .inl (G.2.1 3, cap, .inr (.inr (.inr (.inr F)))))]))) (va_Sr (fun _ => True) (fun _ => .ref y)) 0 0 (fun _ => False) := by
  refine enR (cc := cJx4a65c_get_915e3) (maxL := 2) (ret := (some (.object "java/lang/Object"))) (C := RJx4a65c) [(0, .ref h0), (1, .int (iI i))] (by decide) rfl rfl (Nat.le_of_ble_eq_true rfl) rfl ?_
  intro p e s m args below meth c ls hx hb hr hml hown hts hlocks hP hK hT hN hl
  have hS : va_S (fun _ => False) s.heap s.heap [] := va_S.rf
  show W p l e rm_c_Jx4a65c_get_915e3 s m args below meth c s.heap [] 0 0 _ (F0 m 0 ls [])
  refine lv_iload_n hx hb dJx4a65c_get_915e3_0 rfl (lv_at hl 1 rfl) ?_
  refine lv_aload_n hx hb dJx4a65c_get_915e3_1 rfl (lv_at hl 0 rfl) ?_
  refine va_get (D := G.1) (ci := 0) (v := .int (iI n)) (C := RJx4a65c) (T := TJx4a65c) (N := 3) hx hb hts (by decide +kernel) hown hK hP 0 rfl rfl 2 (by decide) (hts (.fieldLink RJx4a65c 48 "java/util/ArrayList" "size" "I") (by decide +kernel)) (fun _ h9 => h9) rfl dJx4a65c_get_915e3_2 ?_
  refine cRSi (As := [.int (iI i), .int (iI n)]) (rest := []) ⟨hx, hb, hml, hown, hts⟩ (c_J15_checkIndex_7cf53 l G i n (by omega)) (va_cwS 2 hts gJx4a65c_get_915e3_J15_checkIndex_7cf53 rfl rfl rfl (by decide +kernel) ⟨Nat.le_of_ble_eq_true rfl, Nat.le_of_ble_eq_true rfl⟩) rfl hl.1 rfl (Nat.le_of_ble_eq_true rfl) dJx4a65c_get_915e3_5 ⟨Nat.le_of_ble_eq_true rfl, Nat.le_of_ble_eq_true rfl⟩ va_P_nil hK hT hN hS ?_
  refine lv_pop hx hb dJx4a65c_get_915e3_8 rfl ?_
  refine lv_aload_n hx hb dJx4a65c_get_915e3_9 rfl (lv_at hl 0 rfl) ?_
  refine lv_iload_n hx hb dJx4a65c_get_915e3_10 rfl (lv_at hl 1 rfl) ?_
  refine cRVr (As := [.int (iI i)]) (rest := []) ⟨hx, hb, hml, hown, hts⟩ (c_Jx4a65c_elementData_915e3 l G h0 ea md n cap F i y (by omega) (by exact hy)) (cwV 1 hts gJx4a65c_get_915e3_Jx4a65c_elementData_915e3 rfl rfl rfl (by decide +kernel) ⟨Nat.le_of_ble_eq_true rfl, Nat.le_of_ble_eq_true rfl⟩) rfl hl.1 rfl (Nat.le_of_ble_eq_true rfl) dJx4a65c_get_915e3_11 ⟨Nat.le_of_ble_eq_true rfl, Nat.le_of_ble_eq_true rfl⟩ (hP.sub [0, 1] rfl) hK hT hN hS (ci := 0) rfl rfl ?_
  exact rtRr hx hb hr hlocks (Or.inl ⟨_, rfl⟩) dJx4a65c_get_915e3_14
abbrev rm_c_Jxa1e45_init_da8c8 : Room := { frames := 1, cells := 0, slots := 0, locals := 20 }
set_option maxHeartbeats 4000000 in
set_option maxRecDepth 100000 in
theorem c_Jxa1e45_init_da8c8 (l : Launch) (G : Gx) (h0 : Nat) (v1 : Int) (v3 : Int) (sz : Nat) : Met l yJxa1e45_init_da8c8 wsJxa1e45_init_da8c8 rm_c_Jxa1e45_init_da8c8 (va_Pc [.ref h0] (wr G ([(h0, .inr (0, [.int (iI v1), .null, .int (iI v3)]))]) sz)) (va_Qv (fun (u : Unit) => True) (Bw G.1 vwCl (fun (u : Unit) => [(h0, .inr (0, [.int (iI v1), .null, .int (iI v3)]))]) (va_A ([(h0, .inr (0, [.int (iI v1), .null, .int (iI v3)]))]) sz)) (va_A ([(h0, .inr (0, [.int (iI v1), .null, .int (iI v3)]))]) sz)) 0 0 (va_A ([(h0, .inr (0, [.int (iI v1), .null, .int (iI v3)]))]) sz) := by
  refine enW (y := yJxa1e45_init_da8c8) (ws := wsJxa1e45_init_da8c8) (As := [.ref h0]) (Qc := fun A => (va_Qv (fun (u : Unit) => True) (Bw G.1 vwCl (fun (u : Unit) => [(h0, .inr (0, [.int (iI v1), .null, .int (iI v3)]))]) A) A)) (mc := 0) (ms := 0) (cc := cJxa1e45_init_da8c8) (maxL := 1) (ret := none) (C := RJxa1e45) [(0, .ref h0)] (by decide) rfl rfl (Nat.le_of_ble_eq_true rfl) rfl ?_
  intro p e s m args below meth c ls A hx hb hr hml hown hts hlocks hin hP hK hD hT hN hA hS hl
  show W p l e rm_c_Jxa1e45_init_da8c8 s m args below meth c s.heap [] 0 0 _ (F0 m 0 ls [])
  refine lv_aload_n hx hb dJxa1e45_init_da8c8_0 rfl (lv_at hl 0 rfl) ?_
  refine W.objInit hx hb hown (hts (.methodLink RJxa1e45 1 objectInit) (by decide +kernel)) (hts (.instanceMethod objectInit) (by decide +kernel)) (hts (.code objectInit ⟨#[0xb1]⟩ 1 none) (by decide +kernel)) rfl (by rw [hml]; exact hl.1) rfl dJxa1e45_init_da8c8_1 (Nat.le_of_ble_eq_true rfl) (Nat.le_of_ble_eq_true rfl) ?_
  refine W.eq (g2 := F0 m 4 ls []) rfl ?_
  exact rtWv hx hb hr hlocks dJxa1e45_init_da8c8_4 () trivial hP hD hS
abbrev rm_c_Jxc12de_init_da8c8 : Room := { frames := 2, cells := 0, slots := 0, locals := 40 }
set_option maxHeartbeats 4000000 in
set_option maxRecDepth 100000 in
theorem c_Jxc12de_init_da8c8 (l : Launch) (G : Gx) (h0 : Nat) (v1 : Int) (v3 : Int) (sz : Nat) : Met l yJxc12de_init_da8c8 wsJxc12de_init_da8c8 rm_c_Jxc12de_init_da8c8 (va_Pc [.ref h0] (wr G ([(h0, .inr (0, [.int (iI v1), .null, .int (iI v3)]))]) sz)) (va_Qv (fun (u : Unit) => True) (Bw G.1 vwCl (fun (u : Unit) => [(h0, .inr (0, [.int (iI 0), .null, .int (iI v3)]))]) (va_A ([(h0, .inr (0, [.int (iI v1), .null, .int (iI v3)]))]) sz)) (va_A ([(h0, .inr (0, [.int (iI v1), .null, .int (iI v3)]))]) sz)) 0 0 (va_A ([(h0, .inr (0, [.int (iI v1), .null, .int (iI v3)]))]) sz) := by
  refine enW (y := yJxc12de_init_da8c8) (ws := wsJxc12de_init_da8c8) (As := [.ref h0]) (Qc := fun A => (va_Qv (fun (u : Unit) => True) (Bw G.1 vwCl (fun (u : Unit) => [(h0, .inr (0, [.int (iI 0), .null, .int (iI v3)]))]) A) A)) (mc := 0) (ms := 0) (cc := cJxc12de_init_da8c8) (maxL := 1) (ret := none) (C := RJxc12de) [(0, .ref h0)] (by decide) rfl rfl (Nat.le_of_ble_eq_true rfl) rfl ?_
  intro p e s m args below meth c ls A hx hb hr hml hown hts hlocks hin hP hK hD hT hN hA hS hl
  show W p l e rm_c_Jxc12de_init_da8c8 s m args below meth c s.heap [] 0 0 _ (F0 m 0 ls [])
  refine lv_aload_n hx hb dJxc12de_init_da8c8_0 rfl (lv_at hl 0 rfl) ?_
  refine cWIv0 (As := []) (rest := []) (wr0 := []) ⟨hx, hb, hml, hown, hts⟩ (c_Jxa1e45_init_da8c8 l G h0 v1 v3 s.heap.size ) (cwI 0 hts gJxc12de_init_da8c8_Jxa1e45_init_da8c8 rfl rfl rfl (hts (.initialized yJxa1e45_init_da8c8.cls) (by decide +kernel)) (hts (.methodLink RJxc12de 1 yJxa1e45_init_da8c8) (by decide +kernel)) (hts (.instanceMethod yJxa1e45_init_da8c8) (by decide +kernel)) rfl (by decide +kernel) ⟨Nat.le_of_ble_eq_true rfl, Nat.le_of_ble_eq_true rfl⟩) rfl hl.1 rfl (Nat.le_of_ble_eq_true rfl) dJxc12de_init_da8c8_1 ⟨Nat.le_of_ble_eq_true rfl, Nat.le_of_ble_eq_true rfl⟩ hP hD hK hT hN hS hA [0] [] rfl rfl (by decide) (by decide) (by decide) (fun u_1 hu_1 H locs hz_1 hP hD hS => ?_)
  have hP : va_P G.1 vwCl ([(h0, .inr (0, [.int (iI v1), .null, .int (iI v3)]))]) H := hP
  have hD : va_D A ([(h0, .inr (0, [.int (iI v1), .null, .int (iI v3)]))]) := hD
  refine lv_aload_n hx hb dJxc12de_init_da8c8_4 rfl (lv_at hl 0 rfl) ?_
  refine lv_iconst (v := iI 0) hx hb dJxc12de_init_da8c8_5 rfl ?_
  refine va_put (D := G.1) (ci := 0) (v := .int (iI 0)) (ty := .int) (C := RJx4a65c) (T := TJx4a65c) (N := 3) hx hb hts (by decide +kernel) tyJx4a65c tyJx4a65c_ok nmJx4a65c hown hK hP hD hS 0 rfl rfl 0 (by decide) (hts (.fieldLink RJxc12de 7 "java/util/AbstractList" "modCount" "I") (by decide +kernel)) (fun _ h9 => h9) rfl (by decide +kernel) rfl rfl (Nat.le_of_ble_eq_true rfl) dJxc12de_init_da8c8_6 (fun H locs hP hD hS => ?_)
  have hP : va_P G.1 vwCl ([(h0, .inr (0, [.int (iI 0), .null, .int (iI v3)]))]) H := hP
  have hD : va_D A ([(h0, .inr (0, [.int (iI 0), .null, .int (iI v3)]))]) := hD
  exact rtWv hx hb hr hlocks dJxc12de_init_da8c8_9 () trivial hP hD hS
abbrev rm_c_Jx4a65c_init_da8c8 : Room := { frames := 3, cells := 0, slots := 0, locals := 60 }
set_option maxHeartbeats 4000000 in
set_option maxRecDepth 100000 in
theorem c_Jx4a65c_init_da8c8 (l : Launch) (G : Gx) (h0 : Nat) (sz : Nat) : Met l yJx4a65c_init_da8c8 wsJx4a65c_init_da8c8 rm_c_Jx4a65c_init_da8c8 (va_Pc [.ref h0] (wr G ([(h0, .inr (0, [.int (iI 0), .null, .int (iI 0)]))]) sz)) (va_Qv (fun (u : Unit) => True) (Bw G.1 vwCl (fun (u : Unit) => [(h0, .inr (0, [.int (iI 0), .ref (G.2.2 2), .int (iI 0)]))]) (va_A ([(h0, .inr (0, [.int (iI 0), .null, .int (iI 0)]))]) sz)) (va_A ([(h0, .inr (0, [.int (iI 0), .null, .int (iI 0)]))]) sz)) 0 0 (va_A ([(h0, .inr (0, [.int (iI 0), .null, .int (iI 0)]))]) sz) := by
  refine enW (y := yJx4a65c_init_da8c8) (ws := wsJx4a65c_init_da8c8) (As := [.ref h0]) (Qc := fun A => (va_Qv (fun (u : Unit) => True) (Bw G.1 vwCl (fun (u : Unit) => [(h0, .inr (0, [.int (iI 0), .ref (G.2.2 2), .int (iI 0)]))]) A) A)) (mc := 0) (ms := 0) (cc := cJx4a65c_init_da8c8) (maxL := 1) (ret := none) (C := RJx4a65c) [(0, .ref h0)] (by decide) rfl rfl (Nat.le_of_ble_eq_true rfl) rfl ?_
  intro p e s m args below meth c ls A hx hb hr hml hown hts hlocks hin hP hK hD hT hN hA hS hl
  show W p l e rm_c_Jx4a65c_init_da8c8 s m args below meth c s.heap [] 0 0 _ (F0 m 0 ls [])
  refine lv_aload_n hx hb dJx4a65c_init_da8c8_0 rfl (lv_at hl 0 rfl) ?_
  refine cWIv0 (As := []) (rest := []) (wr0 := []) ⟨hx, hb, hml, hown, hts⟩ (c_Jxc12de_init_da8c8 l G h0 0 0 s.heap.size ) (cwI 0 hts gJx4a65c_init_da8c8_Jxc12de_init_da8c8 rfl rfl rfl (hts (.initialized yJxc12de_init_da8c8.cls) (by decide +kernel)) (hts (.methodLink RJx4a65c 1 yJxc12de_init_da8c8) (by decide +kernel)) (hts (.instanceMethod yJxc12de_init_da8c8) (by decide +kernel)) rfl (by decide +kernel) ⟨Nat.le_of_ble_eq_true rfl, Nat.le_of_ble_eq_true rfl⟩) rfl hl.1 rfl (Nat.le_of_ble_eq_true rfl) dJx4a65c_init_da8c8_1 ⟨Nat.le_of_ble_eq_true rfl, Nat.le_of_ble_eq_true rfl⟩ hP hD hK hT hN hS hA [0] [] rfl rfl (by decide) (by decide) (by decide) (fun u_1 hu_1 H locs hz_1 hP hD hS => ?_)
  have hP : va_P G.1 vwCl ([(h0, .inr (0, [.int (iI 0), .null, .int (iI (0 : Int))]))]) H := hP
  have hD : va_D A ([(h0, .inr (0, [.int (iI 0), .null, .int (iI (0 : Int))]))]) := hD
  refine lv_aload_n hx hb dJx4a65c_init_da8c8_4 rfl (lv_at hl 0 rfl) ?_
  refine va_gets (v := .ref (G.2.2 2)) hx hb hT.2.2.2.2.1 hS hown (hts (.fieldLink RJx4a65c 39 "java/util/ArrayList" "DEFAULTCAPACITY_EMPTY_ELEMENTDATA" "[Ljava/lang/Object;") (by decide +kernel)) (fun _ h9 => h9) dJx4a65c_init_da8c8_5 ?_
  refine va_put (D := G.1) (ci := 0) (v := .ref (G.2.2 2)) (ty := (.array (.object "java/lang/Object"))) (C := RJx4a65c) (T := TJx4a65c) (N := 3) hx hb hts (by decide +kernel) tyJx4a65c tyJx4a65c_ok nmJx4a65c hown hK hP hD hS 0 rfl rfl 1 (by decide) (hts (.fieldLink RJx4a65c 9 "java/util/ArrayList" "elementData" "[Ljava/lang/Object;") (by decide +kernel)) (fun _ h9 => h9) rfl (by decide +kernel) rfl rfl (Nat.le_of_ble_eq_true rfl) dJx4a65c_init_da8c8_8 (fun H locs hP hD hS => ?_)
  have hP : va_P G.1 vwCl ([(h0, .inr (0, [.int (iI 0), .ref (G.2.2 2), .int (iI (0 : Int))]))]) H := hP
  have hD : va_D A ([(h0, .inr (0, [.int (iI 0), .ref (G.2.2 2), .int (iI (0 : Int))]))]) := hD
  have hwe : ([(h0, .inr (0, [.int (iI 0), .ref (G.2.2 2), .int (iI (0 : Int))]))] : va_W) = [(h0, .inr (0, [.int (iI 0), .ref (G.2.2 2), .int (iI 0)]))] := by rfl
  have hP9 : va_P G.1 vwCl ([(h0, .inr (0, [.int (iI 0), .ref (G.2.2 2), .int (iI 0)]))]) H := hwe ▸ hP
  have hD9 : va_D A ([(h0, .inr (0, [.int (iI 0), .ref (G.2.2 2), .int (iI 0)]))]) := hwe ▸ hD
  exact rtWv hx hb hr hlocks dJx4a65c_init_da8c8_11 () trivial hP9 hD9 hS
abbrev rm_c_J8_newLength_cabcc : Room := { frames := 1, cells := 0, slots := 0, locals := 21 }
set_option maxHeartbeats 4000000 in
set_option maxRecDepth 100000 in
theorem c_J8_newLength_cabcc (l : Launch) (G : Gx) (a : Int) (b : Int) (d : Int) (h1 : 0 ≤ a ∧ a ≤ 1000 ∧ 1 ≤ b ∧ b ≤ 1000 ∧ 0 ≤ d ∧ d ≤ 1000) : Met l yJ8_newLength_cabcc wsJ8_newLength_cabcc rm_c_J8_newLength_cabcc (va_Pc [.int (iI a), .int (iI b), .int (iI d)] (rd G ([]))) (vp_Si (fun rv => rv = (iI (a + max b d)))) 0 0 (fun _ => False) := by
  refine enR (cc := cJ8_newLength_cabcc) (maxL := 4) (ret := (some .int)) (C := RJ8) [(0, .int (iI a)), (1, .int (iI b)), (2, .int (iI d))] (by decide) rfl rfl (Nat.le_of_ble_eq_true rfl) rfl ?_
  intro p e s m args below meth c ls hx hb hr hml hown hts hlocks hP hK hT hN hl
  have hS : va_S (fun _ => False) s.heap s.heap [] := va_S.rf
  show W p l e rm_c_J8_newLength_cabcc s m args below meth c s.heap [] 0 0 _ (F0 m 0 ls [])
  refine lv_iload_n hx hb dJ8_newLength_cabcc_0 rfl (lv_at hl 0 rfl) ?_
  refine lv_iload_n hx hb dJ8_newLength_cabcc_1 rfl (lv_at hl 1 rfl) ?_
  refine lv_iload_n hx hb dJ8_newLength_cabcc_2 rfl (lv_at hl 2 rfl) ?_
  refine w_mmax hx hb (hml.trans hl.1.symm) hown (hts (.methodLink RJ8 194 Lib.Math.max.name) (by decide +kernel)) (hts (.static Lib.Math.max.name) (by decide +kernel)) (hts (.initialized "java/lang/Math") (by decide +kernel)) (hts (.code Lib.Math.max.name Lib.Math.max.code 2 (some .int)) (by decide +kernel)) (Nat.le_of_ble_eq_true rfl) (Nat.le_of_ble_eq_true rfl) (Nat.le_of_ble_eq_true rfl) (Nat.le_of_ble_eq_true rfl) (by omega) (by omega) dJ8_newLength_cabcc_3 ?_
  refine w_iadd hx hb dJ8_newLength_cabcc_6 ?_
  refine lv_istore_n (lv' := [(3, .int (iI (a + (max b d)))), (0, .int (iI a)), (1, .int (iI b)), (2, .int (iI d))]) hx hb dJ8_newLength_cabcc_7 rfl hl (by decide) rfl (fun ls hl => ?_)
  refine lv_iconst (v := iI 0) hx hb dJ8_newLength_cabcc_8 rfl ?_
  refine lv_iload_n hx hb dJ8_newLength_cabcc_9 rfl (lv_at hl 0 rfl) ?_
  refine w_icmp_ge (tgt := 21) hx hb dJ8_newLength_cabcc_10 (by decide) (by decide) (by omega) (fun c_10_1 => absurd c_10_1 (by omega)) (fun c_10_1 => ?_)
  refine lv_iload_n hx hb dJ8_newLength_cabcc_13 rfl (lv_at hl 0 rfl) ?_
  refine lv_ldc (v := iI 2147483639) hx hb hown (show (Jvm.Cond.constant RJ8 200 (iI 2147483639)).before args s = true from (by rw [show (iI 2147483639) = (2147483639 : Int32) from by decide]; exact (hts (.constant RJ8 200 (2147483639)) (by decide +kernel)))) dJ8_newLength_cabcc_14 ?_
  refine w_icmp_gt (tgt := 21) hx hb dJ8_newLength_cabcc_16 (by decide) (by omega) (by decide) (fun c_16_2 => absurd c_16_2 (by omega)) (fun c_16_2 => ?_)
  refine lv_iload_n hx hb dJ8_newLength_cabcc_19 rfl (lv_at hl 0 rfl) ?_
  exact rtRi hx hb hr hlocks dJ8_newLength_cabcc_20 rfl
abbrev rm_c_J7_copyOf_6403c : Room := { frames := 1, cells := 1, slots := 64, locals := 48 }
set_option maxHeartbeats 4000000 in
set_option maxRecDepth 100000 in
theorem c_J7_copyOf_6403c (l : Launch) (G : Gx) (ci : Nat) (rr : vw_C) (pl : va_W) (a0 : Nat) (cap : Nat) (F : Nat → Option Nat) (n : Int) (sz : Nat) (hci : vwCl[ci]? = some rr) (hca : Cond.castable rr.1 "java/lang/Object" ∈ nestWs) (hn : cap ≤ n ∧ n ≤ 64) (hel : elT ci cap F pl) : Met l yJ7_copyOf_6403c wsJ7_copyOf_6403c rm_c_J7_copyOf_6403c (va_Pc [.ref a0, .int (iI n), .ref (G.2.2 3)] (wr G ([(a0, .inl (G.2.1 3, cap, .inr (.inr (.inr (.inr F)))))] ++ pl) sz)) (va_Qr (fun (u : Nat) => True) (Bwr G.1 vwCl (fun (u : Nat) => [(a0, .inl (G.2.1 3, cap, .inr (.inr (.inr (.inr F))))), (u, .inl (G.2.1 3, n.toNat, .inr (.inr (.inr (.inr (va_cpy F (fun _ => none) 0 0 cap))))))] ++ pl) (fun (u : Nat) => u) (va_A ([(a0, .inl (G.2.1 3, cap, .inr (.inr (.inr (.inr F)))))] ++ pl) sz)) (va_A ([(a0, .inl (G.2.1 3, cap, .inr (.inr (.inr (.inr F)))))] ++ pl) sz)) 1 64 (va_A ([(a0, .inl (G.2.1 3, cap, .inr (.inr (.inr (.inr F)))))] ++ pl) sz) := by
  refine enW (y := yJ7_copyOf_6403c) (ws := wsJ7_copyOf_6403c) (As := [.ref a0, .int (iI n), .ref (G.2.2 3)]) (Qc := fun A => (va_Qr (fun (u : Nat) => True) (Bwr G.1 vwCl (fun (u : Nat) => [(a0, .inl (G.2.1 3, cap, .inr (.inr (.inr (.inr F))))), (u, .inl (G.2.1 3, n.toNat, .inr (.inr (.inr (.inr (va_cpy F (fun _ => none) 0 0 cap))))))] ++ pl) (fun (u : Nat) => u) A) A)) (mc := 1) (ms := 64) (cc := cJ7_copyOf_6403c) (maxL := 4) (ret := (some (.array (.object "java/lang/Object")))) (C := RJ7) [(0, .ref a0), (1, .int (iI n)), (2, .ref (G.2.2 3))] (by decide) rfl rfl (Nat.le_of_ble_eq_true rfl) rfl ?_
  intro p e s m args below meth c ls A hx hb hr hml hown hts hlocks hin hP hK hD hT hN hA hS hl
  show W p l e rm_c_J7_copyOf_6403c s m args below meth c s.heap [] 0 0 _ (F0 m 0 ls [])
  refine lv_aload_n hx hb dJ7_copyOf_6403c_0 rfl (lv_at hl 2 rfl) ?_
  refine va_ldcM (mi := G.2.2 3) hx hb hown (hts (.classLink RJ7 110 "[Ljava/lang/Object;") (by decide +kernel)) hN.2.2.1 dJ7_copyOf_6403c_1 ?_
  refine lv_acmp_ne (rx := some (G.2.2 3)) (ry := some (G.2.2 3)) (tgt := 13) hx hb dJ7_copyOf_6403c_3 (by decide) (fun c_ => absurd rfl c_) (fun _ => ?_)
  refine lv_iload_n hx hb dJ7_copyOf_6403c_6 rfl (lv_at hl 1 rfl) ?_
  refine w_anew hx hb hown (hts (.classLink RJ7 2 "java/lang/Object") (by decide +kernel)) hN hK hP hD hS hA n.toNat (by omega) (by omega) (Nat.le_of_ble_eq_true rfl) (by show _ ≤ 64; omega) dJ7_copyOf_6403c_7 (fun q7_1 H hP hD hS => ?_)
  refine W.widen (k := 1) (n := 64) (by omega) (by omega) ?_
  have hP := va_P.swap (a := [(a0, .inl (G.2.1 3, cap, .inr (.inr (.inr (.inr F)))))]) (b := pl) (c := [(q7_1, .inl (G.2.1 3, n.toNat, .inr (.inr (.inr (.inr (fun _ => none))))))]) hP
  have hD := va_D.swap (a := [(a0, .inl (G.2.1 3, cap, .inr (.inr (.inr (.inr F)))))]) (b := pl) (c := [(q7_1, .inl (G.2.1 3, n.toNat, .inr (.inr (.inr (.inr (fun _ => none))))))]) hD
  have hP : va_P G.1 vwCl ([(a0, .inl (G.2.1 3, cap, .inr (.inr (.inr (.inr F))))), (q7_1, .inl (G.2.1 3, n.toNat, .inr (.inr (.inr (.inr (fun _ => none))))))] ++ pl) H := hP
  have hD : va_D A ([(a0, .inl (G.2.1 3, cap, .inr (.inr (.inr (.inr F))))), (q7_1, .inl (G.2.1 3, n.toNat, .inr (.inr (.inr (.inr (fun _ => none))))))] ++ pl) := hD
  refine lv_goto (tgt := 24) hx hb dJ7_copyOf_6403c_10 (by decide) ?_
  refine lv_astore_n (lv' := [(3, .ref q7_1), (0, .ref a0), (1, .int (iI n)), (2, .ref (G.2.2 3))]) hx hb dJ7_copyOf_6403c_24 rfl hl (by decide) rfl (fun ls hl => ?_)
  refine lv_aload_n hx hb dJ7_copyOf_6403c_25 rfl (lv_at hl 1 rfl) ?_
  refine lv_iconst (v := iI 0) hx hb dJ7_copyOf_6403c_26 rfl ?_
  refine lv_aload_n hx hb dJ7_copyOf_6403c_27 rfl (lv_at hl 0 rfl) ?_
  refine lv_iconst (v := iI 0) hx hb dJ7_copyOf_6403c_28 rfl ?_
  refine lv_aload_n hx hb dJ7_copyOf_6403c_29 rfl (lv_at hl 1 rfl) ?_
  refine va_alen (v := iI ((cap : Nat) : Int)) hx hb hK hP 0 3 rfl rfl (iI_N _) dJ7_copyOf_6403c_30 ?_
  refine lv_iload_n hx hb dJ7_copyOf_6403c_31 rfl (lv_at hl 2 rfl) ?_
  refine w_mmin hx hb (hml.trans hl.1.symm) hown (hts (.methodLink RJ7 304 Lib.Math.min.name) (by decide +kernel)) (hts (.static Lib.Math.min.name) (by decide +kernel)) (hts (.initialized "java/lang/Math") (by decide +kernel)) (hts (.code Lib.Math.min.name Lib.Math.min.code 2 (some .int)) (by decide +kernel)) (Nat.le_of_ble_eq_true rfl) (Nat.le_of_ble_eq_true rfl) (Nat.le_of_ble_eq_true rfl) (Nat.le_of_ble_eq_true rfl) (by omega) (by omega) dJ7_copyOf_6403c_32 ?_
  have hel2 : ∀ i : Nat, i < cap → ∃ (y k : Nat) (fs : List Value), F i = some y ∧ ([(a0, .inl (G.2.1 3, cap, .inr (.inr (.inr (.inr F))))), (q7_1, .inl (G.2.1 3, n.toNat, .inr (.inr (.inr (.inr (fun _ => none))))))] ++ pl)[k]? = some (y, .inr (ci, fs)) := fun i hi => by obtain ⟨y, k, fs, g1, g2⟩ := hel i hi; obtain ⟨k2, g3⟩ := pool_get (X := [(a0, .inl (G.2.1 3, cap, .inr (.inr (.inr (.inr F))))), (q7_1, .inl (G.2.1 3, n.toNat, .inr (.inr (.inr (.inr (fun _ => none))))))]) g2; exact ⟨y, k2, fs, g1, g3⟩
  refine w_copyq hx hb (hml.trans hl.1.symm) hown (hts (.methodLink RJ7 150 arraycopyName) (by decide +kernel)) (hts (.native arraycopyName) (by decide +kernel)) (hts (.static arraycopyName) (by decide +kernel)) (hts (.initialized "java/lang/System") (by decide +kernel)) hK hP hD hS hN 0 1 rfl rfl hci hca cap (by omega) (by omega) (by omega) (by omega) hel2 (Nat.le_of_ble_eq_true rfl) (Nat.le_of_ble_eq_true rfl) dJ7_copyOf_6403c_35 (fun H locs hP hD hS => ?_)
  have hP : va_P G.1 vwCl ([(a0, .inl (G.2.1 3, cap, .inr (.inr (.inr (.inr F))))), (q7_1, .inl (G.2.1 3, n.toNat, .inr (.inr (.inr (.inr (va_cpy F (fun _ => none) 0 0 cap))))))] ++ pl) H := hP
  have hD : va_D A ([(a0, .inl (G.2.1 3, cap, .inr (.inr (.inr (.inr F))))), (q7_1, .inl (G.2.1 3, n.toNat, .inr (.inr (.inr (.inr (va_cpy F (fun _ => none) 0 0 cap))))))] ++ pl) := hD
  refine lv_aload_n hx hb dJ7_copyOf_6403c_38 rfl (lv_at hl 0 rfl) ?_
  exact rtWr hx hb hr hlocks (Or.inr ⟨_, rfl⟩) dJ7_copyOf_6403c_39 (q7_1) trivial hP hD hS
abbrev rm_c_J7_copyOf_1904c : Room := { frames := 2, cells := 1, slots := 64, locals := 71 }
set_option maxHeartbeats 4000000 in
set_option maxRecDepth 100000 in
theorem c_J7_copyOf_1904c (l : Launch) (G : Gx) (ci : Nat) (rr : vw_C) (pl : va_W) (a0 : Nat) (cap : Nat) (F : Nat → Option Nat) (n : Int) (sz : Nat) (hci : vwCl[ci]? = some rr) (hca : Cond.castable rr.1 "java/lang/Object" ∈ nestWs) (hn : cap ≤ n ∧ n ≤ 64) (hel : elT ci cap F pl) : Met l yJ7_copyOf_1904c wsJ7_copyOf_1904c rm_c_J7_copyOf_1904c (va_Pc [.ref a0, .int (iI n)] (wr G ([(a0, .inl (G.2.1 3, cap, .inr (.inr (.inr (.inr F)))))] ++ pl) sz)) (va_Qr (fun (u : Nat) => True) (Bwr G.1 vwCl (fun (u : Nat) => [(a0, .inl (G.2.1 3, cap, .inr (.inr (.inr (.inr F))))), (u, .inl (G.2.1 3, n.toNat, .inr (.inr (.inr (.inr (va_cpy F (fun _ => none) 0 0 cap))))))] ++ pl) (fun (u : Nat) => u) (va_A ([(a0, .inl (G.2.1 3, cap, .inr (.inr (.inr (.inr F)))))] ++ pl) sz)) (va_A ([(a0, .inl (G.2.1 3, cap, .inr (.inr (.inr (.inr F)))))] ++ pl) sz)) 1 64 (va_A ([(a0, .inl (G.2.1 3, cap, .inr (.inr (.inr (.inr F)))))] ++ pl) sz) := by
  refine enW (y := yJ7_copyOf_1904c) (ws := wsJ7_copyOf_1904c) (As := [.ref a0, .int (iI n)]) (Qc := fun A => (va_Qr (fun (u : Nat) => True) (Bwr G.1 vwCl (fun (u : Nat) => [(a0, .inl (G.2.1 3, cap, .inr (.inr (.inr (.inr F))))), (u, .inl (G.2.1 3, n.toNat, .inr (.inr (.inr (.inr (va_cpy F (fun _ => none) 0 0 cap))))))] ++ pl) (fun (u : Nat) => u) A) A)) (mc := 1) (ms := 64) (cc := cJ7_copyOf_1904c) (maxL := 2) (ret := (some (.array (.object "java/lang/Object")))) (C := RJ7) [(0, .ref a0), (1, .int (iI n))] (by decide) rfl rfl (Nat.le_of_ble_eq_true rfl) rfl ?_
  intro p e s m args below meth c ls A hx hb hr hml hown hts hlocks hin hP hK hD hT hN hA hS hl
  show W p l e rm_c_J7_copyOf_1904c s m args below meth c s.heap [] 0 0 _ (F0 m 0 ls [])
  refine lv_aload_n hx hb dJ7_copyOf_1904c_0 rfl (lv_at hl 0 rfl) ?_
  refine lv_iload_n hx hb dJ7_copyOf_1904c_1 rfl (lv_at hl 1 rfl) ?_
  refine lv_aload_n hx hb dJ7_copyOf_1904c_2 rfl (lv_at hl 0 rfl) ?_
  refine va_getC (C := "[Ljava/lang/Object;") (mi := G.2.2 3) hx hb (hml.trans hl.1.symm) hown (hts (.methodLink RJ7 86 ⟨"java/lang/Object", "getClass", "()Ljava/lang/Class;"⟩) (by decide +kernel)) hN.2.2.2.use (hts (.selects "[Ljava/lang/Object;" ⟨"java/lang/Object", "getClass", "()Ljava/lang/Class;"⟩ ⟨"java/lang/Object", "getClass", "()Ljava/lang/Class;"⟩) (by decide +kernel)) (hts (.instanceMethod ⟨"java/lang/Object", "getClass", "()Ljava/lang/Class;"⟩) (by decide +kernel)) (hts (.native ⟨"java/lang/Object", "getClass", "()Ljava/lang/Class;"⟩) (by decide +kernel)) hN.2.2.1 (arr_cls hK hP 0 rfl) (Nat.le_of_ble_eq_true rfl) (Nat.le_of_ble_eq_true rfl) dJ7_copyOf_1904c_3 ?_
  refine cWSrP (As := [.ref a0, .int (iI n), .ref (G.2.2 3)]) (rest := []) (wr0 := []) (X := [(a0, .inl (G.2.1 3, cap, .inr (.inr (.inr (.inr F)))))]) (pl := pl) (cx := [(a0, .inl (G.2.1 3, cap, .inr (.inr (.inr (.inr F)))))]) ⟨hx, hb, hml, hown, hts⟩ (c_J7_copyOf_6403c l G ci rr pl a0 cap F n s.heap.size (by exact hci) (by exact hca) (by omega) (by exact hel)) (va_cwS 3 hts gJ7_copyOf_1904c_J7_copyOf_6403c rfl rfl rfl (by decide +kernel) ⟨Nat.le_of_ble_eq_true rfl, Nat.le_of_ble_eq_true rfl⟩) rfl hl.1 rfl (Nat.le_of_ble_eq_true rfl) dJ7_copyOf_1904c_6 ⟨Nat.le_of_ble_eq_true rfl, Nat.le_of_ble_eq_true rfl⟩ hP hD hK hT hN hS hA [0] [] rfl rfl (by decide) (by decide) (by decide) (fun u_1 hu_1 H locs hz_1 hP hD hS => ?_)
  generalize u_1 = q1_1 at *
  have hP : va_P G.1 vwCl ([(a0, .inl (G.2.1 3, cap, .inr (.inr (.inr (.inr F))))), (q1_1, .inl (G.2.1 3, n.toNat, .inr (.inr (.inr (.inr (va_cpy F (fun _ => none) 0 0 cap))))))] ++ pl) H := hP
  have hD : va_D A ([(a0, .inl (G.2.1 3, cap, .inr (.inr (.inr (.inr F))))), (q1_1, .inl (G.2.1 3, n.toNat, .inr (.inr (.inr (.inr (va_cpy F (fun _ => none) 0 0 cap))))))] ++ pl) := hD
  exact rtWr hx hb hr hlocks (Or.inr ⟨_, rfl⟩) dJ7_copyOf_1904c_9 (q1_1) trivial hP hD hS
abbrev rm_c_grow1_0 : Room := { frames := 1, cells := 1, slots := 64, locals := 21 }
set_option maxHeartbeats 4000000 in
set_option maxRecDepth 100000 in
theorem c_grow1_0 (l : Launch) (G : Gx) (ci : Nat) (rr : vw_C) (pl : va_W) (h0 : Nat) (md : Int) (sz : Nat) (hci : vwCl[ci]? = some rr) (hca : Cond.castable rr.1 "java/lang/Object" ∈ nestWs) : Met l yJx4a65c_grow_92f84 wsJx4a65c_grow_92f84 rm_c_grow1_0 (va_Pc [.ref h0, .int (iI 1)] (wr G ([(h0, .inr (0, [.int (iI md), .ref (G.2.2 2), .int (iI 0)]))] ++ pl) sz)) (va_Qr (fun (u : Nat) => True) (Bwr G.1 vwCl (fun (u : Nat) => [(h0, .inr (0, [.int (iI md), .ref u, .int (iI 0)])), (u, .inl (G.2.1 3, 10, .inr (.inr (.inr (.inr (fun _ => none))))))] ++ pl) (fun (u : Nat) => u) (va_A ([(h0, .inr (0, [.int (iI md), .ref (G.2.2 2), .int (iI 0)]))] ++ pl) sz)) (va_A ([(h0, .inr (0, [.int (iI md), .ref (G.2.2 2), .int (iI 0)]))] ++ pl) sz)) 1 64 (va_A ([(h0, .inr (0, [.int (iI md), .ref (G.2.2 2), .int (iI 0)]))] ++ pl) sz) := by
  refine enW (y := yJx4a65c_grow_92f84) (ws := wsJx4a65c_grow_92f84) (As := [.ref h0, .int (iI 1)]) (Qc := fun A => (va_Qr (fun (u : Nat) => True) (Bwr G.1 vwCl (fun (u : Nat) => [(h0, .inr (0, [.int (iI md), .ref u, .int (iI 0)])), (u, .inl (G.2.1 3, 10, .inr (.inr (.inr (.inr (fun _ => none))))))] ++ pl) (fun (u : Nat) => u) A) A)) (mc := 1) (ms := 64) (cc := cJx4a65c_grow_92f84) (maxL := 4) (ret := (some (.array (.object "java/lang/Object")))) (C := RJx4a65c) [(0, .ref h0), (1, .int (iI 1))] (by decide) rfl rfl (Nat.le_of_ble_eq_true rfl) rfl ?_
  intro p e s m args below meth c ls A hx hb hr hml hown hts hlocks hin hP hK hD hT hN hA hS hl
  show W p l e rm_c_grow1_0 s m args below meth c s.heap [] 0 0 _ (F0 m 0 ls [])
  refine lv_aload_n hx hb dJx4a65c_grow_92f84_0 rfl (lv_at hl 0 rfl) ?_
  refine va_get (D := G.1) (ci := 0) (v := .ref (G.2.2 2)) (C := RJx4a65c) (T := TJx4a65c) (N := 3) hx hb hts (by decide +kernel) hown hK hP 0 rfl rfl 1 (by decide) (hts (.fieldLink RJx4a65c 9 "java/util/ArrayList" "elementData" "[Ljava/lang/Object;") (by decide +kernel)) (fun _ h9 => h9) rfl dJx4a65c_grow_92f84_1 ?_
  refine va_tlen (v := iI 0) hx hb hT.2.2.2.2.2 hS (by decide) dJx4a65c_grow_92f84_4 ?_
  refine lv_istore_n (lv' := [(2, .int (iI 0)), (0, .ref h0), (1, .int (iI 1))]) hx hb dJx4a65c_grow_92f84_5 rfl hl (by decide) rfl (fun ls hl => ?_)
  refine lv_iload_n hx hb dJx4a65c_grow_92f84_6 rfl (lv_at hl 0 rfl) ?_
  refine w_if_gt (tgt := 20) hx hb dJx4a65c_grow_92f84_7 (by decide) (by decide) (fun c_ => absurd c_ (by decide)) (fun _ => ?_)
  refine lv_aload_n hx hb dJx4a65c_grow_92f84_10 rfl (lv_at hl 1 rfl) ?_
  refine va_get (D := G.1) (ci := 0) (v := .ref (G.2.2 2)) (C := RJx4a65c) (T := TJx4a65c) (N := 3) hx hb hts (by decide +kernel) hown hK hP 0 rfl rfl 1 (by decide) (hts (.fieldLink RJx4a65c 9 "java/util/ArrayList" "elementData" "[Ljava/lang/Object;") (by decide +kernel)) (fun _ h9 => h9) rfl dJx4a65c_grow_92f84_11 ?_
  refine va_gets (v := .ref (G.2.2 2)) hx hb hT.2.2.2.2.1 hS hown (hts (.fieldLink RJx4a65c 39 "java/util/ArrayList" "DEFAULTCAPACITY_EMPTY_ELEMENTDATA" "[Ljava/lang/Object;") (by decide +kernel)) (fun _ h9 => h9) dJx4a65c_grow_92f84_14 ?_
  refine lv_acmp_eq (rx := some (G.2.2 2)) (ry := some (G.2.2 2)) (tgt := 45) hx hb dJx4a65c_grow_92f84_17 (by decide) (fun _ => ?_) (fun c_ => absurd rfl c_)
  refine lv_aload_n hx hb dJx4a65c_grow_92f84_45 rfl (lv_at hl 1 rfl) ?_
  refine lv_bipush (v := iI 10) hx hb dJx4a65c_grow_92f84_46 (by decide) ?_
  refine lv_iload_n hx hb dJx4a65c_grow_92f84_48 rfl (lv_at hl 2 rfl) ?_
  refine w_mmax hx hb (hml.trans hl.1.symm) hown (hts (.methodLink RJx4a65c 79 Lib.Math.max.name) (by decide +kernel)) (hts (.static Lib.Math.max.name) (by decide +kernel)) (hts (.initialized "java/lang/Math") (by decide +kernel)) (hts (.code Lib.Math.max.name Lib.Math.max.code 2 (some .int)) (by decide +kernel)) (Nat.le_of_ble_eq_true rfl) (Nat.le_of_ble_eq_true rfl) (Nat.le_of_ble_eq_true rfl) (Nat.le_of_ble_eq_true rfl) (by decide) (by decide) dJx4a65c_grow_92f84_49 ?_
  refine w_anew hx hb hown (hts (.classLink RJx4a65c 7 "java/lang/Object") (by decide +kernel)) hN hK hP hD hS hA 10 (by omega) (by omega) (Nat.le_of_ble_eq_true rfl) (by show _ ≤ 64; omega) dJx4a65c_grow_92f84_52 (fun q52_2 H hP hD hS => ?_)
  refine W.widen (k := 1) (n := 64) (by omega) (by omega) ?_
  have hP := va_P.swap (a := [(h0, .inr (0, [.int (iI md), .ref (G.2.2 2), .int (iI 0)]))]) (b := pl) (c := [(q52_2, .inl (G.2.1 3, 10, .inr (.inr (.inr (.inr (fun _ => none))))))]) hP
  have hD := va_D.swap (a := [(h0, .inr (0, [.int (iI md), .ref (G.2.2 2), .int (iI 0)]))]) (b := pl) (c := [(q52_2, .inl (G.2.1 3, 10, .inr (.inr (.inr (.inr (fun _ => none))))))]) hD
  have hP : va_P G.1 vwCl ([(h0, .inr (0, [.int (iI md), .ref (G.2.2 2), .int (iI 0)])), (q52_2, .inl (G.2.1 3, 10, .inr (.inr (.inr (.inr (fun _ => none))))))] ++ pl) H := hP
  have hD : va_D A ([(h0, .inr (0, [.int (iI md), .ref (G.2.2 2), .int (iI 0)])), (q52_2, .inl (G.2.1 3, 10, .inr (.inr (.inr (.inr (fun _ => none))))))] ++ pl) := hD
  refine lv_dup_x1 hx hb dJx4a65c_grow_92f84_55 rfl rfl ?_
  refine va_put (D := G.1) (ci := 0) (v := .ref q52_2) (ty := (.array (.object "java/lang/Object"))) (C := RJx4a65c) (T := TJx4a65c) (N := 3) hx hb hts (by decide +kernel) tyJx4a65c tyJx4a65c_ok nmJx4a65c hown hK hP hD hS 0 rfl rfl 1 (by decide) (hts (.fieldLink RJx4a65c 9 "java/util/ArrayList" "elementData" "[Ljava/lang/Object;") (by decide +kernel)) (fun _ h9 => h9) rfl (by decide +kernel) rfl rfl (Nat.le_of_ble_eq_true rfl) dJx4a65c_grow_92f84_56 (fun H locs hP hD hS => ?_)
  have hP : va_P G.1 vwCl ([(h0, .inr (0, [.int (iI md), .ref q52_2, .int (iI 0)])), (q52_2, .inl (G.2.1 3, 10, .inr (.inr (.inr (.inr (fun _ => none))))))] ++ pl) H := hP
  have hD : va_D A ([(h0, .inr (0, [.int (iI md), .ref q52_2, .int (iI 0)])), (q52_2, .inl (G.2.1 3, 10, .inr (.inr (.inr (.inr (fun _ => none))))))] ++ pl) := hD
  exact rtWr hx hb hr hlocks (Or.inr ⟨_, rfl⟩) dJx4a65c_grow_92f84_59 (q52_2) trivial hP hD hS
abbrev rm_c_grow_0 : Room := { frames := 2, cells := 1, slots := 64, locals := 44 }
set_option maxHeartbeats 4000000 in
set_option maxRecDepth 100000 in
theorem c_grow_0 (l : Launch) (G : Gx) (ci : Nat) (rr : vw_C) (pl : va_W) (h0 : Nat) (md : Int) (sz : Nat) (hci : vwCl[ci]? = some rr) (hca : Cond.castable rr.1 "java/lang/Object" ∈ nestWs) : Met l yJx4a65c_grow_d5877 wsJx4a65c_grow_d5877 rm_c_grow_0 (va_Pc [.ref h0] (wr G ([(h0, .inr (0, [.int (iI md), .ref (G.2.2 2), .int (iI 0)]))] ++ pl) sz)) (va_Qr (fun (u : Nat) => True) (Bwr G.1 vwCl (fun (u : Nat) => [(h0, .inr (0, [.int (iI md), .ref u, .int (iI 0)])), (u, .inl (G.2.1 3, 10, .inr (.inr (.inr (.inr (fun _ => none))))))] ++ pl) (fun (u : Nat) => u) (va_A ([(h0, .inr (0, [.int (iI md), .ref (G.2.2 2), .int (iI 0)]))] ++ pl) sz)) (va_A ([(h0, .inr (0, [.int (iI md), .ref (G.2.2 2), .int (iI 0)]))] ++ pl) sz)) 1 64 (va_A ([(h0, .inr (0, [.int (iI md), .ref (G.2.2 2), .int (iI 0)]))] ++ pl) sz) := by
  refine enW (y := yJx4a65c_grow_d5877) (ws := wsJx4a65c_grow_d5877) (As := [.ref h0]) (Qc := fun A => (va_Qr (fun (u : Nat) => True) (Bwr G.1 vwCl (fun (u : Nat) => [(h0, .inr (0, [.int (iI md), .ref u, .int (iI 0)])), (u, .inl (G.2.1 3, 10, .inr (.inr (.inr (.inr (fun _ => none))))))] ++ pl) (fun (u : Nat) => u) A) A)) (mc := 1) (ms := 64) (cc := cJx4a65c_grow_d5877) (maxL := 1) (ret := (some (.array (.object "java/lang/Object")))) (C := RJx4a65c) [(0, .ref h0)] (by decide) rfl rfl (Nat.le_of_ble_eq_true rfl) rfl ?_
  intro p e s m args below meth c ls A hx hb hr hml hown hts hlocks hin hP hK hD hT hN hA hS hl
  show W p l e rm_c_grow_0 s m args below meth c s.heap [] 0 0 _ (F0 m 0 ls [])
  refine lv_aload_n hx hb dJx4a65c_grow_d5877_0 rfl (lv_at hl 0 rfl) ?_
  refine lv_aload_n hx hb dJx4a65c_grow_d5877_1 rfl (lv_at hl 0 rfl) ?_
  refine va_get (D := G.1) (ci := 0) (v := .int (iI 0)) (C := RJx4a65c) (T := TJx4a65c) (N := 3) hx hb hts (by decide +kernel) hown hK hP 0 rfl rfl 2 (by decide) (hts (.fieldLink RJx4a65c 48 "java/util/ArrayList" "size" "I") (by decide +kernel)) (fun _ h9 => h9) rfl dJx4a65c_grow_d5877_2 ?_
  refine lv_iconst (v := iI 1) hx hb dJx4a65c_grow_d5877_5 rfl ?_
  refine w_iadd hx hb dJx4a65c_grow_d5877_6 ?_
  refine cWVrP (As := [.int (iI (0 + 1))]) (rest := []) (wr0 := []) (X := [(h0, .inr (0, [.int (iI md), .ref (G.2.2 2), .int (iI 0)]))]) (pl := pl) (cx := [(h0, .inr (0, [.int (iI md), .ref (G.2.2 2), .int (iI 0)]))]) ⟨hx, hb, hml, hown, hts⟩ (c_grow1_0 l G ci rr pl h0 md s.heap.size (by exact hci) (by exact hca)) (cwV 1 hts gJx4a65c_grow_d5877_Jx4a65c_grow_92f84 rfl rfl rfl (by decide +kernel) ⟨Nat.le_of_ble_eq_true rfl, Nat.le_of_ble_eq_true rfl⟩) rfl hl.1 rfl (Nat.le_of_ble_eq_true rfl) dJx4a65c_grow_d5877_7 ⟨Nat.le_of_ble_eq_true rfl, Nat.le_of_ble_eq_true rfl⟩ hP hD hK hT hN hS hA [0] [] rfl rfl (by decide) (by decide) (by decide) (ci := 0) rfl rfl (fun u_1 hu_1 H locs hz_1 hP hD hS => ?_)
  generalize u_1 = q1_1 at *
  have hP : va_P G.1 vwCl ([(h0, .inr (0, [.int (iI md), .ref q1_1, .int (iI 0)])), (q1_1, .inl (G.2.1 3, 10, .inr (.inr (.inr (.inr (fun _ => none))))))] ++ pl) H := hP
  have hD : va_D A ([(h0, .inr (0, [.int (iI md), .ref q1_1, .int (iI 0)])), (q1_1, .inl (G.2.1 3, 10, .inr (.inr (.inr (.inr (fun _ => none))))))] ++ pl) := hD
  exact rtWr hx hb hr hlocks (Or.inr ⟨_, rfl⟩) dJx4a65c_grow_d5877_10 (q1_1) trivial hP hD hS
abbrev rm_c_grow1_g : Room := { frames := 3, cells := 1, slots := 64, locals := 92 }
set_option maxHeartbeats 4000000 in
set_option maxRecDepth 100000 in
theorem c_grow1_g (l : Launch) (G : Gx) (ci : Nat) (rr : vw_C) (pl : va_W) (h0 : Nat) (md : Int) (ea : Nat) (n : Int) (cap : Nat) (F : Nat → Option Nat) (sz : Nat) (hci : vwCl[ci]? = some rr) (hca : Cond.castable rr.1 "java/lang/Object" ∈ nestWs) (hn : n = cap ∧ 10 ≤ cap ∧ cap ≤ 40) (hel : elT ci cap F pl) : Met l yJx4a65c_grow_92f84 wsJx4a65c_grow_92f84 rm_c_grow1_g (va_Pc [.ref h0, .int (iI (n + 1))] (wr G ([(h0, .inr (0, [.int (iI md), .ref ea, .int (iI n)])), (ea, .inl (G.2.1 3, cap, .inr (.inr (.inr (.inr F)))))] ++ pl) sz)) (va_Qr (fun (u : Nat) => True) (Bwr G.1 vwCl (fun (u : Nat) => [(h0, .inr (0, [.int (iI md), .ref u, .int (iI n)])), (u, .inl (G.2.1 3, (cap + (max 1 (cap / 2 : Nat) : Nat)), .inr (.inr (.inr (.inr (va_cpy F (fun _ => none) 0 0 cap))))))] ++ pl) (fun (u : Nat) => u) (va_A ([(h0, .inr (0, [.int (iI md), .ref ea, .int (iI n)])), (ea, .inl (G.2.1 3, cap, .inr (.inr (.inr (.inr F)))))] ++ pl) sz)) (va_A ([(h0, .inr (0, [.int (iI md), .ref ea, .int (iI n)])), (ea, .inl (G.2.1 3, cap, .inr (.inr (.inr (.inr F)))))] ++ pl) sz)) 1 64 (va_A ([(h0, .inr (0, [.int (iI md), .ref ea, .int (iI n)])), (ea, .inl (G.2.1 3, cap, .inr (.inr (.inr (.inr F)))))] ++ pl) sz) := by
  refine enW (y := yJx4a65c_grow_92f84) (ws := wsJx4a65c_grow_92f84) (As := [.ref h0, .int (iI (n + 1))]) (Qc := fun A => (va_Qr (fun (u : Nat) => True) (Bwr G.1 vwCl (fun (u : Nat) => [(h0, .inr (0, [.int (iI md), .ref u, .int (iI n)])), (u, .inl (G.2.1 3, (cap + (max 1 (cap / 2 : Nat) : Nat)), .inr (.inr (.inr (.inr (va_cpy F (fun _ => none) 0 0 cap))))))] ++ pl) (fun (u : Nat) => u) A) A)) (mc := 1) (ms := 64) (cc := cJx4a65c_grow_92f84) (maxL := 4) (ret := (some (.array (.object "java/lang/Object")))) (C := RJx4a65c) [(0, .ref h0), (1, .int (iI (n + 1)))] (by decide) rfl rfl (Nat.le_of_ble_eq_true rfl) rfl ?_
  intro p e s m args below meth c ls A hx hb hr hml hown hts hlocks hin hP hK hD hT hN hA hS hl
  show W p l e rm_c_grow1_g s m args below meth c s.heap [] 0 0 _ (F0 m 0 ls [])
  refine lv_aload_n hx hb dJx4a65c_grow_92f84_0 rfl (lv_at hl 0 rfl) ?_
  refine va_get (D := G.1) (ci := 0) (v := .ref ea) (C := RJx4a65c) (T := TJx4a65c) (N := 3) hx hb hts (by decide +kernel) hown hK hP 0 rfl rfl 1 (by decide) (hts (.fieldLink RJx4a65c 9 "java/util/ArrayList" "elementData" "[Ljava/lang/Object;") (by decide +kernel)) (fun _ h9 => h9) rfl dJx4a65c_grow_92f84_1 ?_
  refine va_alen (v := iI ((cap : Nat) : Int)) hx hb hK hP 1 3 rfl rfl (iI_N _) dJx4a65c_grow_92f84_4 ?_
  refine lv_istore_n (lv' := [(2, .int (iI ((cap : Nat) : Int))), (0, .ref h0), (1, .int (iI (n + 1)))]) hx hb dJx4a65c_grow_92f84_5 rfl hl (by decide) rfl (fun ls hl => ?_)
  refine lv_iload_n hx hb dJx4a65c_grow_92f84_6 rfl (lv_at hl 0 rfl) ?_
  refine w_if_gt (tgt := 20) hx hb dJx4a65c_grow_92f84_7 (by decide) (by omega) (fun c_7_1 => ?_) (fun c_7_1 => absurd c_7_1 (by omega))
  refine lv_iload_n hx hb dJx4a65c_grow_92f84_20 rfl (lv_at hl 0 rfl) ?_
  refine lv_iload_n hx hb dJx4a65c_grow_92f84_21 rfl (lv_at hl 2 rfl) ?_
  refine lv_iload_n hx hb dJx4a65c_grow_92f84_22 rfl (lv_at hl 0 rfl) ?_
  refine w_isub hx hb dJx4a65c_grow_92f84_23 ?_
  refine lv_iload_n hx hb dJx4a65c_grow_92f84_24 rfl (lv_at hl 0 rfl) ?_
  refine lv_iconst (v := iI 1) hx hb dJx4a65c_grow_92f84_25 rfl ?_
  refine lv_ishr hx hb dJx4a65c_grow_92f84_26 ?_
  refine W.eq (g2 := F0 m 27 ls [.int (iI ((cap / 2 : Nat) : Int)), .int (iI ((n + 1) - ((cap : Nat) : Int))), .int (iI ((cap : Nat) : Int))]) (by first | rfl | (rw [show (.int ((iI ((cap : Nat) : Int)) >>> ((iI 1) &&& 31)) : Value) = .int (iI ((cap / 2 : Nat) : Int)) from by exact congrArg Value.int (shr_half (by omega))])) ?_
  refine cRSi (As := [.int (iI ((cap : Nat) : Int)), .int (iI ((n + 1) - ((cap : Nat) : Int))), .int (iI ((cap / 2 : Nat) : Int))]) (rest := []) ⟨hx, hb, hml, hown, hts⟩ (c_J8_newLength_cabcc l G ((cap : Nat) : Int) ((n + 1) - ((cap : Nat) : Int)) ((cap / 2 : Nat) : Int) (by omega)) (va_cwS 3 hts gJx4a65c_grow_92f84_J8_newLength_cabcc rfl rfl rfl (by decide +kernel) ⟨Nat.le_of_ble_eq_true rfl, Nat.le_of_ble_eq_true rfl⟩) rfl hl.1 rfl (Nat.le_of_ble_eq_true rfl) dJx4a65c_grow_92f84_27 ⟨Nat.le_of_ble_eq_true rfl, Nat.le_of_ble_eq_true rfl⟩ va_P_nil hK hT hN hS ?_
  refine lv_istore_n (lv' := [(3, .int (iI (((cap : Nat) : Int) + max ((n + 1) - ((cap : Nat) : Int)) ((cap / 2 : Nat) : Int)))), (2, .int (iI ((cap : Nat) : Int))), (0, .ref h0), (1, .int (iI (n + 1)))]) hx hb dJx4a65c_grow_92f84_30 rfl hl (by decide) rfl (fun ls hl => ?_)
  refine lv_aload_n hx hb dJx4a65c_grow_92f84_31 rfl (lv_at hl 2 rfl) ?_
  refine lv_aload_n hx hb dJx4a65c_grow_92f84_32 rfl (lv_at hl 2 rfl) ?_
  refine va_get (D := G.1) (ci := 0) (v := .ref ea) (C := RJx4a65c) (T := TJx4a65c) (N := 3) hx hb hts (by decide +kernel) hown hK hP 0 rfl rfl 1 (by decide) (hts (.fieldLink RJx4a65c 9 "java/util/ArrayList" "elementData" "[Ljava/lang/Object;") (by decide +kernel)) (fun _ h9 => h9) rfl dJx4a65c_grow_92f84_33 ?_
  refine lv_iload_n hx hb dJx4a65c_grow_92f84_36 rfl (lv_at hl 0 rfl) ?_
  refine cWSrP (As := [.ref ea, .int (iI (((cap : Nat) : Int) + max ((n + 1) - ((cap : Nat) : Int)) ((cap / 2 : Nat) : Int)))]) (rest := [.ref h0]) (wr0 := [(h0, .inr (0, [.int (iI md), .ref ea, .int (iI n)]))]) (X := [(h0, .inr (0, [.int (iI md), .ref ea, .int (iI n)])), (ea, .inl (G.2.1 3, cap, .inr (.inr (.inr (.inr F)))))]) (pl := pl) (cx := [(ea, .inl (G.2.1 3, cap, .inr (.inr (.inr (.inr F)))))]) ⟨hx, hb, hml, hown, hts⟩ (c_J7_copyOf_1904c l G ci rr pl ea cap F (((cap : Nat) : Int) + max ((n + 1) - ((cap : Nat) : Int)) ((cap / 2 : Nat) : Int)) s.heap.size (by exact hci) (by exact hca) (by omega) (by exact hel)) (va_cwS 2 hts gJx4a65c_grow_92f84_J7_copyOf_1904c rfl rfl rfl (by decide +kernel) ⟨Nat.le_of_ble_eq_true rfl, Nat.le_of_ble_eq_true rfl⟩) rfl hl.1 rfl (Nat.le_of_ble_eq_true rfl) dJx4a65c_grow_92f84_37 ⟨Nat.le_of_ble_eq_true rfl, Nat.le_of_ble_eq_true rfl⟩ hP hD hK hT hN hS hA [1] [0] rfl rfl (by decide) (by decide) (by decide) (fun u_2 hu_2 H locs hz_2 hP hD hS => ?_)
  generalize u_2 = q1_2 at *
  have hP : va_P G.1 vwCl ([(h0, .inr (0, [.int (iI md), .ref ea, .int (iI n)])), (ea, .inl (G.2.1 3, cap, .inr (.inr (.inr (.inr F))))), (q1_2, .inl (G.2.1 3, (((cap : Nat) : Int) + max ((n + 1) - ((cap : Nat) : Int)) ((cap / 2 : Nat) : Int)).toNat, .inr (.inr (.inr (.inr (va_cpy F (fun _ => none) 0 0 cap))))))] ++ pl) H := hP
  have hD : va_D A ([(h0, .inr (0, [.int (iI md), .ref ea, .int (iI n)])), (ea, .inl (G.2.1 3, cap, .inr (.inr (.inr (.inr F))))), (q1_2, .inl (G.2.1 3, (((cap : Nat) : Int) + max ((n + 1) - ((cap : Nat) : Int)) ((cap / 2 : Nat) : Int)).toNat, .inr (.inr (.inr (.inr (va_cpy F (fun _ => none) 0 0 cap))))))] ++ pl) := hD
  refine lv_dup_x1 hx hb dJx4a65c_grow_92f84_40 rfl rfl ?_
  refine va_put (D := G.1) (ci := 0) (v := .ref q1_2) (ty := (.array (.object "java/lang/Object"))) (C := RJx4a65c) (T := TJx4a65c) (N := 3) hx hb hts (by decide +kernel) tyJx4a65c tyJx4a65c_ok nmJx4a65c hown hK hP hD hS 0 rfl rfl 1 (by decide) (hts (.fieldLink RJx4a65c 9 "java/util/ArrayList" "elementData" "[Ljava/lang/Object;") (by decide +kernel)) (fun _ h9 => h9) rfl (by decide +kernel) rfl rfl (Nat.le_of_ble_eq_true rfl) dJx4a65c_grow_92f84_41 (fun H locs hP hD hS => ?_)
  have hP : va_P G.1 vwCl ([(h0, .inr (0, [.int (iI md), .ref q1_2, .int (iI n)])), (ea, .inl (G.2.1 3, cap, .inr (.inr (.inr (.inr F))))), (q1_2, .inl (G.2.1 3, (((cap : Nat) : Int) + max ((n + 1) - ((cap : Nat) : Int)) ((cap / 2 : Nat) : Int)).toNat, .inr (.inr (.inr (.inr (va_cpy F (fun _ => none) 0 0 cap))))))] ++ pl) H := hP
  have hD : va_D A ([(h0, .inr (0, [.int (iI md), .ref q1_2, .int (iI n)])), (ea, .inl (G.2.1 3, cap, .inr (.inr (.inr (.inr F))))), (q1_2, .inl (G.2.1 3, (((cap : Nat) : Int) + max ((n + 1) - ((cap : Nat) : Int)) ((cap / 2 : Nat) : Int)).toNat, .inr (.inr (.inr (.inr (va_cpy F (fun _ => none) 0 0 cap))))))] ++ pl) := hD
  have hwe : ([(h0, .inr (0, [.int (iI md), .ref q1_2, .int (iI n)])), (q1_2, .inl (G.2.1 3, (((cap : Nat) : Int) + max ((n + 1) - ((cap : Nat) : Int)) ((cap / 2 : Nat) : Int)).toNat, .inr (.inr (.inr (.inr (va_cpy F (fun _ => none) 0 0 cap))))))] ++ pl : va_W) = [(h0, .inr (0, [.int (iI md), .ref q1_2, .int (iI n)])), (q1_2, .inl (G.2.1 3, (cap + (max 1 (cap / 2 : Nat) : Nat)), .inr (.inr (.inr (.inr (va_cpy F (fun _ => none) 0 0 cap))))))] ++ pl := by rw [show ((cap : Int) + max (n + 1 - (cap : Int)) ((cap / 2 : Nat) : Int)).toNat = cap + max 1 (cap / 2) from by omega]
  have hP9 : va_P G.1 vwCl ([(h0, .inr (0, [.int (iI md), .ref q1_2, .int (iI n)])), (q1_2, .inl (G.2.1 3, (cap + (max 1 (cap / 2 : Nat) : Nat)), .inr (.inr (.inr (.inr (va_cpy F (fun _ => none) 0 0 cap))))))] ++ pl) H := hwe ▸ (hP.part [0, 2] rfl)
  have hD9 : va_D A ([(h0, .inr (0, [.int (iI md), .ref q1_2, .int (iI n)])), (q1_2, .inl (G.2.1 3, (cap + (max 1 (cap / 2 : Nat) : Nat)), .inr (.inr (.inr (.inr (va_cpy F (fun _ => none) 0 0 cap))))))] ++ pl) := hwe ▸ (hD.part [0, 2] (by decide) rfl)
  exact rtWr hx hb hr hlocks (Or.inr ⟨_, rfl⟩) dJx4a65c_grow_92f84_44 (q1_2) trivial hP9 hD9 hS
abbrev rm_c_grow_g : Room := { frames := 4, cells := 1, slots := 64, locals := 115 }
set_option maxHeartbeats 4000000 in
set_option maxRecDepth 100000 in
theorem c_grow_g (l : Launch) (G : Gx) (ci : Nat) (rr : vw_C) (pl : va_W) (h0 : Nat) (md : Int) (ea : Nat) (n : Int) (cap : Nat) (F : Nat → Option Nat) (sz : Nat) (hci : vwCl[ci]? = some rr) (hca : Cond.castable rr.1 "java/lang/Object" ∈ nestWs) (hn : n = cap ∧ 10 ≤ cap ∧ cap ≤ 40) (hel : elT ci cap F pl) : Met l yJx4a65c_grow_d5877 wsJx4a65c_grow_d5877 rm_c_grow_g (va_Pc [.ref h0] (wr G ([(h0, .inr (0, [.int (iI md), .ref ea, .int (iI n)])), (ea, .inl (G.2.1 3, cap, .inr (.inr (.inr (.inr F)))))] ++ pl) sz)) (va_Qr (fun (u : Nat) => True) (Bwr G.1 vwCl (fun (u : Nat) => [(h0, .inr (0, [.int (iI md), .ref u, .int (iI n)])), (u, .inl (G.2.1 3, (cap + (max 1 (cap / 2 : Nat) : Nat)), .inr (.inr (.inr (.inr (va_cpy F (fun _ => none) 0 0 cap))))))] ++ pl) (fun (u : Nat) => u) (va_A ([(h0, .inr (0, [.int (iI md), .ref ea, .int (iI n)])), (ea, .inl (G.2.1 3, cap, .inr (.inr (.inr (.inr F)))))] ++ pl) sz)) (va_A ([(h0, .inr (0, [.int (iI md), .ref ea, .int (iI n)])), (ea, .inl (G.2.1 3, cap, .inr (.inr (.inr (.inr F)))))] ++ pl) sz)) 1 64 (va_A ([(h0, .inr (0, [.int (iI md), .ref ea, .int (iI n)])), (ea, .inl (G.2.1 3, cap, .inr (.inr (.inr (.inr F)))))] ++ pl) sz) := by
  refine enW (y := yJx4a65c_grow_d5877) (ws := wsJx4a65c_grow_d5877) (As := [.ref h0]) (Qc := fun A => (va_Qr (fun (u : Nat) => True) (Bwr G.1 vwCl (fun (u : Nat) => [(h0, .inr (0, [.int (iI md), .ref u, .int (iI n)])), (u, .inl (G.2.1 3, (cap + (max 1 (cap / 2 : Nat) : Nat)), .inr (.inr (.inr (.inr (va_cpy F (fun _ => none) 0 0 cap))))))] ++ pl) (fun (u : Nat) => u) A) A)) (mc := 1) (ms := 64) (cc := cJx4a65c_grow_d5877) (maxL := 1) (ret := (some (.array (.object "java/lang/Object")))) (C := RJx4a65c) [(0, .ref h0)] (by decide) rfl rfl (Nat.le_of_ble_eq_true rfl) rfl ?_
  intro p e s m args below meth c ls A hx hb hr hml hown hts hlocks hin hP hK hD hT hN hA hS hl
  show W p l e rm_c_grow_g s m args below meth c s.heap [] 0 0 _ (F0 m 0 ls [])
  refine lv_aload_n hx hb dJx4a65c_grow_d5877_0 rfl (lv_at hl 0 rfl) ?_
  refine lv_aload_n hx hb dJx4a65c_grow_d5877_1 rfl (lv_at hl 0 rfl) ?_
  refine va_get (D := G.1) (ci := 0) (v := .int (iI n)) (C := RJx4a65c) (T := TJx4a65c) (N := 3) hx hb hts (by decide +kernel) hown hK hP 0 rfl rfl 2 (by decide) (hts (.fieldLink RJx4a65c 48 "java/util/ArrayList" "size" "I") (by decide +kernel)) (fun _ h9 => h9) rfl dJx4a65c_grow_d5877_2 ?_
  refine lv_iconst (v := iI 1) hx hb dJx4a65c_grow_d5877_5 rfl ?_
  refine w_iadd hx hb dJx4a65c_grow_d5877_6 ?_
  refine cWVrP (As := [.int (iI (n + 1))]) (rest := []) (wr0 := []) (X := [(h0, .inr (0, [.int (iI md), .ref ea, .int (iI n)])), (ea, .inl (G.2.1 3, cap, .inr (.inr (.inr (.inr F)))))]) (pl := pl) (cx := [(h0, .inr (0, [.int (iI md), .ref ea, .int (iI n)])), (ea, .inl (G.2.1 3, cap, .inr (.inr (.inr (.inr F)))))]) ⟨hx, hb, hml, hown, hts⟩ (c_grow1_g l G ci rr pl h0 md ea n cap F s.heap.size (by exact hci) (by exact hca) (by omega) (by exact hel)) (cwV 1 hts gJx4a65c_grow_d5877_Jx4a65c_grow_92f84 rfl rfl rfl (by decide +kernel) ⟨Nat.le_of_ble_eq_true rfl, Nat.le_of_ble_eq_true rfl⟩) rfl hl.1 rfl (Nat.le_of_ble_eq_true rfl) dJx4a65c_grow_d5877_7 ⟨Nat.le_of_ble_eq_true rfl, Nat.le_of_ble_eq_true rfl⟩ hP hD hK hT hN hS hA [0, 1] [] rfl rfl (by decide) (by decide) (by decide) (ci := 0) rfl rfl (fun u_1 hu_1 H locs hz_1 hP hD hS => ?_)
  generalize u_1 = q1_1 at *
  have hP : va_P G.1 vwCl ([(h0, .inr (0, [.int (iI md), .ref q1_1, .int (iI n)])), (q1_1, .inl (G.2.1 3, (cap + (max 1 (cap / 2 : Nat) : Nat)), .inr (.inr (.inr (.inr (va_cpy F (fun _ => none) 0 0 cap))))))] ++ pl) H := hP
  have hD : va_D A ([(h0, .inr (0, [.int (iI md), .ref q1_1, .int (iI n)])), (q1_1, .inl (G.2.1 3, (cap + (max 1 (cap / 2 : Nat) : Nat)), .inr (.inr (.inr (.inr (va_cpy F (fun _ => none) 0 0 cap))))))] ++ pl) := hD
  exact rtWr hx hb hr hlocks (Or.inr ⟨_, rfl⟩) dJx4a65c_grow_d5877_10 (q1_1) trivial hP hD hS
abbrev rm_c_add1_0 : Room := { frames := 3, cells := 1, slots := 64, locals := 64 }
set_option maxHeartbeats 4000000 in
set_option maxRecDepth 100000 in
theorem c_add1_0 (l : Launch) (G : Gx) (ci : Nat) (rr : vw_C) (pl : va_W) (h0 : Nat) (md : Int) (v0 : Nat) (fs : List Value) (sz : Nat) (hci : vwCl[ci]? = some rr) (hca : Cond.castable rr.1 "java/lang/Object" ∈ nestWs) : Met l yJx4a65c_add_72be8 wsJx4a65c_add_72be8 rm_c_add1_0 (va_Pc [.ref h0, .ref v0, .ref (G.2.2 2), .int (iI 0)] (wr G ([(h0, .inr (0, [.int (iI md), .ref (G.2.2 2), .int (iI 0)])), (v0, .inr (ci, fs))] ++ pl) sz)) (va_Qv (fun (u : Nat) => True) (Bw G.1 vwCl (fun (u : Nat) => [(h0, .inr (0, [.int (iI md), .ref u, .int (iI 1)])), (u, .inl (G.2.1 3, 10, .inr (.inr (.inr (.inr (va_up (fun _ => none) 0 (some v0))))))), (v0, .inr (ci, fs))] ++ pl) (va_A ([(h0, .inr (0, [.int (iI md), .ref (G.2.2 2), .int (iI 0)])), (v0, .inr (ci, fs))] ++ pl) sz)) (va_A ([(h0, .inr (0, [.int (iI md), .ref (G.2.2 2), .int (iI 0)])), (v0, .inr (ci, fs))] ++ pl) sz)) 1 64 (va_A ([(h0, .inr (0, [.int (iI md), .ref (G.2.2 2), .int (iI 0)])), (v0, .inr (ci, fs))] ++ pl) sz) := by
  refine enW (y := yJx4a65c_add_72be8) (ws := wsJx4a65c_add_72be8) (As := [.ref h0, .ref v0, .ref (G.2.2 2), .int (iI 0)]) (Qc := fun A => (va_Qv (fun (u : Nat) => True) (Bw G.1 vwCl (fun (u : Nat) => [(h0, .inr (0, [.int (iI md), .ref u, .int (iI 1)])), (u, .inl (G.2.1 3, 10, .inr (.inr (.inr (.inr (va_up (fun _ => none) 0 (some v0))))))), (v0, .inr (ci, fs))] ++ pl) A) A)) (mc := 1) (ms := 64) (cc := cJx4a65c_add_72be8) (maxL := 4) (ret := none) (C := RJx4a65c) [(0, .ref h0), (1, .ref v0), (2, .ref (G.2.2 2)), (3, .int (iI 0))] (by decide) rfl rfl (Nat.le_of_ble_eq_true rfl) rfl ?_
  intro p e s m args below meth c ls A hx hb hr hml hown hts hlocks hin hP hK hD hT hN hA hS hl
  show W p l e rm_c_add1_0 s m args below meth c s.heap [] 0 0 _ (F0 m 0 ls [])
  refine lv_iload_n hx hb dJx4a65c_add_72be8_0 rfl (lv_at hl 3 rfl) ?_
  refine lv_aload_n hx hb dJx4a65c_add_72be8_1 rfl (lv_at hl 2 rfl) ?_
  refine va_tlen (v := iI 0) hx hb hT.2.2.2.2.2 hS (by decide) dJx4a65c_add_72be8_2 ?_
  refine w_icmp_ne (tgt := 11) hx hb dJx4a65c_add_72be8_3 (by decide) (by decide) (by decide) (fun c_ => absurd c_ (by decide)) (fun _ => ?_)
  refine lv_aload_n hx hb dJx4a65c_add_72be8_6 rfl (lv_at hl 0 rfl) ?_
  refine cWVrP (As := []) (rest := []) (wr0 := [(v0, .inr (ci, fs))]) (X := [(h0, .inr (0, [.int (iI md), .ref (G.2.2 2), .int (iI 0)])), (v0, .inr (ci, fs))]) (pl := pl) (cx := [(h0, .inr (0, [.int (iI md), .ref (G.2.2 2), .int (iI 0)]))]) ⟨hx, hb, hml, hown, hts⟩ (c_grow_0 l G ci rr pl h0 md s.heap.size (by exact hci) (by exact hca)) (cwV 0 hts gJx4a65c_add_72be8_Jx4a65c_grow_d5877 rfl rfl rfl (by decide +kernel) ⟨Nat.le_of_ble_eq_true rfl, Nat.le_of_ble_eq_true rfl⟩) rfl hl.1 rfl (Nat.le_of_ble_eq_true rfl) dJx4a65c_add_72be8_7 ⟨Nat.le_of_ble_eq_true rfl, Nat.le_of_ble_eq_true rfl⟩ hP hD hK hT hN hS hA [0] [1] rfl rfl (by decide) (by decide) (by decide) (ci := 0) rfl rfl (fun u_1 hu_1 H locs hz_1 hP hD hS => ?_)
  generalize u_1 = q1_1 at *
  have hP : va_P G.1 vwCl ([(v0, .inr (ci, fs)), (h0, .inr (0, [.int (iI md), .ref q1_1, .int (iI 0)])), (q1_1, .inl (G.2.1 3, 10, .inr (.inr (.inr (.inr (fun _ => none))))))] ++ pl) H := hP
  have hD : va_D A ([(v0, .inr (ci, fs)), (h0, .inr (0, [.int (iI md), .ref q1_1, .int (iI 0)])), (q1_1, .inl (G.2.1 3, 10, .inr (.inr (.inr (.inr (fun _ => none))))))] ++ pl) := hD
  refine lv_astore_n (lv' := [(2, .ref q1_1), (0, .ref h0), (1, .ref v0), (3, .int (iI 0))]) hx hb dJx4a65c_add_72be8_10 rfl hl (by decide) rfl (fun ls hl => ?_)
  refine lv_aload_n hx hb dJx4a65c_add_72be8_11 rfl (lv_at hl 0 rfl) ?_
  refine lv_iload_n hx hb dJx4a65c_add_72be8_12 rfl (lv_at hl 3 rfl) ?_
  refine lv_aload_n hx hb dJx4a65c_add_72be8_13 rfl (lv_at hl 2 rfl) ?_
  refine w_aast hx hb hK hP hD hS hN 2 0 ci rfl hca rfl hci 0 rfl (by decide) (by decide) dJx4a65c_add_72be8_14 (fun H locs hP hD hS => ?_)
  have hP : va_P G.1 vwCl ([(v0, .inr (ci, fs)), (h0, .inr (0, [.int (iI md), .ref q1_1, .int (iI 0)])), (q1_1, .inl (G.2.1 3, 10, .inr (.inr (.inr (.inr (va_up (fun _ => none) 0 (some v0)))))))] ++ pl) H := hP
  have hD : va_D A ([(v0, .inr (ci, fs)), (h0, .inr (0, [.int (iI md), .ref q1_1, .int (iI 0)])), (q1_1, .inl (G.2.1 3, 10, .inr (.inr (.inr (.inr (va_up (fun _ => none) 0 (some v0)))))))] ++ pl) := hD
  refine lv_aload_n hx hb dJx4a65c_add_72be8_15 rfl (lv_at hl 1 rfl) ?_
  refine lv_iload_n hx hb dJx4a65c_add_72be8_16 rfl (lv_at hl 3 rfl) ?_
  refine lv_iconst (v := iI 1) hx hb dJx4a65c_add_72be8_17 rfl ?_
  refine w_iadd hx hb dJx4a65c_add_72be8_18 ?_
  refine va_put (D := G.1) (ci := 0) (v := .int (iI (0 + 1))) (ty := .int) (C := RJx4a65c) (T := TJx4a65c) (N := 3) hx hb hts (by decide +kernel) tyJx4a65c tyJx4a65c_ok nmJx4a65c hown hK hP hD hS 1 rfl rfl 2 (by decide) (hts (.fieldLink RJx4a65c 48 "java/util/ArrayList" "size" "I") (by decide +kernel)) (fun _ h9 => h9) rfl (by decide +kernel) rfl rfl (Nat.le_of_ble_eq_true rfl) dJx4a65c_add_72be8_19 (fun H locs hP hD hS => ?_)
  have hP : va_P G.1 vwCl ([(v0, .inr (ci, fs)), (h0, .inr (0, [.int (iI md), .ref q1_1, .int (iI (0 + 1))])), (q1_1, .inl (G.2.1 3, 10, .inr (.inr (.inr (.inr (va_up (fun _ => none) 0 (some v0)))))))] ++ pl) H := hP
  have hD : va_D A ([(v0, .inr (ci, fs)), (h0, .inr (0, [.int (iI md), .ref q1_1, .int (iI (0 + 1))])), (q1_1, .inl (G.2.1 3, 10, .inr (.inr (.inr (.inr (va_up (fun _ => none) 0 (some v0)))))))] ++ pl) := hD
  have hwe : ([(h0, .inr (0, [.int (iI md), .ref q1_1, .int (iI (0 + 1))])), (q1_1, .inl (G.2.1 3, 10, .inr (.inr (.inr (.inr (va_up (fun _ => none) 0 (some v0))))))), (v0, .inr (ci, fs))] ++ pl : va_W) = [(h0, .inr (0, [.int (iI md), .ref q1_1, .int (iI 1)])), (q1_1, .inl (G.2.1 3, 10, .inr (.inr (.inr (.inr (va_up (fun _ => none) 0 (some v0))))))), (v0, .inr (ci, fs))] ++ pl := by rfl
  have hP9 : va_P G.1 vwCl ([(h0, .inr (0, [.int (iI md), .ref q1_1, .int (iI 1)])), (q1_1, .inl (G.2.1 3, 10, .inr (.inr (.inr (.inr (va_up (fun _ => none) 0 (some v0))))))), (v0, .inr (ci, fs))] ++ pl) H := hwe ▸ (hP.part [1, 2, 0] rfl)
  have hD9 : va_D A ([(h0, .inr (0, [.int (iI md), .ref q1_1, .int (iI 1)])), (q1_1, .inl (G.2.1 3, 10, .inr (.inr (.inr (.inr (va_up (fun _ => none) 0 (some v0))))))), (v0, .inr (ci, fs))] ++ pl) := hwe ▸ (hD.part [1, 2, 0] (by decide) rfl)
  exact rtWv hx hb hr hlocks dJx4a65c_add_72be8_22 (q1_1) trivial hP9 hD9 hS
abbrev rm_c_add_0 : Room := { frames := 4, cells := 1, slots := 64, locals := 87 }
set_option maxHeartbeats 4000000 in
set_option maxRecDepth 100000 in
theorem c_add_0 (l : Launch) (G : Gx) (ci : Nat) (rr : vw_C) (pl : va_W) (h0 : Nat) (md : Int) (v0 : Nat) (fs : List Value) (sz : Nat) (hci : vwCl[ci]? = some rr) (hca : Cond.castable rr.1 "java/lang/Object" ∈ nestWs) : Met l yJx4a65c_add_9ea2d wsJx4a65c_add_9ea2d rm_c_add_0 (va_Pc [.ref h0, .ref v0] (wr G ([(h0, .inr (0, [.int (iI md), .ref (G.2.2 2), .int (iI 0)])), (v0, .inr (ci, fs))] ++ pl) sz)) (va_Qi (fun (rv : Int32) (u : Nat) => rv = (iI 1)) (Bw G.1 vwCl (fun (u : Nat) => [(h0, .inr (0, [.int (iI (md + 1)), .ref u, .int (iI 1)])), (u, .inl (G.2.1 3, 10, .inr (.inr (.inr (.inr (va_up (fun _ => none) 0 (some v0))))))), (v0, .inr (ci, fs))] ++ pl) (va_A ([(h0, .inr (0, [.int (iI md), .ref (G.2.2 2), .int (iI 0)])), (v0, .inr (ci, fs))] ++ pl) sz)) (va_A ([(h0, .inr (0, [.int (iI md), .ref (G.2.2 2), .int (iI 0)])), (v0, .inr (ci, fs))] ++ pl) sz)) 1 64 (va_A ([(h0, .inr (0, [.int (iI md), .ref (G.2.2 2), .int (iI 0)])), (v0, .inr (ci, fs))] ++ pl) sz) := by
  refine enW (y := yJx4a65c_add_9ea2d) (ws := wsJx4a65c_add_9ea2d) (As := [.ref h0, .ref v0]) (Qc := fun A => (va_Qi (fun (rv : Int32) (u : Nat) => rv = (iI 1)) (Bw G.1 vwCl (fun (u : Nat) => [(h0, .inr (0, [.int (iI (md + 1)), .ref u, .int (iI 1)])), (u, .inl (G.2.1 3, 10, .inr (.inr (.inr (.inr (va_up (fun _ => none) 0 (some v0))))))), (v0, .inr (ci, fs))] ++ pl) A) A)) (mc := 1) (ms := 64) (cc := cJx4a65c_add_9ea2d) (maxL := 2) (ret := (some .boolean)) (C := RJx4a65c) [(0, .ref h0), (1, .ref v0)] (by decide) rfl rfl (Nat.le_of_ble_eq_true rfl) rfl ?_
  intro p e s m args below meth c ls A hx hb hr hml hown hts hlocks hin hP hK hD hT hN hA hS hl
  show W p l e rm_c_add_0 s m args below meth c s.heap [] 0 0 _ (F0 m 0 ls [])
  refine lv_aload_n hx hb dJx4a65c_add_9ea2d_0 rfl (lv_at hl 0 rfl) ?_
  refine lv_dup hx hb dJx4a65c_add_9ea2d_1 rfl ?_
  refine va_get (D := G.1) (ci := 0) (v := .int (iI md)) (C := RJx4a65c) (T := TJx4a65c) (N := 3) hx hb hts (by decide +kernel) hown hK hP 0 rfl rfl 0 (by decide) (hts (.fieldLink RJx4a65c 63 "java/util/ArrayList" "modCount" "I") (by decide +kernel)) (fun x9 h9 => u_same (hts (.sameField "java/util/ArrayList" "java/util/AbstractList" "modCount" "I") (by decide +kernel)) x9 h9) rfl dJx4a65c_add_9ea2d_2 ?_
  refine lv_iconst (v := iI 1) hx hb dJx4a65c_add_9ea2d_5 rfl ?_
  refine w_iadd hx hb dJx4a65c_add_9ea2d_6 ?_
  refine va_put (D := G.1) (ci := 0) (v := .int (iI (md + 1))) (ty := .int) (C := RJx4a65c) (T := TJx4a65c) (N := 3) hx hb hts (by decide +kernel) tyJx4a65c tyJx4a65c_ok nmJx4a65c hown hK hP hD hS 0 rfl rfl 0 (by decide) (hts (.fieldLink RJx4a65c 63 "java/util/ArrayList" "modCount" "I") (by decide +kernel)) (fun x9 h9 => u_same (hts (.sameField "java/util/ArrayList" "java/util/AbstractList" "modCount" "I") (by decide +kernel)) x9 h9) rfl (by decide +kernel) rfl rfl (Nat.le_of_ble_eq_true rfl) dJx4a65c_add_9ea2d_7 (fun H locs hP hD hS => ?_)
  have hP : va_P G.1 vwCl ([(h0, .inr (0, [.int (iI (md + 1)), .ref (G.2.2 2), .int (iI 0)])), (v0, .inr (ci, fs))] ++ pl) H := hP
  have hD : va_D A ([(h0, .inr (0, [.int (iI (md + 1)), .ref (G.2.2 2), .int (iI 0)])), (v0, .inr (ci, fs))] ++ pl) := hD
  refine lv_aload_n hx hb dJx4a65c_add_9ea2d_10 rfl (lv_at hl 0 rfl) ?_
  refine lv_aload_n hx hb dJx4a65c_add_9ea2d_11 rfl (lv_at hl 1 rfl) ?_
  refine lv_aload_n hx hb dJx4a65c_add_9ea2d_12 rfl (lv_at hl 0 rfl) ?_
  refine va_get (D := G.1) (ci := 0) (v := .ref (G.2.2 2)) (C := RJx4a65c) (T := TJx4a65c) (N := 3) hx hb hts (by decide +kernel) hown hK hP 0 rfl rfl 1 (by decide) (hts (.fieldLink RJx4a65c 9 "java/util/ArrayList" "elementData" "[Ljava/lang/Object;") (by decide +kernel)) (fun _ h9 => h9) rfl dJx4a65c_add_9ea2d_13 ?_
  refine lv_aload_n hx hb dJx4a65c_add_9ea2d_16 rfl (lv_at hl 0 rfl) ?_
  refine va_get (D := G.1) (ci := 0) (v := .int (iI 0)) (C := RJx4a65c) (T := TJx4a65c) (N := 3) hx hb hts (by decide +kernel) hown hK hP 0 rfl rfl 2 (by decide) (hts (.fieldLink RJx4a65c 48 "java/util/ArrayList" "size" "I") (by decide +kernel)) (fun _ h9 => h9) rfl dJx4a65c_add_9ea2d_17 ?_
  refine cWVvP (As := [.ref v0, .ref (G.2.2 2), .int (iI 0)]) (rest := []) (wr0 := []) (X := [(h0, .inr (0, [.int (iI (md + 1)), .ref (G.2.2 2), .int (iI 0)])), (v0, .inr (ci, fs))]) (pl := pl) (cx := [(h0, .inr (0, [.int (iI (md + 1)), .ref (G.2.2 2), .int (iI 0)])), (v0, .inr (ci, fs))]) ⟨hx, hb, hml, hown, hts⟩ (c_add1_0 l G ci rr pl h0 (md + 1) v0 fs H.size (by exact hci) (by exact hca)) (cwV 3 hts gJx4a65c_add_9ea2d_Jx4a65c_add_72be8 rfl rfl rfl (by decide +kernel) ⟨Nat.le_of_ble_eq_true rfl, Nat.le_of_ble_eq_true rfl⟩) rfl hl.1 rfl (Nat.le_of_ble_eq_true rfl) dJx4a65c_add_9ea2d_20 ⟨Nat.le_of_ble_eq_true rfl, Nat.le_of_ble_eq_true rfl⟩ hP hD hK hT hN hS hA [0, 1] [] rfl rfl (by decide) (by decide) (by decide) (ci := 0) rfl rfl (fun u_1 hu_1 H locs hz_1 hP hD hS => ?_)
  generalize u_1 = q1_1 at *
  have hP : va_P G.1 vwCl ([(h0, .inr (0, [.int (iI (md + 1)), .ref q1_1, .int (iI 1)])), (q1_1, .inl (G.2.1 3, 10, .inr (.inr (.inr (.inr (va_up (fun _ => none) 0 (some v0))))))), (v0, .inr (ci, fs))] ++ pl) H := hP
  have hD : va_D A ([(h0, .inr (0, [.int (iI (md + 1)), .ref q1_1, .int (iI 1)])), (q1_1, .inl (G.2.1 3, 10, .inr (.inr (.inr (.inr (va_up (fun _ => none) 0 (some v0))))))), (v0, .inr (ci, fs))] ++ pl) := hD
  refine lv_iconst (v := iI 1) hx hb dJx4a65c_add_9ea2d_23 rfl ?_
  exact rtWz hx hb hr hlocks (by decide) dJx4a65c_add_9ea2d_24 (q1_1) rfl hP hD hS
abbrev rm_c_add1_s : Room := { frames := 0, cells := 0, slots := 0, locals := 0 }
set_option maxHeartbeats 4000000 in
set_option maxRecDepth 100000 in
theorem c_add1_s (l : Launch) (G : Gx) (ci : Nat) (rr : vw_C) (pl : va_W) (h0 : Nat) (md : Int) (ea : Nat) (n : Int) (cap : Nat) (F : Nat → Option Nat) (v0 : Nat) (fs : List Value) (sz : Nat) (hci : vwCl[ci]? = some rr) (hca : Cond.castable rr.1 "java/lang/Object" ∈ nestWs) (hn : 0 ≤ n ∧ n < cap ∧ cap ≤ 100) : Met l yJx4a65c_add_72be8 wsJx4a65c_add_72be8 rm_c_add1_s (va_Pc [.ref h0, .ref v0, .ref ea, .int (iI n)] (wr G ([(h0, .inr (0, [.int (iI md), .ref ea, .int (iI n)])), (ea, .inl (G.2.1 3, cap, .inr (.inr (.inr (.inr F))))), (v0, .inr (ci, fs))] ++ pl) sz)) (va_Qv (fun (u : Unit) => True) (Bw G.1 vwCl (fun (u : Unit) => [(h0, .inr (0, [.int (iI md), .ref ea, .int (iI (n + 1))])), (ea, .inl (G.2.1 3, cap, .inr (.inr (.inr (.inr (va_up F n.toNat (some v0))))))), (v0, .inr (ci, fs))] ++ pl) (va_A ([(h0, .inr (0, [.int (iI md), .ref ea, .int (iI n)])), (ea, .inl (G.2.1 3, cap, .inr (.inr (.inr (.inr F))))), (v0, .inr (ci, fs))] ++ pl) sz)) (va_A ([(h0, .inr (0, [.int (iI md), .ref ea, .int (iI n)])), (ea, .inl (G.2.1 3, cap, .inr (.inr (.inr (.inr F))))), (v0, .inr (ci, fs))] ++ pl) sz)) 0 0 (va_A ([(h0, .inr (0, [.int (iI md), .ref ea, .int (iI n)])), (ea, .inl (G.2.1 3, cap, .inr (.inr (.inr (.inr F))))), (v0, .inr (ci, fs))] ++ pl) sz) := by
  refine enW (y := yJx4a65c_add_72be8) (ws := wsJx4a65c_add_72be8) (As := [.ref h0, .ref v0, .ref ea, .int (iI n)]) (Qc := fun A => (va_Qv (fun (u : Unit) => True) (Bw G.1 vwCl (fun (u : Unit) => [(h0, .inr (0, [.int (iI md), .ref ea, .int (iI (n + 1))])), (ea, .inl (G.2.1 3, cap, .inr (.inr (.inr (.inr (va_up F n.toNat (some v0))))))), (v0, .inr (ci, fs))] ++ pl) A) A)) (mc := 0) (ms := 0) (cc := cJx4a65c_add_72be8) (maxL := 4) (ret := none) (C := RJx4a65c) [(0, .ref h0), (1, .ref v0), (2, .ref ea), (3, .int (iI n))] (by decide) rfl rfl (Nat.le_of_ble_eq_true rfl) rfl ?_
  intro p e s m args below meth c ls A hx hb hr hml hown hts hlocks hin hP hK hD hT hN hA hS hl
  show W p l e rm_c_add1_s s m args below meth c s.heap [] 0 0 _ (F0 m 0 ls [])
  refine lv_iload_n hx hb dJx4a65c_add_72be8_0 rfl (lv_at hl 3 rfl) ?_
  refine lv_aload_n hx hb dJx4a65c_add_72be8_1 rfl (lv_at hl 2 rfl) ?_
  refine va_alen (v := iI ((cap : Nat) : Int)) hx hb hK hP 1 3 rfl rfl (iI_N _) dJx4a65c_add_72be8_2 ?_
  refine w_icmp_ne (tgt := 11) hx hb dJx4a65c_add_72be8_3 (by decide) (by omega) (by omega) (fun c_3_1 => ?_) (fun c_3_1 => absurd c_3_1 (by omega))
  refine lv_aload_n hx hb dJx4a65c_add_72be8_11 rfl (lv_at hl 2 rfl) ?_
  refine lv_iload_n hx hb dJx4a65c_add_72be8_12 rfl (lv_at hl 3 rfl) ?_
  refine lv_aload_n hx hb dJx4a65c_add_72be8_13 rfl (lv_at hl 1 rfl) ?_
  refine w_aast hx hb hK hP hD hS hN 1 2 ci rfl hca rfl hci n.toNat (by omega) (by omega) (by omega) dJx4a65c_add_72be8_14 (fun H locs hP hD hS => ?_)
  have hP : va_P G.1 vwCl ([(h0, .inr (0, [.int (iI md), .ref ea, .int (iI n)])), (ea, .inl (G.2.1 3, cap, .inr (.inr (.inr (.inr (va_up F n.toNat (some v0))))))), (v0, .inr (ci, fs))] ++ pl) H := hP
  have hD : va_D A ([(h0, .inr (0, [.int (iI md), .ref ea, .int (iI n)])), (ea, .inl (G.2.1 3, cap, .inr (.inr (.inr (.inr (va_up F n.toNat (some v0))))))), (v0, .inr (ci, fs))] ++ pl) := hD
  refine lv_aload_n hx hb dJx4a65c_add_72be8_15 rfl (lv_at hl 0 rfl) ?_
  refine lv_iload_n hx hb dJx4a65c_add_72be8_16 rfl (lv_at hl 3 rfl) ?_
  refine lv_iconst (v := iI 1) hx hb dJx4a65c_add_72be8_17 rfl ?_
  refine w_iadd hx hb dJx4a65c_add_72be8_18 ?_
  refine va_put (D := G.1) (ci := 0) (v := .int (iI (n + 1))) (ty := .int) (C := RJx4a65c) (T := TJx4a65c) (N := 3) hx hb hts (by decide +kernel) tyJx4a65c tyJx4a65c_ok nmJx4a65c hown hK hP hD hS 0 rfl rfl 2 (by decide) (hts (.fieldLink RJx4a65c 48 "java/util/ArrayList" "size" "I") (by decide +kernel)) (fun _ h9 => h9) rfl (by decide +kernel) rfl rfl (Nat.le_of_ble_eq_true rfl) dJx4a65c_add_72be8_19 (fun H locs hP hD hS => ?_)
  have hP : va_P G.1 vwCl ([(h0, .inr (0, [.int (iI md), .ref ea, .int (iI (n + 1))])), (ea, .inl (G.2.1 3, cap, .inr (.inr (.inr (.inr (va_up F n.toNat (some v0))))))), (v0, .inr (ci, fs))] ++ pl) H := hP
  have hD : va_D A ([(h0, .inr (0, [.int (iI md), .ref ea, .int (iI (n + 1))])), (ea, .inl (G.2.1 3, cap, .inr (.inr (.inr (.inr (va_up F n.toNat (some v0))))))), (v0, .inr (ci, fs))] ++ pl) := hD
  exact rtWv hx hb hr hlocks dJx4a65c_add_72be8_22 () trivial hP hD hS
abbrev rm_c_add_s : Room := { frames := 1, cells := 0, slots := 0, locals := 23 }
set_option maxHeartbeats 4000000 in
set_option maxRecDepth 100000 in
theorem c_add_s (l : Launch) (G : Gx) (ci : Nat) (rr : vw_C) (pl : va_W) (h0 : Nat) (md : Int) (ea : Nat) (n : Int) (cap : Nat) (F : Nat → Option Nat) (v0 : Nat) (fs : List Value) (sz : Nat) (hci : vwCl[ci]? = some rr) (hca : Cond.castable rr.1 "java/lang/Object" ∈ nestWs) (hn : 0 ≤ n ∧ n < cap ∧ cap ≤ 100) : Met l yJx4a65c_add_9ea2d wsJx4a65c_add_9ea2d rm_c_add_s (va_Pc [.ref h0, .ref v0] (wr G ([(h0, .inr (0, [.int (iI md), .ref ea, .int (iI n)])), (ea, .inl (G.2.1 3, cap, .inr (.inr (.inr (.inr F))))), (v0, .inr (ci, fs))] ++ pl) sz)) (va_Qi (fun (rv : Int32) (u : Unit) => rv = (iI 1)) (Bw G.1 vwCl (fun (u : Unit) => [(h0, .inr (0, [.int (iI (md + 1)), .ref ea, .int (iI (n + 1))])), (ea, .inl (G.2.1 3, cap, .inr (.inr (.inr (.inr (va_up F n.toNat (some v0))))))), (v0, .inr (ci, fs))] ++ pl) (va_A ([(h0, .inr (0, [.int (iI md), .ref ea, .int (iI n)])), (ea, .inl (G.2.1 3, cap, .inr (.inr (.inr (.inr F))))), (v0, .inr (ci, fs))] ++ pl) sz)) (va_A ([(h0, .inr (0, [.int (iI md), .ref ea, .int (iI n)])), (ea, .inl (G.2.1 3, cap, .inr (.inr (.inr (.inr F))))), (v0, .inr (ci, fs))] ++ pl) sz)) 0 0 (va_A ([(h0, .inr (0, [.int (iI md), .ref ea, .int (iI n)])), (ea, .inl (G.2.1 3, cap, .inr (.inr (.inr (.inr F))))), (v0, .inr (ci, fs))] ++ pl) sz) := by
  refine enW (y := yJx4a65c_add_9ea2d) (ws := wsJx4a65c_add_9ea2d) (As := [.ref h0, .ref v0]) (Qc := fun A => (va_Qi (fun (rv : Int32) (u : Unit) => rv = (iI 1)) (Bw G.1 vwCl (fun (u : Unit) => [(h0, .inr (0, [.int (iI (md + 1)), .ref ea, .int (iI (n + 1))])), (ea, .inl (G.2.1 3, cap, .inr (.inr (.inr (.inr (va_up F n.toNat (some v0))))))), (v0, .inr (ci, fs))] ++ pl) A) A)) (mc := 0) (ms := 0) (cc := cJx4a65c_add_9ea2d) (maxL := 2) (ret := (some .boolean)) (C := RJx4a65c) [(0, .ref h0), (1, .ref v0)] (by decide) rfl rfl (Nat.le_of_ble_eq_true rfl) rfl ?_
  intro p e s m args below meth c ls A hx hb hr hml hown hts hlocks hin hP hK hD hT hN hA hS hl
  show W p l e rm_c_add_s s m args below meth c s.heap [] 0 0 _ (F0 m 0 ls [])
  refine lv_aload_n hx hb dJx4a65c_add_9ea2d_0 rfl (lv_at hl 0 rfl) ?_
  refine lv_dup hx hb dJx4a65c_add_9ea2d_1 rfl ?_
  refine va_get (D := G.1) (ci := 0) (v := .int (iI md)) (C := RJx4a65c) (T := TJx4a65c) (N := 3) hx hb hts (by decide +kernel) hown hK hP 0 rfl rfl 0 (by decide) (hts (.fieldLink RJx4a65c 63 "java/util/ArrayList" "modCount" "I") (by decide +kernel)) (fun x9 h9 => u_same (hts (.sameField "java/util/ArrayList" "java/util/AbstractList" "modCount" "I") (by decide +kernel)) x9 h9) rfl dJx4a65c_add_9ea2d_2 ?_
  refine lv_iconst (v := iI 1) hx hb dJx4a65c_add_9ea2d_5 rfl ?_
  refine w_iadd hx hb dJx4a65c_add_9ea2d_6 ?_
  refine va_put (D := G.1) (ci := 0) (v := .int (iI (md + 1))) (ty := .int) (C := RJx4a65c) (T := TJx4a65c) (N := 3) hx hb hts (by decide +kernel) tyJx4a65c tyJx4a65c_ok nmJx4a65c hown hK hP hD hS 0 rfl rfl 0 (by decide) (hts (.fieldLink RJx4a65c 63 "java/util/ArrayList" "modCount" "I") (by decide +kernel)) (fun x9 h9 => u_same (hts (.sameField "java/util/ArrayList" "java/util/AbstractList" "modCount" "I") (by decide +kernel)) x9 h9) rfl (by decide +kernel) rfl rfl (Nat.le_of_ble_eq_true rfl) dJx4a65c_add_9ea2d_7 (fun H locs hP hD hS => ?_)
  have hP : va_P G.1 vwCl ([(h0, .inr (0, [.int (iI (md + 1)), .ref ea, .int (iI n)])), (ea, .inl (G.2.1 3, cap, .inr (.inr (.inr (.inr F))))), (v0, .inr (ci, fs))] ++ pl) H := hP
  have hD : va_D A ([(h0, .inr (0, [.int (iI (md + 1)), .ref ea, .int (iI n)])), (ea, .inl (G.2.1 3, cap, .inr (.inr (.inr (.inr F))))), (v0, .inr (ci, fs))] ++ pl) := hD
  refine lv_aload_n hx hb dJx4a65c_add_9ea2d_10 rfl (lv_at hl 0 rfl) ?_
  refine lv_aload_n hx hb dJx4a65c_add_9ea2d_11 rfl (lv_at hl 1 rfl) ?_
  refine lv_aload_n hx hb dJx4a65c_add_9ea2d_12 rfl (lv_at hl 0 rfl) ?_
  refine va_get (D := G.1) (ci := 0) (v := .ref ea) (C := RJx4a65c) (T := TJx4a65c) (N := 3) hx hb hts (by decide +kernel) hown hK hP 0 rfl rfl 1 (by decide) (hts (.fieldLink RJx4a65c 9 "java/util/ArrayList" "elementData" "[Ljava/lang/Object;") (by decide +kernel)) (fun _ h9 => h9) rfl dJx4a65c_add_9ea2d_13 ?_
  refine lv_aload_n hx hb dJx4a65c_add_9ea2d_16 rfl (lv_at hl 0 rfl) ?_
  refine va_get (D := G.1) (ci := 0) (v := .int (iI n)) (C := RJx4a65c) (T := TJx4a65c) (N := 3) hx hb hts (by decide +kernel) hown hK hP 0 rfl rfl 2 (by decide) (hts (.fieldLink RJx4a65c 48 "java/util/ArrayList" "size" "I") (by decide +kernel)) (fun _ h9 => h9) rfl dJx4a65c_add_9ea2d_17 ?_
  refine cWVvP (As := [.ref v0, .ref ea, .int (iI n)]) (rest := []) (wr0 := []) (X := [(h0, .inr (0, [.int (iI (md + 1)), .ref ea, .int (iI n)])), (ea, .inl (G.2.1 3, cap, .inr (.inr (.inr (.inr F))))), (v0, .inr (ci, fs))]) (pl := pl) (cx := [(h0, .inr (0, [.int (iI (md + 1)), .ref ea, .int (iI n)])), (ea, .inl (G.2.1 3, cap, .inr (.inr (.inr (.inr F))))), (v0, .inr (ci, fs))]) ⟨hx, hb, hml, hown, hts⟩ (c_add1_s l G ci rr pl h0 (md + 1) ea n cap F v0 fs H.size (by exact hci) (by exact hca) (by omega)) (cwV 3 hts gJx4a65c_add_9ea2d_Jx4a65c_add_72be8 rfl rfl rfl (by decide +kernel) ⟨Nat.le_of_ble_eq_true rfl, Nat.le_of_ble_eq_true rfl⟩) rfl hl.1 rfl (Nat.le_of_ble_eq_true rfl) dJx4a65c_add_9ea2d_20 ⟨Nat.le_of_ble_eq_true rfl, Nat.le_of_ble_eq_true rfl⟩ hP hD hK hT hN hS hA [0, 1, 2] [] rfl rfl (by decide) (by decide) (by decide) (ci := 0) rfl rfl (fun u_1 hu_1 H locs hz_1 hP hD hS => ?_)
  have hP : va_P G.1 vwCl ([(h0, .inr (0, [.int (iI (md + 1)), .ref ea, .int (iI (n + 1))])), (ea, .inl (G.2.1 3, cap, .inr (.inr (.inr (.inr (va_up F n.toNat (some v0))))))), (v0, .inr (ci, fs))] ++ pl) H := hP
  have hD : va_D A ([(h0, .inr (0, [.int (iI (md + 1)), .ref ea, .int (iI (n + 1))])), (ea, .inl (G.2.1 3, cap, .inr (.inr (.inr (.inr (va_up F n.toNat (some v0))))))), (v0, .inr (ci, fs))] ++ pl) := hD
  refine lv_iconst (v := iI 1) hx hb dJx4a65c_add_9ea2d_23 rfl ?_
  exact rtWz hx hb hr hlocks (by decide) dJx4a65c_add_9ea2d_24 () rfl hP hD hS
abbrev rm_c_add1_g : Room := { frames := 5, cells := 1, slots := 64, locals := 135 }
set_option maxHeartbeats 4000000 in
set_option maxRecDepth 100000 in
theorem c_add1_g (l : Launch) (G : Gx) (ci : Nat) (rr : vw_C) (pl : va_W) (h0 : Nat) (md : Int) (ea : Nat) (n : Int) (cap : Nat) (F : Nat → Option Nat) (v0 : Nat) (fs : List Value) (sz : Nat) (hci : vwCl[ci]? = some rr) (hca : Cond.castable rr.1 "java/lang/Object" ∈ nestWs) (hn : n = cap ∧ 10 ≤ cap ∧ cap ≤ 40) (hel : elT ci cap F pl) : Met l yJx4a65c_add_72be8 wsJx4a65c_add_72be8 rm_c_add1_g (va_Pc [.ref h0, .ref v0, .ref ea, .int (iI n)] (wr G ([(h0, .inr (0, [.int (iI md), .ref ea, .int (iI n)])), (ea, .inl (G.2.1 3, cap, .inr (.inr (.inr (.inr F))))), (v0, .inr (ci, fs))] ++ pl) sz)) (va_Qv (fun (u : Nat) => True) (Bw G.1 vwCl (fun (u : Nat) => [(h0, .inr (0, [.int (iI md), .ref u, .int (iI (n + 1))])), (u, .inl (G.2.1 3, (cap + (max 1 (cap / 2 : Nat) : Nat)), .inr (.inr (.inr (.inr (va_up (va_cpy F (fun _ => none) 0 0 cap) n.toNat (some v0))))))), (v0, .inr (ci, fs))] ++ pl) (va_A ([(h0, .inr (0, [.int (iI md), .ref ea, .int (iI n)])), (ea, .inl (G.2.1 3, cap, .inr (.inr (.inr (.inr F))))), (v0, .inr (ci, fs))] ++ pl) sz)) (va_A ([(h0, .inr (0, [.int (iI md), .ref ea, .int (iI n)])), (ea, .inl (G.2.1 3, cap, .inr (.inr (.inr (.inr F))))), (v0, .inr (ci, fs))] ++ pl) sz)) 1 64 (va_A ([(h0, .inr (0, [.int (iI md), .ref ea, .int (iI n)])), (ea, .inl (G.2.1 3, cap, .inr (.inr (.inr (.inr F))))), (v0, .inr (ci, fs))] ++ pl) sz) := by
  refine enW (y := yJx4a65c_add_72be8) (ws := wsJx4a65c_add_72be8) (As := [.ref h0, .ref v0, .ref ea, .int (iI n)]) (Qc := fun A => (va_Qv (fun (u : Nat) => True) (Bw G.1 vwCl (fun (u : Nat) => [(h0, .inr (0, [.int (iI md), .ref u, .int (iI (n + 1))])), (u, .inl (G.2.1 3, (cap + (max 1 (cap / 2 : Nat) : Nat)), .inr (.inr (.inr (.inr (va_up (va_cpy F (fun _ => none) 0 0 cap) n.toNat (some v0))))))), (v0, .inr (ci, fs))] ++ pl) A) A)) (mc := 1) (ms := 64) (cc := cJx4a65c_add_72be8) (maxL := 4) (ret := none) (C := RJx4a65c) [(0, .ref h0), (1, .ref v0), (2, .ref ea), (3, .int (iI n))] (by decide) rfl rfl (Nat.le_of_ble_eq_true rfl) rfl ?_
  intro p e s m args below meth c ls A hx hb hr hml hown hts hlocks hin hP hK hD hT hN hA hS hl
  show W p l e rm_c_add1_g s m args below meth c s.heap [] 0 0 _ (F0 m 0 ls [])
  refine lv_iload_n hx hb dJx4a65c_add_72be8_0 rfl (lv_at hl 3 rfl) ?_
  refine lv_aload_n hx hb dJx4a65c_add_72be8_1 rfl (lv_at hl 2 rfl) ?_
  refine va_alen (v := iI ((cap : Nat) : Int)) hx hb hK hP 1 3 rfl rfl (iI_N _) dJx4a65c_add_72be8_2 ?_
  refine w_icmp_ne (tgt := 11) hx hb dJx4a65c_add_72be8_3 (by decide) (by omega) (by omega) (fun c_3_1 => absurd c_3_1 (by omega)) (fun c_3_1 => ?_)
  refine lv_aload_n hx hb dJx4a65c_add_72be8_6 rfl (lv_at hl 0 rfl) ?_
  refine cWVrP (As := []) (rest := []) (wr0 := [(v0, .inr (ci, fs))]) (X := [(h0, .inr (0, [.int (iI md), .ref ea, .int (iI n)])), (ea, .inl (G.2.1 3, cap, .inr (.inr (.inr (.inr F))))), (v0, .inr (ci, fs))]) (pl := pl) (cx := [(h0, .inr (0, [.int (iI md), .ref ea, .int (iI n)])), (ea, .inl (G.2.1 3, cap, .inr (.inr (.inr (.inr F)))))]) ⟨hx, hb, hml, hown, hts⟩ (c_grow_g l G ci rr pl h0 md ea n cap F s.heap.size (by exact hci) (by exact hca) (by omega) (by exact hel)) (cwV 0 hts gJx4a65c_add_72be8_Jx4a65c_grow_d5877 rfl rfl rfl (by decide +kernel) ⟨Nat.le_of_ble_eq_true rfl, Nat.le_of_ble_eq_true rfl⟩) rfl hl.1 rfl (Nat.le_of_ble_eq_true rfl) dJx4a65c_add_72be8_7 ⟨Nat.le_of_ble_eq_true rfl, Nat.le_of_ble_eq_true rfl⟩ hP hD hK hT hN hS hA [0, 1] [2] rfl rfl (by decide) (by decide) (by decide) (ci := 0) rfl rfl (fun u_2 hu_2 H locs hz_2 hP hD hS => ?_)
  generalize u_2 = q1_2 at *
  have hP : va_P G.1 vwCl ([(v0, .inr (ci, fs)), (h0, .inr (0, [.int (iI md), .ref q1_2, .int (iI n)])), (q1_2, .inl (G.2.1 3, (cap + (max 1 (cap / 2 : Nat) : Nat)), .inr (.inr (.inr (.inr (va_cpy F (fun _ => none) 0 0 cap))))))] ++ pl) H := hP
  have hD : va_D A ([(v0, .inr (ci, fs)), (h0, .inr (0, [.int (iI md), .ref q1_2, .int (iI n)])), (q1_2, .inl (G.2.1 3, (cap + (max 1 (cap / 2 : Nat) : Nat)), .inr (.inr (.inr (.inr (va_cpy F (fun _ => none) 0 0 cap))))))] ++ pl) := hD
  refine lv_astore_n (lv' := [(2, .ref q1_2), (0, .ref h0), (1, .ref v0), (3, .int (iI n))]) hx hb dJx4a65c_add_72be8_10 rfl hl (by decide) rfl (fun ls hl => ?_)
  refine lv_aload_n hx hb dJx4a65c_add_72be8_11 rfl (lv_at hl 0 rfl) ?_
  refine lv_iload_n hx hb dJx4a65c_add_72be8_12 rfl (lv_at hl 3 rfl) ?_
  refine lv_aload_n hx hb dJx4a65c_add_72be8_13 rfl (lv_at hl 2 rfl) ?_
  refine w_aast hx hb hK hP hD hS hN 2 0 ci rfl hca rfl hci n.toNat (by omega) (by omega) (by omega) dJx4a65c_add_72be8_14 (fun H locs hP hD hS => ?_)
  have hP : va_P G.1 vwCl ([(v0, .inr (ci, fs)), (h0, .inr (0, [.int (iI md), .ref q1_2, .int (iI n)])), (q1_2, .inl (G.2.1 3, (cap + (max 1 (cap / 2 : Nat) : Nat)), .inr (.inr (.inr (.inr (va_up (va_cpy F (fun _ => none) 0 0 cap) n.toNat (some v0)))))))] ++ pl) H := hP
  have hD : va_D A ([(v0, .inr (ci, fs)), (h0, .inr (0, [.int (iI md), .ref q1_2, .int (iI n)])), (q1_2, .inl (G.2.1 3, (cap + (max 1 (cap / 2 : Nat) : Nat)), .inr (.inr (.inr (.inr (va_up (va_cpy F (fun _ => none) 0 0 cap) n.toNat (some v0)))))))] ++ pl) := hD
  refine lv_aload_n hx hb dJx4a65c_add_72be8_15 rfl (lv_at hl 1 rfl) ?_
  refine lv_iload_n hx hb dJx4a65c_add_72be8_16 rfl (lv_at hl 3 rfl) ?_
  refine lv_iconst (v := iI 1) hx hb dJx4a65c_add_72be8_17 rfl ?_
  refine w_iadd hx hb dJx4a65c_add_72be8_18 ?_
  refine va_put (D := G.1) (ci := 0) (v := .int (iI (n + 1))) (ty := .int) (C := RJx4a65c) (T := TJx4a65c) (N := 3) hx hb hts (by decide +kernel) tyJx4a65c tyJx4a65c_ok nmJx4a65c hown hK hP hD hS 1 rfl rfl 2 (by decide) (hts (.fieldLink RJx4a65c 48 "java/util/ArrayList" "size" "I") (by decide +kernel)) (fun _ h9 => h9) rfl (by decide +kernel) rfl rfl (Nat.le_of_ble_eq_true rfl) dJx4a65c_add_72be8_19 (fun H locs hP hD hS => ?_)
  have hP : va_P G.1 vwCl ([(v0, .inr (ci, fs)), (h0, .inr (0, [.int (iI md), .ref q1_2, .int (iI (n + 1))])), (q1_2, .inl (G.2.1 3, (cap + (max 1 (cap / 2 : Nat) : Nat)), .inr (.inr (.inr (.inr (va_up (va_cpy F (fun _ => none) 0 0 cap) n.toNat (some v0)))))))] ++ pl) H := hP
  have hD : va_D A ([(v0, .inr (ci, fs)), (h0, .inr (0, [.int (iI md), .ref q1_2, .int (iI (n + 1))])), (q1_2, .inl (G.2.1 3, (cap + (max 1 (cap / 2 : Nat) : Nat)), .inr (.inr (.inr (.inr (va_up (va_cpy F (fun _ => none) 0 0 cap) n.toNat (some v0)))))))] ++ pl) := hD
  exact rtWv hx hb hr hlocks dJx4a65c_add_72be8_22 (q1_2) trivial (hP.part [1, 2, 0] rfl) (hD.part [1, 2, 0] (by decide) rfl) hS
abbrev rm_c_add_g : Room := { frames := 6, cells := 1, slots := 64, locals := 158 }
set_option maxHeartbeats 4000000 in
set_option maxRecDepth 100000 in
theorem c_add_g (l : Launch) (G : Gx) (ci : Nat) (rr : vw_C) (pl : va_W) (h0 : Nat) (md : Int) (ea : Nat) (n : Int) (cap : Nat) (F : Nat → Option Nat) (v0 : Nat) (fs : List Value) (sz : Nat) (hci : vwCl[ci]? = some rr) (hca : Cond.castable rr.1 "java/lang/Object" ∈ nestWs) (hn : n = cap ∧ 10 ≤ cap ∧ cap ≤ 40) (hel : elT ci cap F pl) : Met l yJx4a65c_add_9ea2d wsJx4a65c_add_9ea2d rm_c_add_g (va_Pc [.ref h0, .ref v0] (wr G ([(h0, .inr (0, [.int (iI md), .ref ea, .int (iI n)])), (ea, .inl (G.2.1 3, cap, .inr (.inr (.inr (.inr F))))), (v0, .inr (ci, fs))] ++ pl) sz)) (va_Qi (fun (rv : Int32) (u : Nat) => rv = (iI 1)) (Bw G.1 vwCl (fun (u : Nat) => [(h0, .inr (0, [.int (iI (md + 1)), .ref u, .int (iI (n + 1))])), (u, .inl (G.2.1 3, (cap + (max 1 (cap / 2 : Nat) : Nat)), .inr (.inr (.inr (.inr (va_up (va_cpy F (fun _ => none) 0 0 cap) n.toNat (some v0))))))), (v0, .inr (ci, fs))] ++ pl) (va_A ([(h0, .inr (0, [.int (iI md), .ref ea, .int (iI n)])), (ea, .inl (G.2.1 3, cap, .inr (.inr (.inr (.inr F))))), (v0, .inr (ci, fs))] ++ pl) sz)) (va_A ([(h0, .inr (0, [.int (iI md), .ref ea, .int (iI n)])), (ea, .inl (G.2.1 3, cap, .inr (.inr (.inr (.inr F))))), (v0, .inr (ci, fs))] ++ pl) sz)) 1 64 (va_A ([(h0, .inr (0, [.int (iI md), .ref ea, .int (iI n)])), (ea, .inl (G.2.1 3, cap, .inr (.inr (.inr (.inr F))))), (v0, .inr (ci, fs))] ++ pl) sz) := by
  refine enW (y := yJx4a65c_add_9ea2d) (ws := wsJx4a65c_add_9ea2d) (As := [.ref h0, .ref v0]) (Qc := fun A => (va_Qi (fun (rv : Int32) (u : Nat) => rv = (iI 1)) (Bw G.1 vwCl (fun (u : Nat) => [(h0, .inr (0, [.int (iI (md + 1)), .ref u, .int (iI (n + 1))])), (u, .inl (G.2.1 3, (cap + (max 1 (cap / 2 : Nat) : Nat)), .inr (.inr (.inr (.inr (va_up (va_cpy F (fun _ => none) 0 0 cap) n.toNat (some v0))))))), (v0, .inr (ci, fs))] ++ pl) A) A)) (mc := 1) (ms := 64) (cc := cJx4a65c_add_9ea2d) (maxL := 2) (ret := (some .boolean)) (C := RJx4a65c) [(0, .ref h0), (1, .ref v0)] (by decide) rfl rfl (Nat.le_of_ble_eq_true rfl) rfl ?_
  intro p e s m args below meth c ls A hx hb hr hml hown hts hlocks hin hP hK hD hT hN hA hS hl
  show W p l e rm_c_add_g s m args below meth c s.heap [] 0 0 _ (F0 m 0 ls [])
  refine lv_aload_n hx hb dJx4a65c_add_9ea2d_0 rfl (lv_at hl 0 rfl) ?_
  refine lv_dup hx hb dJx4a65c_add_9ea2d_1 rfl ?_
  refine va_get (D := G.1) (ci := 0) (v := .int (iI md)) (C := RJx4a65c) (T := TJx4a65c) (N := 3) hx hb hts (by decide +kernel) hown hK hP 0 rfl rfl 0 (by decide) (hts (.fieldLink RJx4a65c 63 "java/util/ArrayList" "modCount" "I") (by decide +kernel)) (fun x9 h9 => u_same (hts (.sameField "java/util/ArrayList" "java/util/AbstractList" "modCount" "I") (by decide +kernel)) x9 h9) rfl dJx4a65c_add_9ea2d_2 ?_
  refine lv_iconst (v := iI 1) hx hb dJx4a65c_add_9ea2d_5 rfl ?_
  refine w_iadd hx hb dJx4a65c_add_9ea2d_6 ?_
  refine va_put (D := G.1) (ci := 0) (v := .int (iI (md + 1))) (ty := .int) (C := RJx4a65c) (T := TJx4a65c) (N := 3) hx hb hts (by decide +kernel) tyJx4a65c tyJx4a65c_ok nmJx4a65c hown hK hP hD hS 0 rfl rfl 0 (by decide) (hts (.fieldLink RJx4a65c 63 "java/util/ArrayList" "modCount" "I") (by decide +kernel)) (fun x9 h9 => u_same (hts (.sameField "java/util/ArrayList" "java/util/AbstractList" "modCount" "I") (by decide +kernel)) x9 h9) rfl (by decide +kernel) rfl rfl (Nat.le_of_ble_eq_true rfl) dJx4a65c_add_9ea2d_7 (fun H locs hP hD hS => ?_)
  have hP : va_P G.1 vwCl ([(h0, .inr (0, [.int (iI (md + 1)), .ref ea, .int (iI n)])), (ea, .inl (G.2.1 3, cap, .inr (.inr (.inr (.inr F))))), (v0, .inr (ci, fs))] ++ pl) H := hP
  have hD : va_D A ([(h0, .inr (0, [.int (iI (md + 1)), .ref ea, .int (iI n)])), (ea, .inl (G.2.1 3, cap, .inr (.inr (.inr (.inr F))))), (v0, .inr (ci, fs))] ++ pl) := hD
  refine lv_aload_n hx hb dJx4a65c_add_9ea2d_10 rfl (lv_at hl 0 rfl) ?_
  refine lv_aload_n hx hb dJx4a65c_add_9ea2d_11 rfl (lv_at hl 1 rfl) ?_
  refine lv_aload_n hx hb dJx4a65c_add_9ea2d_12 rfl (lv_at hl 0 rfl) ?_
  refine va_get (D := G.1) (ci := 0) (v := .ref ea) (C := RJx4a65c) (T := TJx4a65c) (N := 3) hx hb hts (by decide +kernel) hown hK hP 0 rfl rfl 1 (by decide) (hts (.fieldLink RJx4a65c 9 "java/util/ArrayList" "elementData" "[Ljava/lang/Object;") (by decide +kernel)) (fun _ h9 => h9) rfl dJx4a65c_add_9ea2d_13 ?_
  refine lv_aload_n hx hb dJx4a65c_add_9ea2d_16 rfl (lv_at hl 0 rfl) ?_
  refine va_get (D := G.1) (ci := 0) (v := .int (iI n)) (C := RJx4a65c) (T := TJx4a65c) (N := 3) hx hb hts (by decide +kernel) hown hK hP 0 rfl rfl 2 (by decide) (hts (.fieldLink RJx4a65c 48 "java/util/ArrayList" "size" "I") (by decide +kernel)) (fun _ h9 => h9) rfl dJx4a65c_add_9ea2d_17 ?_
  refine cWVvP (As := [.ref v0, .ref ea, .int (iI n)]) (rest := []) (wr0 := []) (X := [(h0, .inr (0, [.int (iI (md + 1)), .ref ea, .int (iI n)])), (ea, .inl (G.2.1 3, cap, .inr (.inr (.inr (.inr F))))), (v0, .inr (ci, fs))]) (pl := pl) (cx := [(h0, .inr (0, [.int (iI (md + 1)), .ref ea, .int (iI n)])), (ea, .inl (G.2.1 3, cap, .inr (.inr (.inr (.inr F))))), (v0, .inr (ci, fs))]) ⟨hx, hb, hml, hown, hts⟩ (c_add1_g l G ci rr pl h0 (md + 1) ea n cap F v0 fs H.size (by exact hci) (by exact hca) (by omega) (by exact hel)) (cwV 3 hts gJx4a65c_add_9ea2d_Jx4a65c_add_72be8 rfl rfl rfl (by decide +kernel) ⟨Nat.le_of_ble_eq_true rfl, Nat.le_of_ble_eq_true rfl⟩) rfl hl.1 rfl (Nat.le_of_ble_eq_true rfl) dJx4a65c_add_9ea2d_20 ⟨Nat.le_of_ble_eq_true rfl, Nat.le_of_ble_eq_true rfl⟩ hP hD hK hT hN hS hA [0, 1, 2] [] rfl rfl (by decide) (by decide) (by decide) (ci := 0) rfl rfl (fun u_1 hu_1 H locs hz_1 hP hD hS => ?_)
  generalize u_1 = q1_1 at *
  have hP : va_P G.1 vwCl ([(h0, .inr (0, [.int (iI (md + 1)), .ref q1_1, .int (iI (n + 1))])), (q1_1, .inl (G.2.1 3, (cap + (max 1 (cap / 2 : Nat) : Nat)), .inr (.inr (.inr (.inr (va_up (va_cpy F (fun _ => none) 0 0 cap) n.toNat (some v0))))))), (v0, .inr (ci, fs))] ++ pl) H := hP
  have hD : va_D A ([(h0, .inr (0, [.int (iI (md + 1)), .ref q1_1, .int (iI (n + 1))])), (q1_1, .inl (G.2.1 3, (cap + (max 1 (cap / 2 : Nat) : Nat)), .inr (.inr (.inr (.inr (va_up (va_cpy F (fun _ => none) 0 0 cap) n.toNat (some v0))))))), (v0, .inr (ci, fs))] ++ pl) := hD
  refine lv_iconst (v := iI 1) hx hb dJx4a65c_add_9ea2d_23 rfl ?_
  exact rtWz hx hb hr hlocks (by decide) dJx4a65c_add_9ea2d_24 (q1_1) rfl hP hD hS
