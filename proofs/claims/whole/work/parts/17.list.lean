/-! ===== rows: references in arrays ===== -/
theorem pool_get {X pl : va_W} {q : Nat × va_E} {k : Nat} (h : pl[k]? = some q) : ∃ k' : Nat, (X ++ pl)[k']? = some q := ⟨X.length + k, by rw [List.getElem?_append_right (by omega), Nat.add_sub_cancel_left]; exact h⟩
/-- the elements of a list: objects of a kind, in the pool -/
def elT (ci n : Nat) (F : Nat → Option Nat) (pl : va_W) : Prop := ∀ i : Nat, i < n → ∃ (y k : Nat) (fs : List Value), F i = some y ∧ pl[k]? = some (y, .inr (ci, fs))
theorem vaRA_injO {U : State} {c1 c2 : ClassId} {C : String} (h1 : va_RA U c1 (.object C)) (h2 : va_RA U c2 (.object C)) : c1 = c2 := by
  obtain ⟨_, _, _, _, _, a⟩ := h1
  obtain ⟨_, _, _, _, _, b⟩ := h2
  exact Option.some.inj (a.symm.trans b)
section MW3
variable {p : Program} {l : Launch} {e : Env} {R : Room} {s : State} {m : MethodId} {args : Array Value} {below : List Frame} {meth : Method} {c : Code} {H : Heap} {locs : List Loc} {cells slots : Nat} {Q : State → Prop}
variable {cc : ByteArray} {pc : Nat} {ls : Array Slot} {rest : List Value} {G : Gx} {ws : va_W} {A : Nat → Prop} {H0 : Heap}
theorem w_aald (hexec : p.tables.exec = Jvm.exec) (hb : c.code = cc) (hK : va_K G.1 vwCl (tyG G) s) (hP : va_P G.1 vwCl ws H) (q0 : Nat) {a n y : Nat} {F : Nat → Option Nat} (ha : ws[q0]? = some (a, .inl (G.2.1 3, n, .inr (.inr (.inr (.inr F)))))) {z : Int} (j : Nat) (hz : z = (j : Int)) (hj : j < n) (hn : n ≤ 2147483648) (hF : F j = some y) (hdg : decode cc pc = .ok (.aaload, 1))
    (kk : W p l e R s m args below meth c H locs cells slots Q (F0 m (pc + 1) ls (.ref y :: rest))) : W p l e R s m args below meth c H locs cells slots Q (F0 m pc ls (.int (iI z) :: .ref a :: rest)) := va_aldq hexec hb hK hP q0 3 ha rfl (iI_in hz hj hn) hdg (by rw [iI_cl hz (by omega), hF]; exact kk)
theorem w_aast (hexec : p.tables.exec = Jvm.exec) (hb : c.code = cc) (hK : va_K G.1 vwCl (tyG G) s) (hP : va_P G.1 vwCl ws H) (hD : va_D A ws) (hS : va_S A H0 H locs) (hN : Nst G s) (q0 qk ci : Nat) {a n v : Nat} {r : vw_C} {vs : List Value} {F : Nat → Option Nat} (ha : ws[q0]? = some (a, .inl (G.2.1 3, n, .inr (.inr (.inr (.inr F)))))) (hca : Cond.castable r.1 "java/lang/Object" ∈ nestWs) (hv : ws[qk]? = some (v, .inr (ci, vs))) (hc : vwCl[ci]? = some r) {z : Int} (j : Nat) (hz : z = (j : Int)) (hj : j < n) (hn : n ≤ 2147483648) (hdg : decode cc pc = .ok (.aastore, 1))
    (kk : ∀ (H1 : Heap) (locs1 : List Loc), va_P G.1 vwCl (ws.set q0 (a, .inl (G.2.1 3, n, .inr (.inr (.inr (.inr (va_up F j (some v)))))))) H1 → va_D A (ws.set q0 (a, .inl (G.2.1 3, n, .inr (.inr (.inr (.inr (va_up F j (some v)))))))) → va_S A H0 H1 locs1 → W p l e R s m args below meth c H1 locs1 cells slots Q (F0 m (pc + 1) ls rest)) : W p l e R s m args below meth c H locs cells slots Q (F0 m pc ls (.ref v :: .int (iI z) :: .ref a :: rest)) :=
  va_astqO hexec hb hK hP hD hS q0 3 qk ci ha rfl (hN.1 _ hca) hv hc (iI_in hz hj hn) hdg (by rw [iI_cl hz (by omega)]; exact kk)
theorem w_anew (hexec : p.tables.exec = Jvm.exec) (hb : c.code = cc) {own : String} {index : Nat} (hown : s.vm.findClass own = some m.cls) (hclink : (Cond.classLink own index "java/lang/Object").before args s = true) (hN : Nst G s) (hK : va_K G.1 vwCl (tyG G) s) (hP : va_P G.1 vwCl ws H) (hD : va_D A ws) (hS : va_S A H0 H locs) (hA : ∀ q, H0.size ≤ q → A q)
    {z : Int} (N : Nat) (hz : z = (N : Int)) (hNb : N ≤ 100000) (hcells : cells + 1 ≤ R.cells) (hslots : slots + N ≤ R.slots) (hdg : decode cc pc = .ok (.anewarray index, 3))
    (kk : ∀ (q : Nat) (H1 : Heap), va_P G.1 vwCl (ws ++ [(q, .inl (G.2.1 3, N, .inr (.inr (.inr (.inr (fun _ => none))))))]) H1 → va_D A (ws ++ [(q, .inl (G.2.1 3, N, .inr (.inr (.inr (.inr (fun _ => none))))))]) → va_S A H0 H1 locs → W p l e R s m args below meth c H1 locs (cells + 1) (slots + N) Q (F0 m (pc + 3) ls (.ref q :: rest))) : W p l e R s m args below meth c H locs cells slots Q (F0 m pc ls (.int (iI z) :: rest)) := by
  have hn : ¬ iI z < 0 := fun q => by rw [← iI_0, iI_lt ⟨by omega, by omega⟩ (by decide)] at q; omega
  refine va_newq (N' := N) hexec hb hown hclink hN.2.1 hK hP hD hS hA hn (iI_cl hz (by omega)) (by omega) hcells hslots hdg (fun q cA H1 hK1 hP1 hD1 hS1 => ?_)
  have e1 : cA = G.2.1 3 := vaRA_injO (hK1.2 4 (cA, .object "java/lang/Object") rfl).2 (hK.2 3 (G.2.1 3, .object "java/lang/Object") rfl).2
  subst e1
  exact kk q H1 hP1 hD1 hS1
theorem w_copyq (hexec : p.tables.exec = Jvm.exec) (hb : c.code = cc) (hml : c.maxLocals = ls.size) {own : String} {index : Nat} (hown : s.vm.findClass own = some m.cls) (hlink : (Cond.methodLink own index arraycopyName).before args s = true) (hnat : (Cond.native arraycopyName).before args s = true) (hstat : (Cond.static arraycopyName).before args s = true) (hini : (Cond.initialized "java/lang/System").before args s = true)
    (hK : va_K G.1 vwCl (tyG G) s) (hP : va_P G.1 vwCl ws H) (hD : va_D A ws) (hS : va_S A H0 H locs) (hN : Nst G s) (q0 q1 : Nat) {a0 a : Nat} {n0 n1 ci : Nat} {r : vw_C} {F1 F2 : Nat → Option Nat} (ha0 : ws[q0]? = some (a0, .inl (G.2.1 3, n0, .inr (.inr (.inr (.inr F1)))))) (ha1 : ws[q1]? = some (a, .inl (G.2.1 3, n1, .inr (.inr (.inr (.inr F2)))))) (hc : vwCl[ci]? = some r) (hca : Cond.castable r.1 "java/lang/Object" ∈ nestWs)
    {z : Int} (N : Nat) (hz : z = (N : Int)) (hN0 : N ≤ n0) (hN1 : N ≤ n1) (hNb : N ≤ 100000) (hel : ∀ i : Nat, i < N → ∃ (y k : Nat) (fs : List Value), F1 i = some y ∧ ws[k]? = some (y, .inr (ci, fs)))
    (hframes : 1 ≤ R.frames) (hlocals : (rest.map fun v => v.category).sum + (nativeFrameWords "java/lang/System" "arraycopy" 5 + 11) ≤ R.locals) (hdg : decode cc pc = .ok (.invokestatic index, 3))
    (kk : ∀ (H1 : Heap) (locs1 : List Loc), va_P G.1 vwCl (ws.set q1 (a, .inl (G.2.1 3, n1, .inr (.inr (.inr (.inr (va_cpy F1 F2 0 0 N))))))) H1 → va_D A (ws.set q1 (a, .inl (G.2.1 3, n1, .inr (.inr (.inr (.inr (va_cpy F1 F2 0 0 N))))))) → va_S A H0 H1 locs1 → W p l e R s m args below meth c H1 locs1 cells slots Q (F0 m (pc + 3) ls rest)) : W p l e R s m args below meth c H locs cells slots Q (F0 m pc ls (.int (iI z) :: .int (iI 0) :: .ref a :: .int (iI 0) :: .ref a0 :: rest)) := by
  have hn : ¬ iI z < 0 := fun q => by rw [← iI_0, iI_lt ⟨by omega, by omega⟩ (by decide)] at q; omega
  have e0 : (iI 0).toNatClampNeg = 0 := by decide
  have e1 : (iI z).toNatClampNeg = N := iI_cl hz (by omega)
  refine va_copyq (C := r.1) (E0 := "java/lang/Object") (E1 := "java/lang/Object") hexec hb hml hown hlink hnat hstat hini hK hP hD hS q0 q1 3 3 ha0 ha1 rfl rfl (by decide) (by decide) hn (by rw [e0, e1]; omega) (by rw [e0, e1]; omega) (fun i hi y hy => ?_) (fun comp c0 h1 h2 => by obtain ⟨c', t', f1, f2, f3⟩ := Cond.castable_spec (va_Nw.use (A := args) rfl (hN.1 _ hca)); rw [h1] at f2; rw [h2] at f1; cases f1; cases f2; exact f3) hframes hlocals hdg (fun H1 locs1 hP1 hD1 hS1 => ?_)
  · rw [e1] at hi
    rw [e0, Nat.zero_add] at hy
    obtain ⟨y', k, fs, g1, g2⟩ := hel i hi
    rw [hy] at g1
    cases g1
    exact va_recv hK hP hc g2
  · rw [e0, e1] at hP1 hD1
    exact kk H1 locs1 hP1 hD1 hS1
end MW3
theorem arr_cls {s : State} {H : Heap} {G : Gx} {ws : va_W} {a n : Nat} {F : Nat → Option Nat} (hK : va_K G.1 vwCl (tyG G) s) (hP : va_P G.1 vwCl ws H) (q0 : Nat) (ha : ws[q0]? = some (a, .inl (G.2.1 3, n, .inr (.inr (.inr (.inr F)))))) : ∃ cell : Cell, H[a]? = some cell ∧ cell.vm.isStatics = false ∧ s.vm.findClass "[Ljava/lang/Object;" = some cell.cls := by
  have h := hP q0 _ ha
  refine ⟨_, h, rfl, ?_⟩
  obtain ⟨_, _, _, _, _, b⟩ := (hK.2 3 (G.2.1 3, .object "java/lang/Object") rfl).2
  exact b
/-! ===== calls that are given the pool ===== -/
section CALLP
variable {p : Program} {l : Launch} {e : Env} {R : Room} {s : State} {m : MethodId} {args : Array Value} {below : List Frame} {meth : Method} {c : Code} {H : Heap} {locs : List Loc} {cells slots : Nat} {Q : State → Prop} {cc : ByteArray} {pc : Nat} {ls : Array Slot}
variable {y : MethodName} {bytes : ByteArray} {maxL nL mc ms n index ci : Nat} {ret : Option FieldType} {ws : List Cond} {rm : Room} {Ts : List Cond} {own C : String} {b : Addr} {As rest st0 : List Value} {A A0 : Nat → Prop} {H0 : Heap} {G : Gx} {fs : List Value} {T : u_T} {N : Nat}
variable {S : Type} {X wr0 cx pl : va_W} {rx : S → va_W}
theorem wPartP (hP : va_P G.1 vwCl (X ++ pl) H) (hD : va_D A (X ++ pl)) (hS : va_S A s.heap H locs) (hA : ∀ q, s.heap.size ≤ q → A q) (isC : List Nat) (hC : isC.map (fun i => X[i]?) = cx.map some) (hnC : va_nd isC = true) : va_P G.1 vwCl (cx ++ pl) H ∧ va_D A (cx ++ pl) ∧ ∀ q, va_A (cx ++ pl) H.size q → A q := ⟨hP.part isC hC, hD.part isC hnC hC, va_freeP hD hS hA isC hC⟩
theorem cWSvP (F : CallFix p m c cc nL s args Ts own) {post : S → Prop} (hM : Met l y ws rm (va_Pc As (wr G (cx ++ pl) H.size)) (va_Qv post (Bw G.1 vwCl (fun u => rx u ++ pl) (va_A (cx ++ pl) H.size)) (va_A (cx ++ pl) H.size)) mc ms (va_A (cx ++ pl) H.size)) (cw : CallB R s args own index y bytes maxL ret ws rm mc ms n ∧ (Cond.static y).before args s = true)
    (hn : As.length = n) (hsize : ls.size = nL) (hstk : st0 = As.reverse ++ rest) (hroom : (rest.map fun v => v.category).sum ≤ 8) (hdg : decode cc pc = .ok (.invokestatic index, 3)) (hf : cells + mc ≤ R.cells ∧ slots + ms ≤ R.slots)
    (hP : va_P G.1 vwCl (X ++ pl) H) (hD : va_D A (X ++ pl)) (hK : va_K G.1 vwCl (tyG G) s) (hT : STt G A s s.heap) (hN : Nst G s) (hS : va_S A s.heap H locs) (hA : ∀ q, s.heap.size ≤ q → A q) (isC isR : List Nat) (hC : isC.map (fun i => X[i]?) = cx.map some) (hR : isR.map (fun i => X[i]?) = wr0.map some) (hnC : va_nd isC = true) (hnR : va_nd isR = true) (hdis : ∀ i ∈ isR, i ∉ isC)
    (kk : ∀ (u : S), post u → ∀ (H1 : Heap) (locs1 : List Loc), H.size ≤ H1.size → va_P G.1 vwCl ((wr0 ++ rx u) ++ pl) H1 → va_D A ((wr0 ++ rx u) ++ pl) → va_S A s.heap H1 locs1 → W p l e R s m args below meth c H1 locs1 (cells + mc) (slots + ms) Q (F0 m (pc + 3) ls rest)) : W p l e R s m args below meth c H locs cells slots Q (F0 m pc ls st0) := by
  obtain ⟨hPc, hDc, hFc⟩ := wPartP hP hD hS hA isC hC hnC
  refine va_callv (va_runS F hM cw ⟨wr.blind, wr.at hPc hDc hFc hK hT hN hS⟩ rfl hn hsize hstk (lv_room hroom) hdg hf) hS (fun q _ h => hFc q h) hFc (fun u t H1 locs1 ht hvm hp hB hz hk hS1 => ?_)
  obtain ⟨hP1, hD1⟩ := hB
  rw [ht] at hP1
  obtain ⟨hP2, hD2⟩ := va_joinP hP hD isC isR hC hR hnR hdis hk hFc hP1 hD1
  exact kk u hp H1 locs1 hz hP2 hD2 hS1
theorem cWSiP (F : CallFix p m c cc nL s args Ts own) {post : Int32 → S → Prop} (hM : Met l y ws rm (va_Pc As (wr G (cx ++ pl) H.size)) (va_Qi post (Bw G.1 vwCl (fun u => rx u ++ pl) (va_A (cx ++ pl) H.size)) (va_A (cx ++ pl) H.size)) mc ms (va_A (cx ++ pl) H.size)) (cw : CallB R s args own index y bytes maxL ret ws rm mc ms n ∧ (Cond.static y).before args s = true)
    (hn : As.length = n) (hsize : ls.size = nL) (hstk : st0 = As.reverse ++ rest) (hroom : (rest.map fun v => v.category).sum ≤ 8) (hdg : decode cc pc = .ok (.invokestatic index, 3)) (hf : cells + mc ≤ R.cells ∧ slots + ms ≤ R.slots)
    (hP : va_P G.1 vwCl (X ++ pl) H) (hD : va_D A (X ++ pl)) (hK : va_K G.1 vwCl (tyG G) s) (hT : STt G A s s.heap) (hN : Nst G s) (hS : va_S A s.heap H locs) (hA : ∀ q, s.heap.size ≤ q → A q) (isC isR : List Nat) (hC : isC.map (fun i => X[i]?) = cx.map some) (hR : isR.map (fun i => X[i]?) = wr0.map some) (hnC : va_nd isC = true) (hnR : va_nd isR = true) (hdis : ∀ i ∈ isR, i ∉ isC)
    (kk : ∀ (r : Int32) (u : S), post r u → ∀ (H1 : Heap) (locs1 : List Loc), H.size ≤ H1.size → va_P G.1 vwCl ((wr0 ++ rx u) ++ pl) H1 → va_D A ((wr0 ++ rx u) ++ pl) → va_S A s.heap H1 locs1 → W p l e R s m args below meth c H1 locs1 (cells + mc) (slots + ms) Q (F0 m (pc + 3) ls (.int r :: rest))) : W p l e R s m args below meth c H locs cells slots Q (F0 m pc ls st0) := by
  obtain ⟨hPc, hDc, hFc⟩ := wPartP hP hD hS hA isC hC hnC
  refine va_calli (va_runS F hM cw ⟨wr.blind, wr.at hPc hDc hFc hK hT hN hS⟩ rfl hn hsize hstk (lv_room hroom) hdg hf) hS (fun q _ h => hFc q h) hFc (fun r u t H1 locs1 ht hvm hp hB hz hk hS1 => ?_)
  obtain ⟨hP1, hD1⟩ := hB
  rw [ht] at hP1
  obtain ⟨hP2, hD2⟩ := va_joinP hP hD isC isR hC hR hnR hdis hk hFc hP1 hD1
  exact kk r u hp H1 locs1 hz hP2 hD2 hS1
theorem cWSlP (F : CallFix p m c cc nL s args Ts own) {post : Int64 → S → Prop} (hM : Met l y ws rm (va_Pc As (wr G (cx ++ pl) H.size)) (va_Ql post (Bw G.1 vwCl (fun u => rx u ++ pl) (va_A (cx ++ pl) H.size)) (va_A (cx ++ pl) H.size)) mc ms (va_A (cx ++ pl) H.size)) (cw : CallB R s args own index y bytes maxL ret ws rm mc ms n ∧ (Cond.static y).before args s = true)
    (hn : As.length = n) (hsize : ls.size = nL) (hstk : st0 = As.reverse ++ rest) (hroom : (rest.map fun v => v.category).sum ≤ 8) (hdg : decode cc pc = .ok (.invokestatic index, 3)) (hf : cells + mc ≤ R.cells ∧ slots + ms ≤ R.slots)
    (hP : va_P G.1 vwCl (X ++ pl) H) (hD : va_D A (X ++ pl)) (hK : va_K G.1 vwCl (tyG G) s) (hT : STt G A s s.heap) (hN : Nst G s) (hS : va_S A s.heap H locs) (hA : ∀ q, s.heap.size ≤ q → A q) (isC isR : List Nat) (hC : isC.map (fun i => X[i]?) = cx.map some) (hR : isR.map (fun i => X[i]?) = wr0.map some) (hnC : va_nd isC = true) (hnR : va_nd isR = true) (hdis : ∀ i ∈ isR, i ∉ isC)
    (kk : ∀ (r : Int64) (u : S), post r u → ∀ (H1 : Heap) (locs1 : List Loc), H.size ≤ H1.size → va_P G.1 vwCl ((wr0 ++ rx u) ++ pl) H1 → va_D A ((wr0 ++ rx u) ++ pl) → va_S A s.heap H1 locs1 → W p l e R s m args below meth c H1 locs1 (cells + mc) (slots + ms) Q (F0 m (pc + 3) ls (.long r :: rest))) : W p l e R s m args below meth c H locs cells slots Q (F0 m pc ls st0) := by
  obtain ⟨hPc, hDc, hFc⟩ := wPartP hP hD hS hA isC hC hnC
  refine va_calll (va_runS F hM cw ⟨wr.blind, wr.at hPc hDc hFc hK hT hN hS⟩ rfl hn hsize hstk (lv_room hroom) hdg hf) hS (fun q _ h => hFc q h) hFc (fun r u t H1 locs1 ht hvm hp hB hz hk hS1 => ?_)
  obtain ⟨hP1, hD1⟩ := hB
  rw [ht] at hP1
  obtain ⟨hP2, hD2⟩ := va_joinP hP hD isC isR hC hR hnR hdis hk hFc hP1 hD1
  exact kk r u hp H1 locs1 hz hP2 hD2 hS1
theorem cWSrP {ad : S → Nat} (F : CallFix p m c cc nL s args Ts own) {post : S → Prop} (hM : Met l y ws rm (va_Pc As (wr G (cx ++ pl) H.size)) (va_Qr post (Bwr G.1 vwCl (fun u => rx u ++ pl) ad (va_A (cx ++ pl) H.size)) (va_A (cx ++ pl) H.size)) mc ms (va_A (cx ++ pl) H.size)) (cw : CallB R s args own index y bytes maxL ret ws rm mc ms n ∧ (Cond.static y).before args s = true)
    (hn : As.length = n) (hsize : ls.size = nL) (hstk : st0 = As.reverse ++ rest) (hroom : (rest.map fun v => v.category).sum ≤ 8) (hdg : decode cc pc = .ok (.invokestatic index, 3)) (hf : cells + mc ≤ R.cells ∧ slots + ms ≤ R.slots)
    (hP : va_P G.1 vwCl (X ++ pl) H) (hD : va_D A (X ++ pl)) (hK : va_K G.1 vwCl (tyG G) s) (hT : STt G A s s.heap) (hN : Nst G s) (hS : va_S A s.heap H locs) (hA : ∀ q, s.heap.size ≤ q → A q) (isC isR : List Nat) (hC : isC.map (fun i => X[i]?) = cx.map some) (hR : isR.map (fun i => X[i]?) = wr0.map some) (hnC : va_nd isC = true) (hnR : va_nd isR = true) (hdis : ∀ i ∈ isR, i ∉ isC)
    (kk : ∀ (u : S), post u → ∀ (H1 : Heap) (locs1 : List Loc), H.size ≤ H1.size → va_P G.1 vwCl ((wr0 ++ rx u) ++ pl) H1 → va_D A ((wr0 ++ rx u) ++ pl) → va_S A s.heap H1 locs1 → W p l e R s m args below meth c H1 locs1 (cells + mc) (slots + ms) Q (F0 m (pc + 3) ls (.ref (ad u) :: rest))) : W p l e R s m args below meth c H locs cells slots Q (F0 m pc ls st0) := by
  obtain ⟨hPc, hDc, hFc⟩ := wPartP hP hD hS hA isC hC hnC
  refine va_callr (va_runS F hM cw ⟨wr.blind, wr.at hPc hDc hFc hK hT hN hS⟩ rfl hn hsize hstk (lv_room hroom) hdg hf) hS (fun q _ h => hFc q h) hFc (fun u ra t H1 locs1 ht hvm hp hB hz hk hS1 => ?_)
  obtain ⟨rfl, hP1, hD1⟩ := hB
  rw [ht] at hP1
  obtain ⟨hP2, hD2⟩ := va_joinP hP hD isC isR hC hR hnR hdis hk hFc hP1 hD1
  exact kk u hp H1 locs1 hz hP2 hD2 hS1
theorem cWVvP (F : CallFix p m c cc nL s args Ts own) {post : S → Prop} (hM : Met l y ws rm (va_Pc (.ref b :: As) (wr G (cx ++ pl) H.size)) (va_Qv post (Bw G.1 vwCl (fun u => rx u ++ pl) (va_A (cx ++ pl) H.size)) (va_A (cx ++ pl) H.size)) mc ms (va_A (cx ++ pl) H.size)) (cw : CallW R s args own C index y bytes maxL ret ws rm mc ms n)
    (hn : As.length = n) (hsize : ls.size = nL) (hstk : st0 = As.reverse ++ .ref b :: rest) (hroom : (rest.map fun v => v.category).sum ≤ 8) (hdg : decode cc pc = .ok (.invokevirtual index, 3)) (hf : cells + mc ≤ R.cells ∧ slots + ms ≤ R.slots)
    (hP : va_P G.1 vwCl (X ++ pl) H) (hD : va_D A (X ++ pl)) (hK : va_K G.1 vwCl (tyG G) s) (hT : STt G A s s.heap) (hN : Nst G s) (hS : va_S A s.heap H locs) (hA : ∀ q, s.heap.size ≤ q → A q) (isC isR : List Nat) (hC : isC.map (fun i => X[i]?) = cx.map some) (hR : isR.map (fun i => X[i]?) = wr0.map some) (hnC : va_nd isC = true) (hnR : va_nd isR = true) (hdis : ∀ i ∈ isR, i ∉ isC) (hcl : vwCl[ci]? = some (C, T, N)) (h0 : (cx ++ pl)[0]? = some (b, .inr (ci, fs)))
    (kk : ∀ (u : S), post u → ∀ (H1 : Heap) (locs1 : List Loc), H.size ≤ H1.size → va_P G.1 vwCl ((wr0 ++ rx u) ++ pl) H1 → va_D A ((wr0 ++ rx u) ++ pl) → va_S A s.heap H1 locs1 → W p l e R s m args below meth c H1 locs1 (cells + mc) (slots + ms) Q (F0 m (pc + 3) ls rest)) : W p l e R s m args below meth c H locs cells slots Q (F0 m pc ls st0) := by
  obtain ⟨hPc, hDc, hFc⟩ := wPartP hP hD hS hA isC hC hnC
  refine va_callv (va_runV F hM cw ⟨wr.blind, va_recv hK hPc hcl h0, wr.at hPc hDc hFc hK hT hN hS⟩ rfl hn hsize hstk (lv_room hroom) hdg hf) hS (fun q _ h => hFc q h) hFc (fun u t H1 locs1 ht hvm hp hB hz hk hS1 => ?_)
  obtain ⟨hP1, hD1⟩ := hB
  rw [ht] at hP1
  obtain ⟨hP2, hD2⟩ := va_joinP hP hD isC isR hC hR hnR hdis hk hFc hP1 hD1
  exact kk u hp H1 locs1 hz hP2 hD2 hS1
theorem cWViP (F : CallFix p m c cc nL s args Ts own) {post : Int32 → S → Prop} (hM : Met l y ws rm (va_Pc (.ref b :: As) (wr G (cx ++ pl) H.size)) (va_Qi post (Bw G.1 vwCl (fun u => rx u ++ pl) (va_A (cx ++ pl) H.size)) (va_A (cx ++ pl) H.size)) mc ms (va_A (cx ++ pl) H.size)) (cw : CallW R s args own C index y bytes maxL ret ws rm mc ms n)
    (hn : As.length = n) (hsize : ls.size = nL) (hstk : st0 = As.reverse ++ .ref b :: rest) (hroom : (rest.map fun v => v.category).sum ≤ 8) (hdg : decode cc pc = .ok (.invokevirtual index, 3)) (hf : cells + mc ≤ R.cells ∧ slots + ms ≤ R.slots)
    (hP : va_P G.1 vwCl (X ++ pl) H) (hD : va_D A (X ++ pl)) (hK : va_K G.1 vwCl (tyG G) s) (hT : STt G A s s.heap) (hN : Nst G s) (hS : va_S A s.heap H locs) (hA : ∀ q, s.heap.size ≤ q → A q) (isC isR : List Nat) (hC : isC.map (fun i => X[i]?) = cx.map some) (hR : isR.map (fun i => X[i]?) = wr0.map some) (hnC : va_nd isC = true) (hnR : va_nd isR = true) (hdis : ∀ i ∈ isR, i ∉ isC) (hcl : vwCl[ci]? = some (C, T, N)) (h0 : (cx ++ pl)[0]? = some (b, .inr (ci, fs)))
    (kk : ∀ (r : Int32) (u : S), post r u → ∀ (H1 : Heap) (locs1 : List Loc), H.size ≤ H1.size → va_P G.1 vwCl ((wr0 ++ rx u) ++ pl) H1 → va_D A ((wr0 ++ rx u) ++ pl) → va_S A s.heap H1 locs1 → W p l e R s m args below meth c H1 locs1 (cells + mc) (slots + ms) Q (F0 m (pc + 3) ls (.int r :: rest))) : W p l e R s m args below meth c H locs cells slots Q (F0 m pc ls st0) := by
  obtain ⟨hPc, hDc, hFc⟩ := wPartP hP hD hS hA isC hC hnC
  refine va_calli (va_runV F hM cw ⟨wr.blind, va_recv hK hPc hcl h0, wr.at hPc hDc hFc hK hT hN hS⟩ rfl hn hsize hstk (lv_room hroom) hdg hf) hS (fun q _ h => hFc q h) hFc (fun r u t H1 locs1 ht hvm hp hB hz hk hS1 => ?_)
  obtain ⟨hP1, hD1⟩ := hB
  rw [ht] at hP1
  obtain ⟨hP2, hD2⟩ := va_joinP hP hD isC isR hC hR hnR hdis hk hFc hP1 hD1
  exact kk r u hp H1 locs1 hz hP2 hD2 hS1
theorem cWVlP (F : CallFix p m c cc nL s args Ts own) {post : Int64 → S → Prop} (hM : Met l y ws rm (va_Pc (.ref b :: As) (wr G (cx ++ pl) H.size)) (va_Ql post (Bw G.1 vwCl (fun u => rx u ++ pl) (va_A (cx ++ pl) H.size)) (va_A (cx ++ pl) H.size)) mc ms (va_A (cx ++ pl) H.size)) (cw : CallW R s args own C index y bytes maxL ret ws rm mc ms n)
    (hn : As.length = n) (hsize : ls.size = nL) (hstk : st0 = As.reverse ++ .ref b :: rest) (hroom : (rest.map fun v => v.category).sum ≤ 8) (hdg : decode cc pc = .ok (.invokevirtual index, 3)) (hf : cells + mc ≤ R.cells ∧ slots + ms ≤ R.slots)
    (hP : va_P G.1 vwCl (X ++ pl) H) (hD : va_D A (X ++ pl)) (hK : va_K G.1 vwCl (tyG G) s) (hT : STt G A s s.heap) (hN : Nst G s) (hS : va_S A s.heap H locs) (hA : ∀ q, s.heap.size ≤ q → A q) (isC isR : List Nat) (hC : isC.map (fun i => X[i]?) = cx.map some) (hR : isR.map (fun i => X[i]?) = wr0.map some) (hnC : va_nd isC = true) (hnR : va_nd isR = true) (hdis : ∀ i ∈ isR, i ∉ isC) (hcl : vwCl[ci]? = some (C, T, N)) (h0 : (cx ++ pl)[0]? = some (b, .inr (ci, fs)))
    (kk : ∀ (r : Int64) (u : S), post r u → ∀ (H1 : Heap) (locs1 : List Loc), H.size ≤ H1.size → va_P G.1 vwCl ((wr0 ++ rx u) ++ pl) H1 → va_D A ((wr0 ++ rx u) ++ pl) → va_S A s.heap H1 locs1 → W p l e R s m args below meth c H1 locs1 (cells + mc) (slots + ms) Q (F0 m (pc + 3) ls (.long r :: rest))) : W p l e R s m args below meth c H locs cells slots Q (F0 m pc ls st0) := by
  obtain ⟨hPc, hDc, hFc⟩ := wPartP hP hD hS hA isC hC hnC
  refine va_calll (va_runV F hM cw ⟨wr.blind, va_recv hK hPc hcl h0, wr.at hPc hDc hFc hK hT hN hS⟩ rfl hn hsize hstk (lv_room hroom) hdg hf) hS (fun q _ h => hFc q h) hFc (fun r u t H1 locs1 ht hvm hp hB hz hk hS1 => ?_)
  obtain ⟨hP1, hD1⟩ := hB
  rw [ht] at hP1
  obtain ⟨hP2, hD2⟩ := va_joinP hP hD isC isR hC hR hnR hdis hk hFc hP1 hD1
  exact kk r u hp H1 locs1 hz hP2 hD2 hS1
theorem cWVrP {ad : S → Nat} (F : CallFix p m c cc nL s args Ts own) {post : S → Prop} (hM : Met l y ws rm (va_Pc (.ref b :: As) (wr G (cx ++ pl) H.size)) (va_Qr post (Bwr G.1 vwCl (fun u => rx u ++ pl) ad (va_A (cx ++ pl) H.size)) (va_A (cx ++ pl) H.size)) mc ms (va_A (cx ++ pl) H.size)) (cw : CallW R s args own C index y bytes maxL ret ws rm mc ms n)
    (hn : As.length = n) (hsize : ls.size = nL) (hstk : st0 = As.reverse ++ .ref b :: rest) (hroom : (rest.map fun v => v.category).sum ≤ 8) (hdg : decode cc pc = .ok (.invokevirtual index, 3)) (hf : cells + mc ≤ R.cells ∧ slots + ms ≤ R.slots)
    (hP : va_P G.1 vwCl (X ++ pl) H) (hD : va_D A (X ++ pl)) (hK : va_K G.1 vwCl (tyG G) s) (hT : STt G A s s.heap) (hN : Nst G s) (hS : va_S A s.heap H locs) (hA : ∀ q, s.heap.size ≤ q → A q) (isC isR : List Nat) (hC : isC.map (fun i => X[i]?) = cx.map some) (hR : isR.map (fun i => X[i]?) = wr0.map some) (hnC : va_nd isC = true) (hnR : va_nd isR = true) (hdis : ∀ i ∈ isR, i ∉ isC) (hcl : vwCl[ci]? = some (C, T, N)) (h0 : (cx ++ pl)[0]? = some (b, .inr (ci, fs)))
    (kk : ∀ (u : S), post u → ∀ (H1 : Heap) (locs1 : List Loc), H.size ≤ H1.size → va_P G.1 vwCl ((wr0 ++ rx u) ++ pl) H1 → va_D A ((wr0 ++ rx u) ++ pl) → va_S A s.heap H1 locs1 → W p l e R s m args below meth c H1 locs1 (cells + mc) (slots + ms) Q (F0 m (pc + 3) ls (.ref (ad u) :: rest))) : W p l e R s m args below meth c H locs cells slots Q (F0 m pc ls st0) := by
  obtain ⟨hPc, hDc, hFc⟩ := wPartP hP hD hS hA isC hC hnC
  refine va_callr (va_runV F hM cw ⟨wr.blind, va_recv hK hPc hcl h0, wr.at hPc hDc hFc hK hT hN hS⟩ rfl hn hsize hstk (lv_room hroom) hdg hf) hS (fun q _ h => hFc q h) hFc (fun u ra t H1 locs1 ht hvm hp hB hz hk hS1 => ?_)
  obtain ⟨rfl, hP1, hD1⟩ := hB
  rw [ht] at hP1
  obtain ⟨hP2, hD2⟩ := va_joinP hP hD isC isR hC hR hnR hdis hk hFc hP1 hD1
  exact kk u hp H1 locs1 hz hP2 hD2 hS1
theorem cWIvP (F : CallFix p m c cc nL s args Ts own) {post : S → Prop} (hM : Met l y ws rm (va_Pc (.ref b :: As) (wr G (cx ++ pl) H.size)) (va_Qv post (Bw G.1 vwCl (fun u => rx u ++ pl) (va_A (cx ++ pl) H.size)) (va_A (cx ++ pl) H.size)) mc ms (va_A (cx ++ pl) H.size)) (cw : CallB R s args own index y bytes maxL none ws rm mc ms n ∧ y.name = "<init>" ∧ (Cond.instanceMethod y).before args s = true)
    (hn : As.length = n) (hsize : ls.size = nL) (hstk : st0 = As.reverse ++ .ref b :: rest) (hroom : (rest.map fun v => v.category).sum ≤ 8) (hdg : decode cc pc = .ok (.invokespecial index, 3)) (hf : cells + mc ≤ R.cells ∧ slots + ms ≤ R.slots)
    (hP : va_P G.1 vwCl (X ++ pl) H) (hD : va_D A (X ++ pl)) (hK : va_K G.1 vwCl (tyG G) s) (hT : STt G A s s.heap) (hN : Nst G s) (hS : va_S A s.heap H locs) (hA : ∀ q, s.heap.size ≤ q → A q) (isC isR : List Nat) (hC : isC.map (fun i => X[i]?) = cx.map some) (hR : isR.map (fun i => X[i]?) = wr0.map some) (hnC : va_nd isC = true) (hnR : va_nd isR = true) (hdis : ∀ i ∈ isR, i ∉ isC)
    (kk : ∀ (u : S), post u → ∀ (H1 : Heap) (locs1 : List Loc), H.size ≤ H1.size → va_P G.1 vwCl ((wr0 ++ rx u) ++ pl) H1 → va_D A ((wr0 ++ rx u) ++ pl) → va_S A s.heap H1 locs1 → W p l e R s m args below meth c H1 locs1 (cells + mc) (slots + ms) Q (F0 m (pc + 3) ls rest)) : W p l e R s m args below meth c H locs cells slots Q (F0 m pc ls st0) := by
  obtain ⟨hPc, hDc, hFc⟩ := wPartP hP hD hS hA isC hC hnC
  refine va_callv (va_runI F hM cw ⟨wr.blind, wr.at hPc hDc hFc hK hT hN hS⟩ rfl hn hsize hstk (lv_room hroom) hdg hf) hS (fun q _ h => hFc q h) hFc (fun u t H1 locs1 ht hvm hp hB hz hk hS1 => ?_)
  obtain ⟨hP1, hD1⟩ := hB
  rw [ht] at hP1
  obtain ⟨hP2, hD2⟩ := va_joinP hP hD isC isR hC hR hnR hdis hk hFc hP1 hD1
  exact kk u hp H1 locs1 hz hP2 hD2 hS1
end CALLP
theorem shr_half {c : Nat} (h : c < 1000) : iI (c : Int) >>> (iI 1 &&& 31) = iI ((c / 2 : Nat) : Int) := by
  rw [sh_eq ⟨by omega, by omega⟩ (by decide)]
  rfl
