/-! ===== what every contract is given: the classes' numbers, the array classes, the static arrays' addresses ===== -/
abbrev Gx : Type := va_G × (Nat → ClassId) × (Nat → Nat)
abbrev tyG (G : Gx) : List (ClassId × FieldType) := [(G.2.1 0, .int), (G.2.1 1, .long), (G.2.1 2, .boolean), (G.2.1 3, .object "java/lang/Object")]
/-- Pascal's triangle, row behind row -/
def wayL : List Int := [1, 1, 1, 1, 2, 1, 1, 3, 3, 1, 1, 4, 6, 4, 1, 1, 5, 10, 10, 5, 1, 1, 6, 15, 20, 15, 6, 1, 1, 7, 21, 35, 35, 21, 7, 1, 1, 8, 28, 56, 70, 56, 28, 8, 1, 1, 9, 36, 84, 126, 126, 84, 36, 9, 1, 1, 10, 45, 120, 210, 252, 210, 120, 45, 10, 1, 1, 11, 55, 165, 330, 462, 462, 330, 165, 55, 11, 1, 1, 12, 66, 220, 495, 792, 924, 792, 495, 220, 66, 12, 1]
def evenL : List Int := [1, 1, 2, 6, 12, 60, 60, 420, 840, 2520, 2520, 27720, 27720]
def wayT (j : Nat) : Int := wayL.getD j 0
def evenT (j : Nat) : Int := evenL.getD j 0
/-- the static arrays, outside of what may change -/
def STt (G : Gx) (A : Nat → Prop) (U : State) (H : Heap) : Prop :=
  va_Z "MilkFirst$Numbers" "WAYS" "[I" (.ref (G.2.2 0)) A U H ∧ va_T .int (G.2.2 0) 91 (fun j => .int (iI (wayT j))) A U H ∧
  va_Z "MilkFirst$Numbers" "EVEN_LOTS" "[I" (.ref (G.2.2 1)) A U H ∧ va_T .int (G.2.2 1) 13 (fun j => .int (iI (evenT j))) A U H ∧
  va_Z "java/util/ArrayList" "DEFAULTCAPACITY_EMPTY_ELEMENTDATA" "[Ljava/lang/Object;" (.ref (G.2.2 2)) A U H ∧ va_T (.object "java/lang/Object") (G.2.2 2) 0 (fun _ => .null) A U H
theorem STt.moved {G : Gx} {A : Nat → Prop} {u U : State} {H : Heap} (hvm : u.vm.Alike U.vm) (h : STt G A u H) : STt G A U H :=
  ⟨h.1.moved hvm, h.2.1.moved hvm, h.2.2.1.moved hvm, h.2.2.2.1.moved hvm, h.2.2.2.2.1.moved hvm, h.2.2.2.2.2.moved hvm⟩
theorem STt.kept {G : Gx} {A : Nat → Prop} {U : State} {H H1 : Heap} (h : STt G A U H) (hq : ∀ a : Nat, a < H.size → ¬ A a → H1[a]? = H[a]?) : STt G A U H1 :=
  ⟨h.1.kept hq, h.2.1.kept hq, h.2.2.1.kept hq, h.2.2.2.1.kept hq, h.2.2.2.2.1.kept hq, h.2.2.2.2.2.kept hq⟩
theorem STt.narrow {G : Gx} {A B : Nat → Prop} {U : State} {H : Heap} (h : STt G A U H) (hAB : ∀ q, B q → A q) : STt G B U H :=
  ⟨h.1.narrow hAB, h.2.1.narrow hAB, h.2.2.1.narrow hAB, h.2.2.2.1.narrow hAB, h.2.2.2.2.1.narrow hAB, h.2.2.2.2.2.narrow hAB⟩
/-- links between nest mates, and casts, that the tables say -/
def nestWs : List Cond := [.methodLinkNest "MilkFirst$Plan" 32 ⟨"MilkFirst", "mostRight", "(II)I"⟩ "MilkFirst", .methodLinkNest "MilkFirst$Plan" 11 ⟨"MilkFirst$Ends", "<init>", "()V"⟩ "MilkFirst", .methodLinkNest "MilkFirst$Ends" 35 ⟨"MilkFirst", "mostRight", "(II)I"⟩ "MilkFirst", .methodLinkNest "MilkFirst" 49 ⟨"MilkFirst$Looking", "<init>", "()V"⟩ "MilkFirst", .methodLinkNest "MilkFirst" 39 ⟨"MilkFirst$Ends", "<init>", "()V"⟩ "MilkFirst", .methodLinkNest "MilkFirst" 24 ⟨"MilkFirst$Tape", "<init>", "()V"⟩ "MilkFirst", .castable "MilkFirst$Plan" "java/lang/Object", .castable "MilkFirst$Rule" "java/lang/Object", .castable "MilkFirst$Sitting" "java/lang/Object", .castable "[I" "java/lang/Cloneable"]
def Nst (G : Gx) (U : State) : Prop := (∀ w ∈ nestWs, va_Nw w U) ∧ va_AO "java/lang/Object" U ∧ va_Mi "[Ljava/lang/Object;" (G.2.2 3) U ∧ va_Dc U
theorem Nst.warm {G : Gx} {s U : State} (hW : s.WarmedH U.vm) (h : Nst G s) : Nst G U := by
  refine ⟨?_, h.2.1.moved hW.alike, h.2.2.1.moved hW.alike, h.2.2.2.moved hW.alike⟩
  intro w hw
  have h1 := h.1 w hw
  simp only [nestWs, List.mem_cons, List.not_mem_nil, or_false] at hw
  rcases hw with rfl | rfl | rfl | rfl | rfl | rfl | rfl | rfl | rfl | rfl <;> first | exact va_Nw.warmM hW h1 | exact va_Nw.warmC hW h1
theorem Nst.same {G : Gx} {u U : State} (hvm : u.vm = U.vm) (h : Nst G u) : Nst G U := by
  have ha : u.vm.Alike U.vm := hvm ▸ Vm.Alike.refl u.vm
  refine ⟨?_, h.2.1.moved ha, h.2.2.1.moved ha, h.2.2.2.moved ha⟩
  intro w hw
  have h1 := h.1 w hw
  simp only [nestWs, List.mem_cons, List.not_mem_nil, or_false] at hw
  rcases hw with rfl | rfl | rfl | rfl | rfl | rfl | rfl | rfl | rfl | rfl <;> exact va_Nw.same rfl hvm h1
/-- given to a method that writes nothing: its cells -/
def rd (G : Gx) (ws : va_W) (U : State) : Prop := va_P G.1 vwCl ws U.heap ∧ va_K G.1 vwCl (tyG G) U ∧ STt G (fun _ => False) U U.heap ∧ Nst G U
/-- given to a method that writes: its cells, apart -/
def wr (G : Gx) (ws : va_W) (sz : Nat) (U : State) : Prop := U.heap.size = sz ∧ va_P G.1 vwCl ws U.heap ∧ va_K G.1 vwCl (tyG G) U ∧ va_D (fun _ => True) ws ∧ STt G (va_A ws sz) U U.heap ∧ Nst G U
theorem rd.blind {As : List Value} {G : Gx} {ws : va_W} : FrameBlind (va_Pc As (rd G ws)) := by
  intro a U g mk q
  obtain ⟨q0, qP, qK, qT, qN⟩ := q
  exact ⟨q0, qP, va_K.moved (u := U) (U := U.calling g mk a) (Vm.Alike.refl U.vm) qK, STt.moved (u := U) (U := U.calling g mk a) (Vm.Alike.refl U.vm) qT, Nst.same (u := U) (U := U.calling g mk a) rfl qN⟩
theorem wr.blind {As : List Value} {G : Gx} {ws : va_W} {sz : Nat} : FrameBlind (va_Pc As (wr G ws sz)) := by
  intro a U g mk q
  obtain ⟨q0, qz, qP, qK, qD, qT, qN⟩ := q
  exact ⟨q0, qz, qP, va_K.moved (u := U) (U := U.calling g mk a) (Vm.Alike.refl U.vm) qK, qD, STt.moved (u := U) (U := U.calling g mk a) (Vm.Alike.refl U.vm) qT, Nst.same (u := U) (U := U.calling g mk a) rfl qN⟩
/-! ===== a contract's entry ===== -/
theorem enR {l : Launch} {y : MethodName} {ws ws' : List Cond} {rm : Room} {Qc : Array Value → State → Outcome → State → Prop} {cc : ByteArray} {maxL : Nat} {ret : Option FieldType} {G : Gx} {wd : va_W} {As : List Value} {C : String} (lv : List (Nat × Value))
    (hy : plainName y.cls = true) (hC : y.cls = C) (hw : ws = Cond.code y cc maxL ret :: ws') (hmax : (lg_sl As).length ≤ maxL) (hlv : lv_args 0 As = lv)
    (body : ∀ (p : Program) (e : Env) (s : State) (m : MethodId) (args : Array Value) (below : List Frame) (meth : Method) (c : Code) (ls : Array Slot), p.tables.exec = Jvm.exec → c.code = cc → meth.sig.returnType = ret → c.maxLocals = maxL → s.vm.findClass C = some m.cls → (∀ w ∈ ws, w.before args s = true) → meth.locks = false → va_P G.1 vwCl wd s.heap → va_K G.1 vwCl (tyG G) s → STt G (fun _ => False) s s.heap → Nst G s → lv_has ls maxL lv →
      W p l e (headSpec ws rm).room s m args below meth c s.heap [] 0 0 (MQ below Qc args s 0 0 (fun _ => False)) (F0 m 0 ls [])) : Met l y ws rm (va_Pc As (rd G wd)) Qc 0 0 (fun _ => False) := by
  refine Met.ofW (cc := cc) (maxL := maxL) (ret := ret) hy hw ?_
  intro p e s m args below meth c s₁ B hml hv
  obtain ⟨rfl, hP, hK, hT, hN⟩ := hv
  have hl := lv_entry As (n := maxL) hmax
  rw [lg_entry_eq]
  rw [hlv] at hl
  exact body p e s m _ below meth c _ B.exec B.bytes B.returns hml (hC ▸ findClass_of_methodNamed B.named) (atoms_spec (ws := ws) B.pre) B.notSynchronized hP hK hT hN hl
theorem enW {l : Launch} {y : MethodName} {ws ws' : List Cond} {rm : Room} {Qc : (Nat → Prop) → Array Value → State → Outcome → State → Prop} {mc ms : Nat} {cc : ByteArray} {maxL : Nat} {ret : Option FieldType} {G : Gx} {wd : va_W} {sz : Nat} {As : List Value} {C : String} (lv : List (Nat × Value))
    (hy : plainName y.cls = true) (hC : y.cls = C) (hw : ws = Cond.code y cc maxL ret :: ws') (hmax : (lg_sl As).length ≤ maxL) (hlv : lv_args 0 As = lv)
    (body : ∀ (p : Program) (e : Env) (s : State) (m : MethodId) (args : Array Value) (below : List Frame) (meth : Method) (c : Code) (ls : Array Slot) (A : Nat → Prop), p.tables.exec = Jvm.exec → c.code = cc → meth.sig.returnType = ret → c.maxLocals = maxL → s.vm.findClass C = some m.cls → (∀ w ∈ ws, w.before args s = true) → meth.locks = false → meth.name = y.name → va_P G.1 vwCl wd s.heap → va_K G.1 vwCl (tyG G) s → va_D A wd → STt G A s s.heap → Nst G s → (∀ q : Nat, s.heap.size ≤ q → A q) → va_S A s.heap s.heap [] → lv_has ls maxL lv →
      W p l e (headSpec ws rm).room s m args below meth c s.heap [] 0 0 (MQ below (Qc A) args s mc ms A) (F0 m 0 ls [])) : Met l y ws rm (va_Pc As (wr G wd sz)) (Qc (va_A wd sz)) mc ms (va_A wd sz) := by
  refine Met.ofW (cc := cc) (maxL := maxL) (ret := ret) hy hw ?_
  intro p e s m args below meth c s₁ B hml hv
  obtain ⟨rfl, rfl, hP, hK, hD0, hT, hN⟩ := hv
  have hl := lv_entry As (n := maxL) hmax
  rw [lg_entry_eq]
  rw [hlv] at hl
  exact body p e s m _ below meth c _ (va_A wd s.heap.size) B.exec B.bytes B.returns hml (hC ▸ findClass_of_methodNamed B.named) (atoms_spec (ws := ws) B.pre) B.notSynchronized (name_of_methodNamed B.named B.method).1 hP hK hD0.self hT hN (fun q h => Or.inr h) va_S.rf hl
/-! ===== a contract's end ===== -/
section END
variable {p : Program} {l : Launch} {e : Env} {R : Room} {s : State} {m : MethodId} {args : Array Value} {below : List Frame} {meth : Method} {c : Code} {H : Heap} {locs : List Loc} {cells slots : Nat} {cc : ByteArray} {pc : Nat} {ls : Array Slot}
theorem rtRi (hx : p.tables.exec = Jvm.exec) (hb : c.code = cc) (hr : meth.sig.returnType = some .int) (hk : meth.locks = false) {post : Int32 → Prop} {v : Int32} (hd : decode cc pc = .ok (.ireturn, 1)) (h : post v) : W p l e R s m args below meth c s.heap [] 0 0 (MQ below (vp_Si post) args s 0 0 (fun _ => False)) (F0 m pc ls [.int v]) := W.iret hx hb hr (fun t ht hW => ⟨v, rfl, h, ht⟩) (fun _ h => by cases h) hd hk
theorem rtRz (hx : p.tables.exec = Jvm.exec) (hb : c.code = cc) (hr : meth.sig.returnType = some .boolean) (hk : meth.locks = false) {post : Int32 → Prop} {v : Int32} (hn : narrow .boolean (.int v) = .int v) (hd : decode cc pc = .ok (.ireturn, 1)) (h : post v) : W p l e R s m args below meth c s.heap [] 0 0 (MQ below (vp_Si post) args s 0 0 (fun _ => False)) (F0 m pc ls [.int v]) := W.zret hx hb hr hn (fun t ht hW => ⟨v, rfl, h, ht⟩) (fun _ h => by cases h) hd hk
theorem rtRl (hx : p.tables.exec = Jvm.exec) (hb : c.code = cc) (hr : meth.sig.returnType = some .long) (hk : meth.locks = false) {post : Int64 → Prop} {v : Int64} (hd : decode cc pc = .ok (.lreturn, 1)) (h : post v) : W p l e R s m args below meth c s.heap [] 0 0 (MQ below (vp_Sl post) args s 0 0 (fun _ => False)) (F0 m pc ls [.long v]) := W.lret hx hb hr (fun t ht hW => ⟨v, rfl, h, ht⟩) (fun _ h => by cases h) hd hk
theorem rtRv (hx : p.tables.exec = Jvm.exec) (hb : c.code = cc) (hr : meth.sig.returnType = none) (hk : meth.locks = false) {post : Unit → Prop} (hd : decode cc pc = .ok (.return_, 1)) (h : post ()) : W p l e R s m args below meth c s.heap [] 0 0 (MQ below (va_Sv post) args s 0 0 (fun _ => False)) (F0 m pc ls []) := W.vret hx hb hr (fun t ht hW => ⟨rfl, h, ht⟩) (fun _ h => by cases h) hd hk
variable {S : Type} {A : Nat → Prop} {D : va_G} {cl : List vw_C}
abbrev Bw (D : va_G) (cl : List vw_C) {S : Type} (w : S → va_W) (A : Nat → Prop) : S → State → Prop := fun u t => va_P D cl (w u) t.heap ∧ va_D A (w u)
theorem rtWv (hx : p.tables.exec = Jvm.exec) (hb : c.code = cc) (hr : meth.sig.returnType = none) (hk : meth.locks = false) {post : S → Prop} {w : S → va_W} (hd : decode cc pc = .ok (.return_, 1)) (u : S) (h : post u) (hP : va_P D cl (w u) H) (hD : va_D A (w u)) (hS : va_S A s.heap H locs) : W p l e R s m args below meth c H locs cells slots (MQ below (va_Qv post (Bw D cl w A) A) args s cells slots A) (F0 m pc ls []) := W.vret hx hb hr (fun t ht hW => ⟨⟨u, rfl, h, by rw [ht]; exact hP, hD⟩, hS.F ht⟩) hS.2.2 hd hk
theorem rtWi (hx : p.tables.exec = Jvm.exec) (hb : c.code = cc) (hr : meth.sig.returnType = some .int) (hk : meth.locks = false) {post : Int32 → S → Prop} {w : S → va_W} {v : Int32} (hd : decode cc pc = .ok (.ireturn, 1)) (u : S) (h : post v u) (hP : va_P D cl (w u) H) (hD : va_D A (w u)) (hS : va_S A s.heap H locs) : W p l e R s m args below meth c H locs cells slots (MQ below (va_Qi post (Bw D cl w A) A) args s cells slots A) (F0 m pc ls [.int v]) := W.iret hx hb hr (fun t ht hW => ⟨⟨v, u, rfl, h, by rw [ht]; exact hP, hD⟩, hS.F ht⟩) hS.2.2 hd hk
theorem rtWz (hx : p.tables.exec = Jvm.exec) (hb : c.code = cc) (hr : meth.sig.returnType = some .boolean) (hk : meth.locks = false) {post : Int32 → S → Prop} {w : S → va_W} {v : Int32} (hn : narrow .boolean (.int v) = .int v) (hd : decode cc pc = .ok (.ireturn, 1)) (u : S) (h : post v u) (hP : va_P D cl (w u) H) (hD : va_D A (w u)) (hS : va_S A s.heap H locs) : W p l e R s m args below meth c H locs cells slots (MQ below (va_Qi post (Bw D cl w A) A) args s cells slots A) (F0 m pc ls [.int v]) := W.zret hx hb hr hn (fun t ht hW => ⟨⟨v, u, rfl, h, by rw [ht]; exact hP, hD⟩, hS.F ht⟩) hS.2.2 hd hk
theorem rtWl (hx : p.tables.exec = Jvm.exec) (hb : c.code = cc) (hr : meth.sig.returnType = some .long) (hk : meth.locks = false) {post : Int64 → S → Prop} {w : S → va_W} {v : Int64} (hd : decode cc pc = .ok (.lreturn, 1)) (u : S) (h : post v u) (hP : va_P D cl (w u) H) (hD : va_D A (w u)) (hS : va_S A s.heap H locs) : W p l e R s m args below meth c H locs cells slots (MQ below (va_Ql post (Bw D cl w A) A) args s cells slots A) (F0 m pc ls [.long v]) := W.lret hx hb hr (fun t ht hW => ⟨⟨v, u, rfl, h, by rw [ht]; exact hP, hD⟩, hS.F ht⟩) hS.2.2 hd hk
theorem rtRr (hx : p.tables.exec = Jvm.exec) (hb : c.code = cc) {rt : FieldType} (hr : meth.sig.returnType = some rt) (hk : meth.locks = false) (hrt : (∃ n, rt = .object n) ∨ ∃ t, rt = .array t) {a : Nat} (hd : decode cc pc = .ok (.areturn, 1)) : W p l e R s m args below meth c s.heap [] 0 0 (MQ below (va_Sr (fun _ => True) (fun _ => .ref a)) args s 0 0 (fun _ => False)) (F0 m pc ls [.ref a]) := W.aret hx hb hr hrt (Or.inr ⟨a, rfl⟩) (fun t ht hW => ⟨0, rfl, trivial, ht⟩) (fun _ h => by cases h) hd hk
theorem rtRn (hx : p.tables.exec = Jvm.exec) (hb : c.code = cc) {rt : FieldType} (hr : meth.sig.returnType = some rt) (hk : meth.locks = false) (hrt : (∃ n, rt = .object n) ∨ ∃ t, rt = .array t) (hd : decode cc pc = .ok (.areturn, 1)) : W p l e R s m args below meth c s.heap [] 0 0 (MQ below (va_Sr (fun _ => True) (fun _ => .null)) args s 0 0 (fun _ => False)) (F0 m pc ls [.null]) := W.aret hx hb hr hrt (Or.inl rfl) (fun t ht hW => ⟨0, rfl, trivial, ht⟩) (fun _ h => by cases h) hd hk
abbrev Bwr (D : va_G) (cl : List vw_C) {S : Type} (w : S → va_W) (ad : S → Nat) (A : Nat → Prop) : S → Nat → State → Prop := fun u a t => a = ad u ∧ va_P D cl (w u) t.heap ∧ va_D A (w u)
theorem rtWr (hx : p.tables.exec = Jvm.exec) (hb : c.code = cc) {rt : FieldType} (hr : meth.sig.returnType = some rt) (hk : meth.locks = false) (hrt : (∃ n, rt = .object n) ∨ ∃ t, rt = .array t) {post : S → Prop} {w : S → va_W} {ad : S → Nat} (hd : decode cc pc = .ok (.areturn, 1)) (u : S) (h : post u) (hP : va_P D cl (w u) H) (hD : va_D A (w u)) (hS : va_S A s.heap H locs) : W p l e R s m args below meth c H locs cells slots (MQ below (va_Qr post (Bwr D cl w ad A) A) args s cells slots A) (F0 m pc ls [.ref (ad u)]) := W.aret hx hb hr hrt (Or.inr ⟨ad u, rfl⟩) (fun t ht hW => ⟨⟨u, ad u, rfl, h, rfl, by rw [ht]; exact hP, hD⟩, hS.F ht⟩) hS.2.2 hd hk
end END
/-! ===== calls ===== -/
section CALL
variable {p : Program} {l : Launch} {e : Env} {R : Room} {s : State} {m : MethodId} {args : Array Value} {below : List Frame} {meth : Method} {c : Code} {H : Heap} {locs : List Loc} {cells slots : Nat} {Q : State → Prop} {cc : ByteArray} {pc : Nat} {ls : Array Slot}
variable {y : MethodName} {bytes : ByteArray} {maxL nL mc ms n index ci : Nat} {ret : Option FieldType} {ws : List Cond} {rm : Room} {Ts : List Cond} {own C : String} {b : Addr} {As rest st0 : List Value} {A A0 : Nat → Prop} {H0 : Heap} {G : Gx} {wc : va_W} {fs : List Value} {T : u_T} {N : Nat}
/-- what a reading callee wants is there -/
theorem rd.at (hPc : va_P G.1 vwCl wc H) (hK : va_K G.1 vwCl (tyG G) s) (hT : STt G A s s.heap) (hN : Nst G s) (hS : va_S A s.heap H locs) : ∀ U : State, U.heap = H → s.WarmedH U.vm → va_Pc As (rd G wc) As.toArray U := fun U hU hW => ⟨rfl, by rw [hU]; exact hPc, va_K.moved hW.alike hK, by rw [hU]; exact ((hT.kept (fun a h1 h2 => hS.2.1 a h1 h2)).narrow (fun _ h => h.elim)).moved hW.alike, hN.warm hW⟩
theorem wr.at (hPc : va_P G.1 vwCl wc H) (hDc : va_D A wc) (hFc : ∀ q, va_A wc H.size q → A q) (hK : va_K G.1 vwCl (tyG G) s) (hT : STt G A s s.heap) (hN : Nst G s) (hS : va_S A s.heap H locs) : ∀ U : State, U.heap = H → s.WarmedH U.vm → va_Pc As (wr G wc H.size) As.toArray U := fun U hU hW => ⟨rfl, by rw [hU], by rw [hU]; exact hPc, va_K.moved hW.alike hK, hDc.weaken (fun _ _ _ _ => trivial), by rw [hU]; exact ((hT.kept (fun a h1 h2 => hS.2.1 a h1 h2)).narrow hFc).moved hW.alike, hN.warm hW⟩
theorem cRSi (F : CallFix p m c cc nL s args Ts own) {v : Int32} (hM : Met l y ws rm (va_Pc As (rd G wc)) (vp_Si (fun r => r = v)) 0 0 (fun _ => False)) (cw : CallB R s args own index y bytes maxL ret ws rm 0 0 n ∧ (Cond.static y).before args s = true)
    (hn : As.length = n) (hsize : ls.size = nL) (hstk : st0 = As.reverse ++ rest) (hroom : (rest.map fun v => v.category).sum ≤ 8) (hdg : decode cc pc = .ok (.invokestatic index, 3)) (hf : cells ≤ R.cells ∧ slots ≤ R.slots)
    (hPc : va_P G.1 vwCl wc H) (hK : va_K G.1 vwCl (tyG G) s) (hT : STt G A s s.heap) (hN : Nst G s) (hS : va_S A s.heap H locs)
    (kk : W p l e R s m args below meth c H locs cells slots Q (F0 m (pc + 3) ls (.int v :: rest))) : W p l e R s m args below meth c H locs cells slots Q (F0 m pc ls st0) :=
  vp_callSi (va_Run.run (va_runS F hM cw ⟨rd.blind, rd.at hPc hK hT hN hS⟩ rfl hn hsize hstk (lv_room hroom) hdg hf)) (fun r hr => by rw [hr]; exact kk)
theorem cRSl (F : CallFix p m c cc nL s args Ts own) {v : Int64} (hM : Met l y ws rm (va_Pc As (rd G wc)) (vp_Sl (fun r => r = v)) 0 0 (fun _ => False)) (cw : CallB R s args own index y bytes maxL ret ws rm 0 0 n ∧ (Cond.static y).before args s = true)
    (hn : As.length = n) (hsize : ls.size = nL) (hstk : st0 = As.reverse ++ rest) (hroom : (rest.map fun v => v.category).sum ≤ 8) (hdg : decode cc pc = .ok (.invokestatic index, 3)) (hf : cells ≤ R.cells ∧ slots ≤ R.slots)
    (hPc : va_P G.1 vwCl wc H) (hK : va_K G.1 vwCl (tyG G) s) (hT : STt G A s s.heap) (hN : Nst G s) (hS : va_S A s.heap H locs)
    (kk : W p l e R s m args below meth c H locs cells slots Q (F0 m (pc + 3) ls (.long v :: rest))) : W p l e R s m args below meth c H locs cells slots Q (F0 m pc ls st0) :=
  vp_callSl (va_Run.run (va_runS F hM cw ⟨rd.blind, rd.at hPc hK hT hN hS⟩ rfl hn hsize hstk (lv_room hroom) hdg hf)) (fun r hr => by rw [hr]; exact kk)
theorem cRSv (F : CallFix p m c cc nL s args Ts own) (hM : Met l y ws rm (va_Pc As (rd G wc)) (va_Sv (fun _ => True)) 0 0 (fun _ => False)) (cw : CallB R s args own index y bytes maxL ret ws rm 0 0 n ∧ (Cond.static y).before args s = true)
    (hn : As.length = n) (hsize : ls.size = nL) (hstk : st0 = As.reverse ++ rest) (hroom : (rest.map fun v => v.category).sum ≤ 8) (hdg : decode cc pc = .ok (.invokestatic index, 3)) (hf : cells ≤ R.cells ∧ slots ≤ R.slots)
    (hPc : va_P G.1 vwCl wc H) (hK : va_K G.1 vwCl (tyG G) s) (hT : STt G A s s.heap) (hN : Nst G s) (hS : va_S A s.heap H locs)
    (kk : W p l e R s m args below meth c H locs cells slots Q (F0 m (pc + 3) ls rest)) : W p l e R s m args below meth c H locs cells slots Q (F0 m pc ls st0) :=
  va_csv (va_Run.run (va_runS F hM cw ⟨rd.blind, rd.at hPc hK hT hN hS⟩ rfl hn hsize hstk (lv_room hroom) hdg hf)) (fun _ => kk)
theorem cRSNi {host : String} (F : CallFix p m c cc nL s args Ts own) {v : Int32} (hM : Met l y ws rm (va_Pc As (rd G wc)) (vp_Si (fun r => r = v)) 0 0 (fun _ => False)) (cw : va_CN R s args own index y host bytes maxL ret ws rm 0 0 n ∧ (Cond.static y).before args s = true ∧ True)
    (hn : As.length = n) (hsize : ls.size = nL) (hstk : st0 = As.reverse ++ rest) (hroom : (rest.map fun v => v.category).sum ≤ 8) (hdg : decode cc pc = .ok (.invokestatic index, 3)) (hf : cells ≤ R.cells ∧ slots ≤ R.slots)
    (hPc : va_P G.1 vwCl wc H) (hK : va_K G.1 vwCl (tyG G) s) (hT : STt G A s s.heap) (hN : Nst G s) (hS : va_S A s.heap H locs)
    (kk : W p l e R s m args below meth c H locs cells slots Q (F0 m (pc + 3) ls (.int v :: rest))) : W p l e R s m args below meth c H locs cells slots Q (F0 m pc ls st0) :=
  vp_callSi (va_Run.run (va_runSN F hM cw ⟨rd.blind, rd.at hPc hK hT hN hS⟩ rfl hn hsize hstk (lv_room hroom) hdg hf)) (fun r hr => by rw [hr]; exact kk)
theorem cRSNl {host : String} (F : CallFix p m c cc nL s args Ts own) {v : Int64} (hM : Met l y ws rm (va_Pc As (rd G wc)) (vp_Sl (fun r => r = v)) 0 0 (fun _ => False)) (cw : va_CN R s args own index y host bytes maxL ret ws rm 0 0 n ∧ (Cond.static y).before args s = true ∧ True)
    (hn : As.length = n) (hsize : ls.size = nL) (hstk : st0 = As.reverse ++ rest) (hroom : (rest.map fun v => v.category).sum ≤ 8) (hdg : decode cc pc = .ok (.invokestatic index, 3)) (hf : cells ≤ R.cells ∧ slots ≤ R.slots)
    (hPc : va_P G.1 vwCl wc H) (hK : va_K G.1 vwCl (tyG G) s) (hT : STt G A s s.heap) (hN : Nst G s) (hS : va_S A s.heap H locs)
    (kk : W p l e R s m args below meth c H locs cells slots Q (F0 m (pc + 3) ls (.long v :: rest))) : W p l e R s m args below meth c H locs cells slots Q (F0 m pc ls st0) :=
  vp_callSl (va_Run.run (va_runSN F hM cw ⟨rd.blind, rd.at hPc hK hT hN hS⟩ rfl hn hsize hstk (lv_room hroom) hdg hf)) (fun r hr => by rw [hr]; exact kk)
theorem cRSNv {host : String} (F : CallFix p m c cc nL s args Ts own) (hM : Met l y ws rm (va_Pc As (rd G wc)) (va_Sv (fun _ => True)) 0 0 (fun _ => False)) (cw : va_CN R s args own index y host bytes maxL ret ws rm 0 0 n ∧ (Cond.static y).before args s = true ∧ True)
    (hn : As.length = n) (hsize : ls.size = nL) (hstk : st0 = As.reverse ++ rest) (hroom : (rest.map fun v => v.category).sum ≤ 8) (hdg : decode cc pc = .ok (.invokestatic index, 3)) (hf : cells ≤ R.cells ∧ slots ≤ R.slots)
    (hPc : va_P G.1 vwCl wc H) (hK : va_K G.1 vwCl (tyG G) s) (hT : STt G A s s.heap) (hN : Nst G s) (hS : va_S A s.heap H locs)
    (kk : W p l e R s m args below meth c H locs cells slots Q (F0 m (pc + 3) ls rest)) : W p l e R s m args below meth c H locs cells slots Q (F0 m pc ls st0) :=
  va_csv (va_Run.run (va_runSN F hM cw ⟨rd.blind, rd.at hPc hK hT hN hS⟩ rfl hn hsize hstk (lv_room hroom) hdg hf)) (fun _ => kk)
theorem cRVi (F : CallFix p m c cc nL s args Ts own) {v : Int32} (hM : Met l y ws rm (va_Pc (.ref b :: As) (rd G wc)) (vp_Si (fun r => r = v)) 0 0 (fun _ => False)) (cw : CallW R s args own C index y bytes maxL ret ws rm 0 0 n)
    (hn : As.length = n) (hsize : ls.size = nL) (hstk : st0 = As.reverse ++ .ref b :: rest) (hroom : (rest.map fun v => v.category).sum ≤ 8) (hdg : decode cc pc = .ok (.invokevirtual index, 3)) (hf : cells ≤ R.cells ∧ slots ≤ R.slots)
    (hPc : va_P G.1 vwCl wc H) (hK : va_K G.1 vwCl (tyG G) s) (hT : STt G A s s.heap) (hN : Nst G s) (hS : va_S A s.heap H locs) (hcl : vwCl[ci]? = some (C, T, N)) (h0 : wc[0]? = some (b, .inr (ci, fs)))
    (kk : W p l e R s m args below meth c H locs cells slots Q (F0 m (pc + 3) ls (.int v :: rest))) : W p l e R s m args below meth c H locs cells slots Q (F0 m pc ls st0) :=
  vp_callSi (va_Run.run (va_runV F hM cw ⟨rd.blind, va_recv hK hPc hcl h0, rd.at hPc hK hT hN hS⟩ rfl hn hsize hstk (lv_room hroom) hdg hf)) (fun r hr => by rw [hr]; exact kk)
theorem cRVl (F : CallFix p m c cc nL s args Ts own) {v : Int64} (hM : Met l y ws rm (va_Pc (.ref b :: As) (rd G wc)) (vp_Sl (fun r => r = v)) 0 0 (fun _ => False)) (cw : CallW R s args own C index y bytes maxL ret ws rm 0 0 n)
    (hn : As.length = n) (hsize : ls.size = nL) (hstk : st0 = As.reverse ++ .ref b :: rest) (hroom : (rest.map fun v => v.category).sum ≤ 8) (hdg : decode cc pc = .ok (.invokevirtual index, 3)) (hf : cells ≤ R.cells ∧ slots ≤ R.slots)
    (hPc : va_P G.1 vwCl wc H) (hK : va_K G.1 vwCl (tyG G) s) (hT : STt G A s s.heap) (hN : Nst G s) (hS : va_S A s.heap H locs) (hcl : vwCl[ci]? = some (C, T, N)) (h0 : wc[0]? = some (b, .inr (ci, fs)))
    (kk : W p l e R s m args below meth c H locs cells slots Q (F0 m (pc + 3) ls (.long v :: rest))) : W p l e R s m args below meth c H locs cells slots Q (F0 m pc ls st0) :=
  vp_callSl (va_Run.run (va_runV F hM cw ⟨rd.blind, va_recv hK hPc hcl h0, rd.at hPc hK hT hN hS⟩ rfl hn hsize hstk (lv_room hroom) hdg hf)) (fun r hr => by rw [hr]; exact kk)
theorem cRVv (F : CallFix p m c cc nL s args Ts own) (hM : Met l y ws rm (va_Pc (.ref b :: As) (rd G wc)) (va_Sv (fun _ => True)) 0 0 (fun _ => False)) (cw : CallW R s args own C index y bytes maxL ret ws rm 0 0 n)
    (hn : As.length = n) (hsize : ls.size = nL) (hstk : st0 = As.reverse ++ .ref b :: rest) (hroom : (rest.map fun v => v.category).sum ≤ 8) (hdg : decode cc pc = .ok (.invokevirtual index, 3)) (hf : cells ≤ R.cells ∧ slots ≤ R.slots)
    (hPc : va_P G.1 vwCl wc H) (hK : va_K G.1 vwCl (tyG G) s) (hT : STt G A s s.heap) (hN : Nst G s) (hS : va_S A s.heap H locs) (hcl : vwCl[ci]? = some (C, T, N)) (h0 : wc[0]? = some (b, .inr (ci, fs)))
    (kk : W p l e R s m args below meth c H locs cells slots Q (F0 m (pc + 3) ls rest)) : W p l e R s m args below meth c H locs cells slots Q (F0 m pc ls st0) :=
  va_csv (va_Run.run (va_runV F hM cw ⟨rd.blind, va_recv hK hPc hcl h0, rd.at hPc hK hT hN hS⟩ rfl hn hsize hstk (lv_room hroom) hdg hf)) (fun _ => kk)
theorem cRSr (F : CallFix p m c cc nL s args Ts own) {a : Value} (hM : Met l y ws rm (va_Pc As (rd G wc)) (va_Sr (fun _ => True) (fun _ => a)) 0 0 (fun _ => False)) (cw : CallB R s args own index y bytes maxL ret ws rm 0 0 n ∧ (Cond.static y).before args s = true)
    (hn : As.length = n) (hsize : ls.size = nL) (hstk : st0 = As.reverse ++ rest) (hroom : (rest.map fun v => v.category).sum ≤ 8) (hdg : decode cc pc = .ok (.invokestatic index, 3)) (hf : cells ≤ R.cells ∧ slots ≤ R.slots)
    (hPc : va_P G.1 vwCl wc H) (hK : va_K G.1 vwCl (tyG G) s) (hT : STt G A s s.heap) (hN : Nst G s) (hS : va_S A s.heap H locs)
    (kk : W p l e R s m args below meth c H locs cells slots Q (F0 m (pc + 3) ls (a :: rest))) : W p l e R s m args below meth c H locs cells slots Q (F0 m pc ls st0) :=
  va_csr (va_Run.run (va_runS F hM cw ⟨rd.blind, rd.at hPc hK hT hN hS⟩ rfl hn hsize hstk (lv_room hroom) hdg hf)) (fun _ _ => kk)
theorem cRVr (F : CallFix p m c cc nL s args Ts own) {a : Value} (hM : Met l y ws rm (va_Pc (.ref b :: As) (rd G wc)) (va_Sr (fun _ => True) (fun _ => a)) 0 0 (fun _ => False)) (cw : CallW R s args own C index y bytes maxL ret ws rm 0 0 n)
    (hn : As.length = n) (hsize : ls.size = nL) (hstk : st0 = As.reverse ++ .ref b :: rest) (hroom : (rest.map fun v => v.category).sum ≤ 8) (hdg : decode cc pc = .ok (.invokevirtual index, 3)) (hf : cells ≤ R.cells ∧ slots ≤ R.slots)
    (hPc : va_P G.1 vwCl wc H) (hK : va_K G.1 vwCl (tyG G) s) (hT : STt G A s s.heap) (hN : Nst G s) (hS : va_S A s.heap H locs) (hcl : vwCl[ci]? = some (C, T, N)) (h0 : wc[0]? = some (b, .inr (ci, fs)))
    (kk : W p l e R s m args below meth c H locs cells slots Q (F0 m (pc + 3) ls (a :: rest))) : W p l e R s m args below meth c H locs cells slots Q (F0 m pc ls st0) :=
  va_csr (va_Run.run (va_runV F hM cw ⟨rd.blind, va_recv hK hPc hcl h0, rd.at hPc hK hT hN hS⟩ rfl hn hsize hstk (lv_room hroom) hdg hf)) (fun _ _ => kk)
/-! a writing callee: its cells are the places isC of the fixed part X, the pool pl stays; behind it the rest's cells, then the callee's -/
variable {S : Type} {X wr0 pl : va_W} {w1 : S → va_W}
theorem wPart {wc : va_W} (hP : va_P G.1 vwCl (X ++ pl) H) (hD : va_D A (X ++ pl)) (hS : va_S A s.heap H locs) (hA : ∀ q, s.heap.size ≤ q → A q) (isC : List Nat) (hC : isC.map (fun i => X[i]?) = wc.map some) (hnC : va_nd isC = true) : va_P G.1 vwCl wc H ∧ va_D A wc ∧ ∀ q, va_A wc H.size q → A q := by
  have hDc : va_D A wc := by
    have h := hD.part isC hnC hC
    exact h.by id (fun k q hk => by show (wc ++ pl)[k]? = some q; rw [List.getElem?_append_left (List.getElem?_eq_some_iff.mp hk).1]; exact hk) (fun i j _ _ e => e)
  refine ⟨?_, hDc, ?_⟩
  · have h := hP.part isC hC
    exact fun k q hk => h k q (by rw [List.getElem?_append_left (List.getElem?_eq_some_iff.mp hk).1]; exact hk)
  · intro q h
    rcases h with ⟨k, e, h⟩ | h
    · exact hDc.2 k (q, e) h
    · exact hA q (Nat.le_trans hS.1 h)
theorem cWSv (F : CallFix p m c cc nL s args Ts own) {post : S → Prop} (hM : Met l y ws rm (va_Pc As (wr G wc H.size)) (va_Qv post (Bw G.1 vwCl w1 (va_A wc H.size)) (va_A wc H.size)) mc ms (va_A wc H.size)) (cw : CallB R s args own index y bytes maxL ret ws rm mc ms n ∧ (Cond.static y).before args s = true)
    (hn : As.length = n) (hsize : ls.size = nL) (hstk : st0 = As.reverse ++ rest) (hroom : (rest.map fun v => v.category).sum ≤ 8) (hdg : decode cc pc = .ok (.invokestatic index, 3)) (hf : cells + mc ≤ R.cells ∧ slots + ms ≤ R.slots)
    (hP : va_P G.1 vwCl (X ++ pl) H) (hD : va_D A (X ++ pl)) (hK : va_K G.1 vwCl (tyG G) s) (hT : STt G A s s.heap) (hN : Nst G s) (hS : va_S A s.heap H locs) (hA : ∀ q, s.heap.size ≤ q → A q) (isC isR : List Nat) (hC : isC.map (fun i => X[i]?) = wc.map some) (hR : isR.map (fun i => X[i]?) = wr0.map some) (hnC : va_nd isC = true) (hnR : va_nd isR = true) (hdis : ∀ i ∈ isR, i ∉ isC)
    (kk : ∀ (u : S), post u → ∀ (H1 : Heap) (locs1 : List Loc), H.size ≤ H1.size → va_P G.1 vwCl ((wr0 ++ w1 u) ++ pl) H1 → va_D A ((wr0 ++ w1 u) ++ pl) → va_S A s.heap H1 locs1 → W p l e R s m args below meth c H1 locs1 (cells + mc) (slots + ms) Q (F0 m (pc + 3) ls rest)) : W p l e R s m args below meth c H locs cells slots Q (F0 m pc ls st0) := by
  obtain ⟨hPc, hDc, hFc⟩ := wPart hP hD hS hA isC hC hnC
  refine va_callv (va_runS F hM cw ⟨wr.blind, wr.at hPc hDc hFc hK hT hN hS⟩ rfl hn hsize hstk (lv_room hroom) hdg hf) hS (fun q _ h => hFc q h) hFc (fun u t H1 locs1 ht hvm hp hB hz hk hS1 => ?_)
  obtain ⟨hP1, hD1⟩ := hB
  rw [ht] at hP1
  obtain ⟨hP2, hD2⟩ := va_joinQ hP hD isC isR hC hR hnR hdis hk hFc hP1 hD1
  exact kk u hp H1 locs1 hz hP2 hD2 hS1
theorem cWSv0 (F : CallFix p m c cc nL s args Ts own) {post : S → Prop} (hM : Met l y ws rm (va_Pc As (wr G wc H.size)) (va_Qv post (Bw G.1 vwCl w1 (va_A wc H.size)) (va_A wc H.size)) mc ms (va_A wc H.size)) (cw : CallB R s args own index y bytes maxL ret ws rm mc ms n ∧ (Cond.static y).before args s = true)
    (hn : As.length = n) (hsize : ls.size = nL) (hstk : st0 = As.reverse ++ rest) (hroom : (rest.map fun v => v.category).sum ≤ 8) (hdg : decode cc pc = .ok (.invokestatic index, 3)) (hf : cells + mc ≤ R.cells ∧ slots + ms ≤ R.slots)
    (hP : va_P G.1 vwCl (X) H) (hD : va_D A (X)) (hK : va_K G.1 vwCl (tyG G) s) (hT : STt G A s s.heap) (hN : Nst G s) (hS : va_S A s.heap H locs) (hA : ∀ q, s.heap.size ≤ q → A q) (isC isR : List Nat) (hC : isC.map (fun i => X[i]?) = wc.map some) (hR : isR.map (fun i => X[i]?) = wr0.map some) (hnC : va_nd isC = true) (hnR : va_nd isR = true) (hdis : ∀ i ∈ isR, i ∉ isC)
    (kk : ∀ (u : S), post u → ∀ (H1 : Heap) (locs1 : List Loc), H.size ≤ H1.size → va_P G.1 vwCl (wr0 ++ w1 u) H1 → va_D A (wr0 ++ w1 u) → va_S A s.heap H1 locs1 → W p l e R s m args below meth c H1 locs1 (cells + mc) (slots + ms) Q (F0 m (pc + 3) ls rest)) : W p l e R s m args below meth c H locs cells slots Q (F0 m pc ls st0) := by
  refine cWSv (pl := []) F hM cw hn hsize hstk hroom hdg hf (by rw [List.append_nil]; exact hP) (by rw [List.append_nil]; exact hD) hK hT hN hS hA isC isR hC hR hnC hnR hdis (fun u hp H1 locs1 hz hP1 hD1 hS1 => ?_)
  rw [List.append_nil] at hP1 hD1
  exact kk u hp H1 locs1 hz hP1 hD1 hS1
theorem cWSi (F : CallFix p m c cc nL s args Ts own) {post : Int32 → S → Prop} (hM : Met l y ws rm (va_Pc As (wr G wc H.size)) (va_Qi post (Bw G.1 vwCl w1 (va_A wc H.size)) (va_A wc H.size)) mc ms (va_A wc H.size)) (cw : CallB R s args own index y bytes maxL ret ws rm mc ms n ∧ (Cond.static y).before args s = true)
    (hn : As.length = n) (hsize : ls.size = nL) (hstk : st0 = As.reverse ++ rest) (hroom : (rest.map fun v => v.category).sum ≤ 8) (hdg : decode cc pc = .ok (.invokestatic index, 3)) (hf : cells + mc ≤ R.cells ∧ slots + ms ≤ R.slots)
    (hP : va_P G.1 vwCl (X ++ pl) H) (hD : va_D A (X ++ pl)) (hK : va_K G.1 vwCl (tyG G) s) (hT : STt G A s s.heap) (hN : Nst G s) (hS : va_S A s.heap H locs) (hA : ∀ q, s.heap.size ≤ q → A q) (isC isR : List Nat) (hC : isC.map (fun i => X[i]?) = wc.map some) (hR : isR.map (fun i => X[i]?) = wr0.map some) (hnC : va_nd isC = true) (hnR : va_nd isR = true) (hdis : ∀ i ∈ isR, i ∉ isC)
    (kk : ∀ (r : Int32) (u : S), post r u → ∀ (H1 : Heap) (locs1 : List Loc), H.size ≤ H1.size → va_P G.1 vwCl ((wr0 ++ w1 u) ++ pl) H1 → va_D A ((wr0 ++ w1 u) ++ pl) → va_S A s.heap H1 locs1 → W p l e R s m args below meth c H1 locs1 (cells + mc) (slots + ms) Q (F0 m (pc + 3) ls (.int r :: rest))) : W p l e R s m args below meth c H locs cells slots Q (F0 m pc ls st0) := by
  obtain ⟨hPc, hDc, hFc⟩ := wPart hP hD hS hA isC hC hnC
  refine va_calli (va_runS F hM cw ⟨wr.blind, wr.at hPc hDc hFc hK hT hN hS⟩ rfl hn hsize hstk (lv_room hroom) hdg hf) hS (fun q _ h => hFc q h) hFc (fun r u t H1 locs1 ht hvm hp hB hz hk hS1 => ?_)
  obtain ⟨hP1, hD1⟩ := hB
  rw [ht] at hP1
  obtain ⟨hP2, hD2⟩ := va_joinQ hP hD isC isR hC hR hnR hdis hk hFc hP1 hD1
  exact kk r u hp H1 locs1 hz hP2 hD2 hS1
theorem cWSi0 (F : CallFix p m c cc nL s args Ts own) {post : Int32 → S → Prop} (hM : Met l y ws rm (va_Pc As (wr G wc H.size)) (va_Qi post (Bw G.1 vwCl w1 (va_A wc H.size)) (va_A wc H.size)) mc ms (va_A wc H.size)) (cw : CallB R s args own index y bytes maxL ret ws rm mc ms n ∧ (Cond.static y).before args s = true)
    (hn : As.length = n) (hsize : ls.size = nL) (hstk : st0 = As.reverse ++ rest) (hroom : (rest.map fun v => v.category).sum ≤ 8) (hdg : decode cc pc = .ok (.invokestatic index, 3)) (hf : cells + mc ≤ R.cells ∧ slots + ms ≤ R.slots)
    (hP : va_P G.1 vwCl (X) H) (hD : va_D A (X)) (hK : va_K G.1 vwCl (tyG G) s) (hT : STt G A s s.heap) (hN : Nst G s) (hS : va_S A s.heap H locs) (hA : ∀ q, s.heap.size ≤ q → A q) (isC isR : List Nat) (hC : isC.map (fun i => X[i]?) = wc.map some) (hR : isR.map (fun i => X[i]?) = wr0.map some) (hnC : va_nd isC = true) (hnR : va_nd isR = true) (hdis : ∀ i ∈ isR, i ∉ isC)
    (kk : ∀ (r : Int32) (u : S), post r u → ∀ (H1 : Heap) (locs1 : List Loc), H.size ≤ H1.size → va_P G.1 vwCl (wr0 ++ w1 u) H1 → va_D A (wr0 ++ w1 u) → va_S A s.heap H1 locs1 → W p l e R s m args below meth c H1 locs1 (cells + mc) (slots + ms) Q (F0 m (pc + 3) ls (.int r :: rest))) : W p l e R s m args below meth c H locs cells slots Q (F0 m pc ls st0) := by
  refine cWSi (pl := []) F hM cw hn hsize hstk hroom hdg hf (by rw [List.append_nil]; exact hP) (by rw [List.append_nil]; exact hD) hK hT hN hS hA isC isR hC hR hnC hnR hdis (fun r u hp H1 locs1 hz hP1 hD1 hS1 => ?_)
  rw [List.append_nil] at hP1 hD1
  exact kk r u hp H1 locs1 hz hP1 hD1 hS1
theorem cWSl (F : CallFix p m c cc nL s args Ts own) {post : Int64 → S → Prop} (hM : Met l y ws rm (va_Pc As (wr G wc H.size)) (va_Ql post (Bw G.1 vwCl w1 (va_A wc H.size)) (va_A wc H.size)) mc ms (va_A wc H.size)) (cw : CallB R s args own index y bytes maxL ret ws rm mc ms n ∧ (Cond.static y).before args s = true)
    (hn : As.length = n) (hsize : ls.size = nL) (hstk : st0 = As.reverse ++ rest) (hroom : (rest.map fun v => v.category).sum ≤ 8) (hdg : decode cc pc = .ok (.invokestatic index, 3)) (hf : cells + mc ≤ R.cells ∧ slots + ms ≤ R.slots)
    (hP : va_P G.1 vwCl (X ++ pl) H) (hD : va_D A (X ++ pl)) (hK : va_K G.1 vwCl (tyG G) s) (hT : STt G A s s.heap) (hN : Nst G s) (hS : va_S A s.heap H locs) (hA : ∀ q, s.heap.size ≤ q → A q) (isC isR : List Nat) (hC : isC.map (fun i => X[i]?) = wc.map some) (hR : isR.map (fun i => X[i]?) = wr0.map some) (hnC : va_nd isC = true) (hnR : va_nd isR = true) (hdis : ∀ i ∈ isR, i ∉ isC)
    (kk : ∀ (r : Int64) (u : S), post r u → ∀ (H1 : Heap) (locs1 : List Loc), H.size ≤ H1.size → va_P G.1 vwCl ((wr0 ++ w1 u) ++ pl) H1 → va_D A ((wr0 ++ w1 u) ++ pl) → va_S A s.heap H1 locs1 → W p l e R s m args below meth c H1 locs1 (cells + mc) (slots + ms) Q (F0 m (pc + 3) ls (.long r :: rest))) : W p l e R s m args below meth c H locs cells slots Q (F0 m pc ls st0) := by
  obtain ⟨hPc, hDc, hFc⟩ := wPart hP hD hS hA isC hC hnC
  refine va_calll (va_runS F hM cw ⟨wr.blind, wr.at hPc hDc hFc hK hT hN hS⟩ rfl hn hsize hstk (lv_room hroom) hdg hf) hS (fun q _ h => hFc q h) hFc (fun r u t H1 locs1 ht hvm hp hB hz hk hS1 => ?_)
  obtain ⟨hP1, hD1⟩ := hB
  rw [ht] at hP1
  obtain ⟨hP2, hD2⟩ := va_joinQ hP hD isC isR hC hR hnR hdis hk hFc hP1 hD1
  exact kk r u hp H1 locs1 hz hP2 hD2 hS1
theorem cWSl0 (F : CallFix p m c cc nL s args Ts own) {post : Int64 → S → Prop} (hM : Met l y ws rm (va_Pc As (wr G wc H.size)) (va_Ql post (Bw G.1 vwCl w1 (va_A wc H.size)) (va_A wc H.size)) mc ms (va_A wc H.size)) (cw : CallB R s args own index y bytes maxL ret ws rm mc ms n ∧ (Cond.static y).before args s = true)
    (hn : As.length = n) (hsize : ls.size = nL) (hstk : st0 = As.reverse ++ rest) (hroom : (rest.map fun v => v.category).sum ≤ 8) (hdg : decode cc pc = .ok (.invokestatic index, 3)) (hf : cells + mc ≤ R.cells ∧ slots + ms ≤ R.slots)
    (hP : va_P G.1 vwCl (X) H) (hD : va_D A (X)) (hK : va_K G.1 vwCl (tyG G) s) (hT : STt G A s s.heap) (hN : Nst G s) (hS : va_S A s.heap H locs) (hA : ∀ q, s.heap.size ≤ q → A q) (isC isR : List Nat) (hC : isC.map (fun i => X[i]?) = wc.map some) (hR : isR.map (fun i => X[i]?) = wr0.map some) (hnC : va_nd isC = true) (hnR : va_nd isR = true) (hdis : ∀ i ∈ isR, i ∉ isC)
    (kk : ∀ (r : Int64) (u : S), post r u → ∀ (H1 : Heap) (locs1 : List Loc), H.size ≤ H1.size → va_P G.1 vwCl (wr0 ++ w1 u) H1 → va_D A (wr0 ++ w1 u) → va_S A s.heap H1 locs1 → W p l e R s m args below meth c H1 locs1 (cells + mc) (slots + ms) Q (F0 m (pc + 3) ls (.long r :: rest))) : W p l e R s m args below meth c H locs cells slots Q (F0 m pc ls st0) := by
  refine cWSl (pl := []) F hM cw hn hsize hstk hroom hdg hf (by rw [List.append_nil]; exact hP) (by rw [List.append_nil]; exact hD) hK hT hN hS hA isC isR hC hR hnC hnR hdis (fun r u hp H1 locs1 hz hP1 hD1 hS1 => ?_)
  rw [List.append_nil] at hP1 hD1
  exact kk r u hp H1 locs1 hz hP1 hD1 hS1
theorem cWVv (F : CallFix p m c cc nL s args Ts own) {post : S → Prop} (hM : Met l y ws rm (va_Pc (.ref b :: As) (wr G wc H.size)) (va_Qv post (Bw G.1 vwCl w1 (va_A wc H.size)) (va_A wc H.size)) mc ms (va_A wc H.size)) (cw : CallW R s args own C index y bytes maxL ret ws rm mc ms n)
    (hn : As.length = n) (hsize : ls.size = nL) (hstk : st0 = As.reverse ++ .ref b :: rest) (hroom : (rest.map fun v => v.category).sum ≤ 8) (hdg : decode cc pc = .ok (.invokevirtual index, 3)) (hf : cells + mc ≤ R.cells ∧ slots + ms ≤ R.slots)
    (hP : va_P G.1 vwCl (X ++ pl) H) (hD : va_D A (X ++ pl)) (hK : va_K G.1 vwCl (tyG G) s) (hT : STt G A s s.heap) (hN : Nst G s) (hS : va_S A s.heap H locs) (hA : ∀ q, s.heap.size ≤ q → A q) (isC isR : List Nat) (hC : isC.map (fun i => X[i]?) = wc.map some) (hR : isR.map (fun i => X[i]?) = wr0.map some) (hnC : va_nd isC = true) (hnR : va_nd isR = true) (hdis : ∀ i ∈ isR, i ∉ isC) (hcl : vwCl[ci]? = some (C, T, N)) (h0 : wc[0]? = some (b, .inr (ci, fs)))
    (kk : ∀ (u : S), post u → ∀ (H1 : Heap) (locs1 : List Loc), H.size ≤ H1.size → va_P G.1 vwCl ((wr0 ++ w1 u) ++ pl) H1 → va_D A ((wr0 ++ w1 u) ++ pl) → va_S A s.heap H1 locs1 → W p l e R s m args below meth c H1 locs1 (cells + mc) (slots + ms) Q (F0 m (pc + 3) ls rest)) : W p l e R s m args below meth c H locs cells slots Q (F0 m pc ls st0) := by
  obtain ⟨hPc, hDc, hFc⟩ := wPart hP hD hS hA isC hC hnC
  refine va_callv (va_runV F hM cw ⟨wr.blind, va_recv hK hPc hcl h0, wr.at hPc hDc hFc hK hT hN hS⟩ rfl hn hsize hstk (lv_room hroom) hdg hf) hS (fun q _ h => hFc q h) hFc (fun u t H1 locs1 ht hvm hp hB hz hk hS1 => ?_)
  obtain ⟨hP1, hD1⟩ := hB
  rw [ht] at hP1
  obtain ⟨hP2, hD2⟩ := va_joinQ hP hD isC isR hC hR hnR hdis hk hFc hP1 hD1
  exact kk u hp H1 locs1 hz hP2 hD2 hS1
theorem cWVv0 (F : CallFix p m c cc nL s args Ts own) {post : S → Prop} (hM : Met l y ws rm (va_Pc (.ref b :: As) (wr G wc H.size)) (va_Qv post (Bw G.1 vwCl w1 (va_A wc H.size)) (va_A wc H.size)) mc ms (va_A wc H.size)) (cw : CallW R s args own C index y bytes maxL ret ws rm mc ms n)
    (hn : As.length = n) (hsize : ls.size = nL) (hstk : st0 = As.reverse ++ .ref b :: rest) (hroom : (rest.map fun v => v.category).sum ≤ 8) (hdg : decode cc pc = .ok (.invokevirtual index, 3)) (hf : cells + mc ≤ R.cells ∧ slots + ms ≤ R.slots)
    (hP : va_P G.1 vwCl (X) H) (hD : va_D A (X)) (hK : va_K G.1 vwCl (tyG G) s) (hT : STt G A s s.heap) (hN : Nst G s) (hS : va_S A s.heap H locs) (hA : ∀ q, s.heap.size ≤ q → A q) (isC isR : List Nat) (hC : isC.map (fun i => X[i]?) = wc.map some) (hR : isR.map (fun i => X[i]?) = wr0.map some) (hnC : va_nd isC = true) (hnR : va_nd isR = true) (hdis : ∀ i ∈ isR, i ∉ isC) (hcl : vwCl[ci]? = some (C, T, N)) (h0 : wc[0]? = some (b, .inr (ci, fs)))
    (kk : ∀ (u : S), post u → ∀ (H1 : Heap) (locs1 : List Loc), H.size ≤ H1.size → va_P G.1 vwCl (wr0 ++ w1 u) H1 → va_D A (wr0 ++ w1 u) → va_S A s.heap H1 locs1 → W p l e R s m args below meth c H1 locs1 (cells + mc) (slots + ms) Q (F0 m (pc + 3) ls rest)) : W p l e R s m args below meth c H locs cells slots Q (F0 m pc ls st0) := by
  refine cWVv (pl := []) F hM cw hn hsize hstk hroom hdg hf (by rw [List.append_nil]; exact hP) (by rw [List.append_nil]; exact hD) hK hT hN hS hA isC isR hC hR hnC hnR hdis hcl h0 (fun u hp H1 locs1 hz hP1 hD1 hS1 => ?_)
  rw [List.append_nil] at hP1 hD1
  exact kk u hp H1 locs1 hz hP1 hD1 hS1
theorem cWVi (F : CallFix p m c cc nL s args Ts own) {post : Int32 → S → Prop} (hM : Met l y ws rm (va_Pc (.ref b :: As) (wr G wc H.size)) (va_Qi post (Bw G.1 vwCl w1 (va_A wc H.size)) (va_A wc H.size)) mc ms (va_A wc H.size)) (cw : CallW R s args own C index y bytes maxL ret ws rm mc ms n)
    (hn : As.length = n) (hsize : ls.size = nL) (hstk : st0 = As.reverse ++ .ref b :: rest) (hroom : (rest.map fun v => v.category).sum ≤ 8) (hdg : decode cc pc = .ok (.invokevirtual index, 3)) (hf : cells + mc ≤ R.cells ∧ slots + ms ≤ R.slots)
    (hP : va_P G.1 vwCl (X ++ pl) H) (hD : va_D A (X ++ pl)) (hK : va_K G.1 vwCl (tyG G) s) (hT : STt G A s s.heap) (hN : Nst G s) (hS : va_S A s.heap H locs) (hA : ∀ q, s.heap.size ≤ q → A q) (isC isR : List Nat) (hC : isC.map (fun i => X[i]?) = wc.map some) (hR : isR.map (fun i => X[i]?) = wr0.map some) (hnC : va_nd isC = true) (hnR : va_nd isR = true) (hdis : ∀ i ∈ isR, i ∉ isC) (hcl : vwCl[ci]? = some (C, T, N)) (h0 : wc[0]? = some (b, .inr (ci, fs)))
    (kk : ∀ (r : Int32) (u : S), post r u → ∀ (H1 : Heap) (locs1 : List Loc), H.size ≤ H1.size → va_P G.1 vwCl ((wr0 ++ w1 u) ++ pl) H1 → va_D A ((wr0 ++ w1 u) ++ pl) → va_S A s.heap H1 locs1 → W p l e R s m args below meth c H1 locs1 (cells + mc) (slots + ms) Q (F0 m (pc + 3) ls (.int r :: rest))) : W p l e R s m args below meth c H locs cells slots Q (F0 m pc ls st0) := by
  obtain ⟨hPc, hDc, hFc⟩ := wPart hP hD hS hA isC hC hnC
  refine va_calli (va_runV F hM cw ⟨wr.blind, va_recv hK hPc hcl h0, wr.at hPc hDc hFc hK hT hN hS⟩ rfl hn hsize hstk (lv_room hroom) hdg hf) hS (fun q _ h => hFc q h) hFc (fun r u t H1 locs1 ht hvm hp hB hz hk hS1 => ?_)
  obtain ⟨hP1, hD1⟩ := hB
  rw [ht] at hP1
  obtain ⟨hP2, hD2⟩ := va_joinQ hP hD isC isR hC hR hnR hdis hk hFc hP1 hD1
  exact kk r u hp H1 locs1 hz hP2 hD2 hS1
theorem cWVi0 (F : CallFix p m c cc nL s args Ts own) {post : Int32 → S → Prop} (hM : Met l y ws rm (va_Pc (.ref b :: As) (wr G wc H.size)) (va_Qi post (Bw G.1 vwCl w1 (va_A wc H.size)) (va_A wc H.size)) mc ms (va_A wc H.size)) (cw : CallW R s args own C index y bytes maxL ret ws rm mc ms n)
    (hn : As.length = n) (hsize : ls.size = nL) (hstk : st0 = As.reverse ++ .ref b :: rest) (hroom : (rest.map fun v => v.category).sum ≤ 8) (hdg : decode cc pc = .ok (.invokevirtual index, 3)) (hf : cells + mc ≤ R.cells ∧ slots + ms ≤ R.slots)
    (hP : va_P G.1 vwCl (X) H) (hD : va_D A (X)) (hK : va_K G.1 vwCl (tyG G) s) (hT : STt G A s s.heap) (hN : Nst G s) (hS : va_S A s.heap H locs) (hA : ∀ q, s.heap.size ≤ q → A q) (isC isR : List Nat) (hC : isC.map (fun i => X[i]?) = wc.map some) (hR : isR.map (fun i => X[i]?) = wr0.map some) (hnC : va_nd isC = true) (hnR : va_nd isR = true) (hdis : ∀ i ∈ isR, i ∉ isC) (hcl : vwCl[ci]? = some (C, T, N)) (h0 : wc[0]? = some (b, .inr (ci, fs)))
    (kk : ∀ (r : Int32) (u : S), post r u → ∀ (H1 : Heap) (locs1 : List Loc), H.size ≤ H1.size → va_P G.1 vwCl (wr0 ++ w1 u) H1 → va_D A (wr0 ++ w1 u) → va_S A s.heap H1 locs1 → W p l e R s m args below meth c H1 locs1 (cells + mc) (slots + ms) Q (F0 m (pc + 3) ls (.int r :: rest))) : W p l e R s m args below meth c H locs cells slots Q (F0 m pc ls st0) := by
  refine cWVi (pl := []) F hM cw hn hsize hstk hroom hdg hf (by rw [List.append_nil]; exact hP) (by rw [List.append_nil]; exact hD) hK hT hN hS hA isC isR hC hR hnC hnR hdis hcl h0 (fun r u hp H1 locs1 hz hP1 hD1 hS1 => ?_)
  rw [List.append_nil] at hP1 hD1
  exact kk r u hp H1 locs1 hz hP1 hD1 hS1
theorem cWVl (F : CallFix p m c cc nL s args Ts own) {post : Int64 → S → Prop} (hM : Met l y ws rm (va_Pc (.ref b :: As) (wr G wc H.size)) (va_Ql post (Bw G.1 vwCl w1 (va_A wc H.size)) (va_A wc H.size)) mc ms (va_A wc H.size)) (cw : CallW R s args own C index y bytes maxL ret ws rm mc ms n)
    (hn : As.length = n) (hsize : ls.size = nL) (hstk : st0 = As.reverse ++ .ref b :: rest) (hroom : (rest.map fun v => v.category).sum ≤ 8) (hdg : decode cc pc = .ok (.invokevirtual index, 3)) (hf : cells + mc ≤ R.cells ∧ slots + ms ≤ R.slots)
    (hP : va_P G.1 vwCl (X ++ pl) H) (hD : va_D A (X ++ pl)) (hK : va_K G.1 vwCl (tyG G) s) (hT : STt G A s s.heap) (hN : Nst G s) (hS : va_S A s.heap H locs) (hA : ∀ q, s.heap.size ≤ q → A q) (isC isR : List Nat) (hC : isC.map (fun i => X[i]?) = wc.map some) (hR : isR.map (fun i => X[i]?) = wr0.map some) (hnC : va_nd isC = true) (hnR : va_nd isR = true) (hdis : ∀ i ∈ isR, i ∉ isC) (hcl : vwCl[ci]? = some (C, T, N)) (h0 : wc[0]? = some (b, .inr (ci, fs)))
    (kk : ∀ (r : Int64) (u : S), post r u → ∀ (H1 : Heap) (locs1 : List Loc), H.size ≤ H1.size → va_P G.1 vwCl ((wr0 ++ w1 u) ++ pl) H1 → va_D A ((wr0 ++ w1 u) ++ pl) → va_S A s.heap H1 locs1 → W p l e R s m args below meth c H1 locs1 (cells + mc) (slots + ms) Q (F0 m (pc + 3) ls (.long r :: rest))) : W p l e R s m args below meth c H locs cells slots Q (F0 m pc ls st0) := by
  obtain ⟨hPc, hDc, hFc⟩ := wPart hP hD hS hA isC hC hnC
  refine va_calll (va_runV F hM cw ⟨wr.blind, va_recv hK hPc hcl h0, wr.at hPc hDc hFc hK hT hN hS⟩ rfl hn hsize hstk (lv_room hroom) hdg hf) hS (fun q _ h => hFc q h) hFc (fun r u t H1 locs1 ht hvm hp hB hz hk hS1 => ?_)
  obtain ⟨hP1, hD1⟩ := hB
  rw [ht] at hP1
  obtain ⟨hP2, hD2⟩ := va_joinQ hP hD isC isR hC hR hnR hdis hk hFc hP1 hD1
  exact kk r u hp H1 locs1 hz hP2 hD2 hS1
theorem cWVl0 (F : CallFix p m c cc nL s args Ts own) {post : Int64 → S → Prop} (hM : Met l y ws rm (va_Pc (.ref b :: As) (wr G wc H.size)) (va_Ql post (Bw G.1 vwCl w1 (va_A wc H.size)) (va_A wc H.size)) mc ms (va_A wc H.size)) (cw : CallW R s args own C index y bytes maxL ret ws rm mc ms n)
    (hn : As.length = n) (hsize : ls.size = nL) (hstk : st0 = As.reverse ++ .ref b :: rest) (hroom : (rest.map fun v => v.category).sum ≤ 8) (hdg : decode cc pc = .ok (.invokevirtual index, 3)) (hf : cells + mc ≤ R.cells ∧ slots + ms ≤ R.slots)
    (hP : va_P G.1 vwCl (X) H) (hD : va_D A (X)) (hK : va_K G.1 vwCl (tyG G) s) (hT : STt G A s s.heap) (hN : Nst G s) (hS : va_S A s.heap H locs) (hA : ∀ q, s.heap.size ≤ q → A q) (isC isR : List Nat) (hC : isC.map (fun i => X[i]?) = wc.map some) (hR : isR.map (fun i => X[i]?) = wr0.map some) (hnC : va_nd isC = true) (hnR : va_nd isR = true) (hdis : ∀ i ∈ isR, i ∉ isC) (hcl : vwCl[ci]? = some (C, T, N)) (h0 : wc[0]? = some (b, .inr (ci, fs)))
    (kk : ∀ (r : Int64) (u : S), post r u → ∀ (H1 : Heap) (locs1 : List Loc), H.size ≤ H1.size → va_P G.1 vwCl (wr0 ++ w1 u) H1 → va_D A (wr0 ++ w1 u) → va_S A s.heap H1 locs1 → W p l e R s m args below meth c H1 locs1 (cells + mc) (slots + ms) Q (F0 m (pc + 3) ls (.long r :: rest))) : W p l e R s m args below meth c H locs cells slots Q (F0 m pc ls st0) := by
  refine cWVl (pl := []) F hM cw hn hsize hstk hroom hdg hf (by rw [List.append_nil]; exact hP) (by rw [List.append_nil]; exact hD) hK hT hN hS hA isC isR hC hR hnC hnR hdis hcl h0 (fun r u hp H1 locs1 hz hP1 hD1 hS1 => ?_)
  rw [List.append_nil] at hP1 hD1
  exact kk r u hp H1 locs1 hz hP1 hD1 hS1
theorem cWIv (F : CallFix p m c cc nL s args Ts own) {post : S → Prop} (hM : Met l y ws rm (va_Pc (.ref b :: As) (wr G wc H.size)) (va_Qv post (Bw G.1 vwCl w1 (va_A wc H.size)) (va_A wc H.size)) mc ms (va_A wc H.size)) (cw : CallB R s args own index y bytes maxL none ws rm mc ms n ∧ y.name = "<init>" ∧ (Cond.instanceMethod y).before args s = true)
    (hn : As.length = n) (hsize : ls.size = nL) (hstk : st0 = As.reverse ++ .ref b :: rest) (hroom : (rest.map fun v => v.category).sum ≤ 8) (hdg : decode cc pc = .ok (.invokespecial index, 3)) (hf : cells + mc ≤ R.cells ∧ slots + ms ≤ R.slots)
    (hP : va_P G.1 vwCl (X ++ pl) H) (hD : va_D A (X ++ pl)) (hK : va_K G.1 vwCl (tyG G) s) (hT : STt G A s s.heap) (hN : Nst G s) (hS : va_S A s.heap H locs) (hA : ∀ q, s.heap.size ≤ q → A q) (isC isR : List Nat) (hC : isC.map (fun i => X[i]?) = wc.map some) (hR : isR.map (fun i => X[i]?) = wr0.map some) (hnC : va_nd isC = true) (hnR : va_nd isR = true) (hdis : ∀ i ∈ isR, i ∉ isC)
    (kk : ∀ (u : S), post u → ∀ (H1 : Heap) (locs1 : List Loc), H.size ≤ H1.size → va_P G.1 vwCl ((wr0 ++ w1 u) ++ pl) H1 → va_D A ((wr0 ++ w1 u) ++ pl) → va_S A s.heap H1 locs1 → W p l e R s m args below meth c H1 locs1 (cells + mc) (slots + ms) Q (F0 m (pc + 3) ls rest)) : W p l e R s m args below meth c H locs cells slots Q (F0 m pc ls st0) := by
  obtain ⟨hPc, hDc, hFc⟩ := wPart hP hD hS hA isC hC hnC
  refine va_callv (va_runI F hM cw ⟨wr.blind, wr.at hPc hDc hFc hK hT hN hS⟩ rfl hn hsize hstk (lv_room hroom) hdg hf) hS (fun q _ h => hFc q h) hFc (fun u t H1 locs1 ht hvm hp hB hz hk hS1 => ?_)
  obtain ⟨hP1, hD1⟩ := hB
  rw [ht] at hP1
  obtain ⟨hP2, hD2⟩ := va_joinQ hP hD isC isR hC hR hnR hdis hk hFc hP1 hD1
  exact kk u hp H1 locs1 hz hP2 hD2 hS1
theorem cWIv0 (F : CallFix p m c cc nL s args Ts own) {post : S → Prop} (hM : Met l y ws rm (va_Pc (.ref b :: As) (wr G wc H.size)) (va_Qv post (Bw G.1 vwCl w1 (va_A wc H.size)) (va_A wc H.size)) mc ms (va_A wc H.size)) (cw : CallB R s args own index y bytes maxL none ws rm mc ms n ∧ y.name = "<init>" ∧ (Cond.instanceMethod y).before args s = true)
    (hn : As.length = n) (hsize : ls.size = nL) (hstk : st0 = As.reverse ++ .ref b :: rest) (hroom : (rest.map fun v => v.category).sum ≤ 8) (hdg : decode cc pc = .ok (.invokespecial index, 3)) (hf : cells + mc ≤ R.cells ∧ slots + ms ≤ R.slots)
    (hP : va_P G.1 vwCl (X) H) (hD : va_D A (X)) (hK : va_K G.1 vwCl (tyG G) s) (hT : STt G A s s.heap) (hN : Nst G s) (hS : va_S A s.heap H locs) (hA : ∀ q, s.heap.size ≤ q → A q) (isC isR : List Nat) (hC : isC.map (fun i => X[i]?) = wc.map some) (hR : isR.map (fun i => X[i]?) = wr0.map some) (hnC : va_nd isC = true) (hnR : va_nd isR = true) (hdis : ∀ i ∈ isR, i ∉ isC)
    (kk : ∀ (u : S), post u → ∀ (H1 : Heap) (locs1 : List Loc), H.size ≤ H1.size → va_P G.1 vwCl (wr0 ++ w1 u) H1 → va_D A (wr0 ++ w1 u) → va_S A s.heap H1 locs1 → W p l e R s m args below meth c H1 locs1 (cells + mc) (slots + ms) Q (F0 m (pc + 3) ls rest)) : W p l e R s m args below meth c H locs cells slots Q (F0 m pc ls st0) := by
  refine cWIv (pl := []) F hM cw hn hsize hstk hroom hdg hf (by rw [List.append_nil]; exact hP) (by rw [List.append_nil]; exact hD) hK hT hN hS hA isC isR hC hR hnC hnR hdis (fun u hp H1 locs1 hz hP1 hD1 hS1 => ?_)
  rw [List.append_nil] at hP1 hD1
  exact kk u hp H1 locs1 hz hP1 hD1 hS1
theorem cWINv {host : String} (F : CallFix p m c cc nL s args Ts own) {post : S → Prop} (hM : Met l y ws rm (va_Pc (.ref b :: As) (wr G wc H.size)) (va_Qv post (Bw G.1 vwCl w1 (va_A wc H.size)) (va_A wc H.size)) mc ms (va_A wc H.size)) (cw : va_CN R s args own index y host bytes maxL none ws rm mc ms n ∧ y.name = "<init>" ∧ (Cond.instanceMethod y).before args s = true)
    (hn : As.length = n) (hsize : ls.size = nL) (hstk : st0 = As.reverse ++ .ref b :: rest) (hroom : (rest.map fun v => v.category).sum ≤ 8) (hdg : decode cc pc = .ok (.invokespecial index, 3)) (hf : cells + mc ≤ R.cells ∧ slots + ms ≤ R.slots)
    (hP : va_P G.1 vwCl (X ++ pl) H) (hD : va_D A (X ++ pl)) (hK : va_K G.1 vwCl (tyG G) s) (hT : STt G A s s.heap) (hN : Nst G s) (hS : va_S A s.heap H locs) (hA : ∀ q, s.heap.size ≤ q → A q) (isC isR : List Nat) (hC : isC.map (fun i => X[i]?) = wc.map some) (hR : isR.map (fun i => X[i]?) = wr0.map some) (hnC : va_nd isC = true) (hnR : va_nd isR = true) (hdis : ∀ i ∈ isR, i ∉ isC)
    (kk : ∀ (u : S), post u → ∀ (H1 : Heap) (locs1 : List Loc), H.size ≤ H1.size → va_P G.1 vwCl ((wr0 ++ w1 u) ++ pl) H1 → va_D A ((wr0 ++ w1 u) ++ pl) → va_S A s.heap H1 locs1 → W p l e R s m args below meth c H1 locs1 (cells + mc) (slots + ms) Q (F0 m (pc + 3) ls rest)) : W p l e R s m args below meth c H locs cells slots Q (F0 m pc ls st0) := by
  obtain ⟨hPc, hDc, hFc⟩ := wPart hP hD hS hA isC hC hnC
  refine va_callv (va_runIN F hM cw ⟨wr.blind, wr.at hPc hDc hFc hK hT hN hS⟩ rfl hn hsize hstk (lv_room hroom) hdg hf) hS (fun q _ h => hFc q h) hFc (fun u t H1 locs1 ht hvm hp hB hz hk hS1 => ?_)
  obtain ⟨hP1, hD1⟩ := hB
  rw [ht] at hP1
  obtain ⟨hP2, hD2⟩ := va_joinQ hP hD isC isR hC hR hnR hdis hk hFc hP1 hD1
  exact kk u hp H1 locs1 hz hP2 hD2 hS1
theorem cWINv0 {host : String} (F : CallFix p m c cc nL s args Ts own) {post : S → Prop} (hM : Met l y ws rm (va_Pc (.ref b :: As) (wr G wc H.size)) (va_Qv post (Bw G.1 vwCl w1 (va_A wc H.size)) (va_A wc H.size)) mc ms (va_A wc H.size)) (cw : va_CN R s args own index y host bytes maxL none ws rm mc ms n ∧ y.name = "<init>" ∧ (Cond.instanceMethod y).before args s = true)
    (hn : As.length = n) (hsize : ls.size = nL) (hstk : st0 = As.reverse ++ .ref b :: rest) (hroom : (rest.map fun v => v.category).sum ≤ 8) (hdg : decode cc pc = .ok (.invokespecial index, 3)) (hf : cells + mc ≤ R.cells ∧ slots + ms ≤ R.slots)
    (hP : va_P G.1 vwCl (X) H) (hD : va_D A (X)) (hK : va_K G.1 vwCl (tyG G) s) (hT : STt G A s s.heap) (hN : Nst G s) (hS : va_S A s.heap H locs) (hA : ∀ q, s.heap.size ≤ q → A q) (isC isR : List Nat) (hC : isC.map (fun i => X[i]?) = wc.map some) (hR : isR.map (fun i => X[i]?) = wr0.map some) (hnC : va_nd isC = true) (hnR : va_nd isR = true) (hdis : ∀ i ∈ isR, i ∉ isC)
    (kk : ∀ (u : S), post u → ∀ (H1 : Heap) (locs1 : List Loc), H.size ≤ H1.size → va_P G.1 vwCl (wr0 ++ w1 u) H1 → va_D A (wr0 ++ w1 u) → va_S A s.heap H1 locs1 → W p l e R s m args below meth c H1 locs1 (cells + mc) (slots + ms) Q (F0 m (pc + 3) ls rest)) : W p l e R s m args below meth c H locs cells slots Q (F0 m pc ls st0) := by
  refine cWINv (pl := []) F hM cw hn hsize hstk hroom hdg hf (by rw [List.append_nil]; exact hP) (by rw [List.append_nil]; exact hD) hK hT hN hS hA isC isR hC hR hnC hnR hdis (fun u hp H1 locs1 hz hP1 hD1 hS1 => ?_)
  rw [List.append_nil] at hP1 hD1
  exact kk u hp H1 locs1 hz hP1 hD1 hS1
theorem cWVr {ad : S → Nat} (F : CallFix p m c cc nL s args Ts own) {post : S → Prop} (hM : Met l y ws rm (va_Pc (.ref b :: As) (wr G wc H.size)) (va_Qr post (Bwr G.1 vwCl w1 ad (va_A wc H.size)) (va_A wc H.size)) mc ms (va_A wc H.size)) (cw : CallW R s args own C index y bytes maxL ret ws rm mc ms n)
    (hn : As.length = n) (hsize : ls.size = nL) (hstk : st0 = As.reverse ++ .ref b :: rest) (hroom : (rest.map fun v => v.category).sum ≤ 8) (hdg : decode cc pc = .ok (.invokevirtual index, 3)) (hf : cells + mc ≤ R.cells ∧ slots + ms ≤ R.slots)
    (hP : va_P G.1 vwCl (X ++ pl) H) (hD : va_D A (X ++ pl)) (hK : va_K G.1 vwCl (tyG G) s) (hT : STt G A s s.heap) (hN : Nst G s) (hS : va_S A s.heap H locs) (hA : ∀ q, s.heap.size ≤ q → A q) (isC isR : List Nat) (hC : isC.map (fun i => X[i]?) = wc.map some) (hR : isR.map (fun i => X[i]?) = wr0.map some) (hnC : va_nd isC = true) (hnR : va_nd isR = true) (hdis : ∀ i ∈ isR, i ∉ isC) (hcl : vwCl[ci]? = some (C, T, N)) (h0 : wc[0]? = some (b, .inr (ci, fs)))
    (kk : ∀ (u : S), post u → ∀ (H1 : Heap) (locs1 : List Loc), H.size ≤ H1.size → va_P G.1 vwCl ((wr0 ++ w1 u) ++ pl) H1 → va_D A ((wr0 ++ w1 u) ++ pl) → va_S A s.heap H1 locs1 → W p l e R s m args below meth c H1 locs1 (cells + mc) (slots + ms) Q (F0 m (pc + 3) ls (.ref (ad u) :: rest))) : W p l e R s m args below meth c H locs cells slots Q (F0 m pc ls st0) := by
  obtain ⟨hPc, hDc, hFc⟩ := wPart hP hD hS hA isC hC hnC
  refine va_callr (va_runV F hM cw ⟨wr.blind, va_recv hK hPc hcl h0, wr.at hPc hDc hFc hK hT hN hS⟩ rfl hn hsize hstk (lv_room hroom) hdg hf) hS (fun q _ h => hFc q h) hFc (fun u ra t H1 locs1 ht hvm hp hB hz hk hS1 => ?_)
  obtain ⟨rfl, hP1, hD1⟩ := hB
  rw [ht] at hP1
  obtain ⟨hP2, hD2⟩ := va_joinQ hP hD isC isR hC hR hnR hdis hk hFc hP1 hD1
  exact kk u hp H1 locs1 hz hP2 hD2 hS1
theorem cWVr0 {ad : S → Nat} (F : CallFix p m c cc nL s args Ts own) {post : S → Prop} (hM : Met l y ws rm (va_Pc (.ref b :: As) (wr G wc H.size)) (va_Qr post (Bwr G.1 vwCl w1 ad (va_A wc H.size)) (va_A wc H.size)) mc ms (va_A wc H.size)) (cw : CallW R s args own C index y bytes maxL ret ws rm mc ms n)
    (hn : As.length = n) (hsize : ls.size = nL) (hstk : st0 = As.reverse ++ .ref b :: rest) (hroom : (rest.map fun v => v.category).sum ≤ 8) (hdg : decode cc pc = .ok (.invokevirtual index, 3)) (hf : cells + mc ≤ R.cells ∧ slots + ms ≤ R.slots)
    (hP : va_P G.1 vwCl (X) H) (hD : va_D A (X)) (hK : va_K G.1 vwCl (tyG G) s) (hT : STt G A s s.heap) (hN : Nst G s) (hS : va_S A s.heap H locs) (hA : ∀ q, s.heap.size ≤ q → A q) (isC isR : List Nat) (hC : isC.map (fun i => X[i]?) = wc.map some) (hR : isR.map (fun i => X[i]?) = wr0.map some) (hnC : va_nd isC = true) (hnR : va_nd isR = true) (hdis : ∀ i ∈ isR, i ∉ isC) (hcl : vwCl[ci]? = some (C, T, N)) (h0 : wc[0]? = some (b, .inr (ci, fs)))
    (kk : ∀ (u : S), post u → ∀ (H1 : Heap) (locs1 : List Loc), H.size ≤ H1.size → va_P G.1 vwCl (wr0 ++ w1 u) H1 → va_D A (wr0 ++ w1 u) → va_S A s.heap H1 locs1 → W p l e R s m args below meth c H1 locs1 (cells + mc) (slots + ms) Q (F0 m (pc + 3) ls (.ref (ad u) :: rest))) : W p l e R s m args below meth c H locs cells slots Q (F0 m pc ls st0) := by
  refine cWVr (pl := []) F hM cw hn hsize hstk hroom hdg hf (by rw [List.append_nil]; exact hP) (by rw [List.append_nil]; exact hD) hK hT hN hS hA isC isR hC hR hnC hnR hdis hcl h0 (fun u hp H1 locs1 hz hP1 hD1 hS1 => ?_)
  rw [List.append_nil] at hP1 hD1
  exact kk u hp H1 locs1 hz hP1 hD1 hS1
theorem cWSr {ad : S → Nat} (F : CallFix p m c cc nL s args Ts own) {post : S → Prop} (hM : Met l y ws rm (va_Pc As (wr G wc H.size)) (va_Qr post (Bwr G.1 vwCl w1 ad (va_A wc H.size)) (va_A wc H.size)) mc ms (va_A wc H.size)) (cw : CallB R s args own index y bytes maxL ret ws rm mc ms n ∧ (Cond.static y).before args s = true)
    (hn : As.length = n) (hsize : ls.size = nL) (hstk : st0 = As.reverse ++ rest) (hroom : (rest.map fun v => v.category).sum ≤ 8) (hdg : decode cc pc = .ok (.invokestatic index, 3)) (hf : cells + mc ≤ R.cells ∧ slots + ms ≤ R.slots)
    (hP : va_P G.1 vwCl (X ++ pl) H) (hD : va_D A (X ++ pl)) (hK : va_K G.1 vwCl (tyG G) s) (hT : STt G A s s.heap) (hN : Nst G s) (hS : va_S A s.heap H locs) (hA : ∀ q, s.heap.size ≤ q → A q) (isC isR : List Nat) (hC : isC.map (fun i => X[i]?) = wc.map some) (hR : isR.map (fun i => X[i]?) = wr0.map some) (hnC : va_nd isC = true) (hnR : va_nd isR = true) (hdis : ∀ i ∈ isR, i ∉ isC)
    (kk : ∀ (u : S), post u → ∀ (H1 : Heap) (locs1 : List Loc), H.size ≤ H1.size → va_P G.1 vwCl ((wr0 ++ w1 u) ++ pl) H1 → va_D A ((wr0 ++ w1 u) ++ pl) → va_S A s.heap H1 locs1 → W p l e R s m args below meth c H1 locs1 (cells + mc) (slots + ms) Q (F0 m (pc + 3) ls (.ref (ad u) :: rest))) : W p l e R s m args below meth c H locs cells slots Q (F0 m pc ls st0) := by
  obtain ⟨hPc, hDc, hFc⟩ := wPart hP hD hS hA isC hC hnC
  refine va_callr (va_runS F hM cw ⟨wr.blind, wr.at hPc hDc hFc hK hT hN hS⟩ rfl hn hsize hstk (lv_room hroom) hdg hf) hS (fun q _ h => hFc q h) hFc (fun u ra t H1 locs1 ht hvm hp hB hz hk hS1 => ?_)
  obtain ⟨rfl, hP1, hD1⟩ := hB
  rw [ht] at hP1
  obtain ⟨hP2, hD2⟩ := va_joinQ hP hD isC isR hC hR hnR hdis hk hFc hP1 hD1
  exact kk u hp H1 locs1 hz hP2 hD2 hS1
theorem cWSr0 {ad : S → Nat} (F : CallFix p m c cc nL s args Ts own) {post : S → Prop} (hM : Met l y ws rm (va_Pc As (wr G wc H.size)) (va_Qr post (Bwr G.1 vwCl w1 ad (va_A wc H.size)) (va_A wc H.size)) mc ms (va_A wc H.size)) (cw : CallB R s args own index y bytes maxL ret ws rm mc ms n ∧ (Cond.static y).before args s = true)
    (hn : As.length = n) (hsize : ls.size = nL) (hstk : st0 = As.reverse ++ rest) (hroom : (rest.map fun v => v.category).sum ≤ 8) (hdg : decode cc pc = .ok (.invokestatic index, 3)) (hf : cells + mc ≤ R.cells ∧ slots + ms ≤ R.slots)
    (hP : va_P G.1 vwCl (X) H) (hD : va_D A (X)) (hK : va_K G.1 vwCl (tyG G) s) (hT : STt G A s s.heap) (hN : Nst G s) (hS : va_S A s.heap H locs) (hA : ∀ q, s.heap.size ≤ q → A q) (isC isR : List Nat) (hC : isC.map (fun i => X[i]?) = wc.map some) (hR : isR.map (fun i => X[i]?) = wr0.map some) (hnC : va_nd isC = true) (hnR : va_nd isR = true) (hdis : ∀ i ∈ isR, i ∉ isC)
    (kk : ∀ (u : S), post u → ∀ (H1 : Heap) (locs1 : List Loc), H.size ≤ H1.size → va_P G.1 vwCl (wr0 ++ w1 u) H1 → va_D A (wr0 ++ w1 u) → va_S A s.heap H1 locs1 → W p l e R s m args below meth c H1 locs1 (cells + mc) (slots + ms) Q (F0 m (pc + 3) ls (.ref (ad u) :: rest))) : W p l e R s m args below meth c H locs cells slots Q (F0 m pc ls st0) := by
  refine cWSr (pl := []) F hM cw hn hsize hstk hroom hdg hf (by rw [List.append_nil]; exact hP) (by rw [List.append_nil]; exact hD) hK hT hN hS hA isC isR hC hR hnC hnR hdis (fun u hp H1 locs1 hz hP1 hD1 hS1 => ?_)
  rw [List.append_nil] at hP1 hD1
  exact kk u hp H1 locs1 hz hP1 hD1 hS1
end CALL
