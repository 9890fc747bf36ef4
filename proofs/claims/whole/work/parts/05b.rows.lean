/-! ===== more rows: new arrays, copies ===== -/
theorem vaRA_inj {U : State} {c1 c2 : ClassId} {ty : FieldType} (h : ∀ C, ty ≠ .object C) (h1 : va_RA U c1 ty) (h2 : va_RA U c2 ty) : c1 = c2 := by
  cases ty with
  | object C => exact absurd rfl (h C)
  | _ => exact Option.some.inj (h1.symm.trans h2)
theorem iI_N (n : Nat) : nI n = iI (n : Int) := (Int32.ofInt_eq_ofNat (n := n)).symm
theorem aL_0 : aL (fun _ => 0) = fun _ => (0 : Int64) := funext fun _ => lI_0
theorem aI_0 : aI (fun _ => 0) = fun _ => (0 : Int32) := funext fun _ => iI_0
section MW2
variable {p : Program} {l : Launch} {e : Env} {R : Room} {s : State} {m : MethodId} {args : Array Value} {below : List Frame} {meth : Method} {c : Code} {H : Heap} {locs : List Loc} {cells slots : Nat} {Q : State → Prop}
variable {cc : ByteArray} {pc : Nat} {ls : Array Slot} {rest : List Value} {G : Gx} {ws : va_W} {A : Nat → Prop} {H0 : Heap}
theorem w_newJ (hexec : p.tables.exec = Jvm.exec) (hb : c.code = cc) (harr : (Cond.arrayClass .long).before args s = true) (hK : va_K G.1 vwCl (tyG G) s) (hP : va_P G.1 vwCl ws H) (hD : va_D A ws) (hS : va_S A H0 H locs) (hA : ∀ q, H0.size ≤ q → A q)
    {z : Int} (N : Nat) (hz : z = (N : Int)) (hN : N ≤ 100000) (hcells : cells + 1 ≤ R.cells) (hslots : slots + N ≤ R.slots) (hdg : decode cc pc = .ok (.newarray .long, 2))
    (kk : ∀ (q : Nat) (H1 : Heap), va_P G.1 vwCl (ws ++ [(q, .inl (G.2.1 1, N, .inr (.inl (aL (fun _ => 0)))))]) H1 → va_D A (ws ++ [(q, .inl (G.2.1 1, N, .inr (.inl (aL (fun _ => 0)))))]) → va_S A H0 H1 locs → W p l e R s m args below meth c H1 locs (cells + 1) (slots + N) Q (F0 m (pc + 2) ls (.ref q :: rest))) : W p l e R s m args below meth c H locs cells slots Q (F0 m pc ls (.int (iI z) :: rest)) := by
  have hn : ¬ iI z < 0 := fun q => by rw [← iI_0, iI_lt ⟨by omega, by omega⟩ (by decide)] at q; omega
  refine va_newa (atype := .long) (ty := .long) (a0 := (N, .inr (.inl (aL (fun _ => 0))))) hexec hb harr rfl hK hP hD hS hA (N' := N) (fun cA => by rw [aL_0]; rfl) hn (iI_cl hz (by omega)) (by show N * 8 ≤ 536870912; omega) hcells hslots hdg (fun q cA H1 hK1 hP1 hD1 hS1 => ?_)
  have e1 : cA = G.2.1 1 := vaRA_inj (by intro C h; cases h) (hK1.2 4 (cA, .long) rfl).2 (hK.2 1 (G.2.1 1, .long) rfl).2
  subst e1
  exact kk q H1 hP1 hD1 hS1
theorem w_newI (hexec : p.tables.exec = Jvm.exec) (hb : c.code = cc) (harr : (Cond.arrayClass .int).before args s = true) (hK : va_K G.1 vwCl (tyG G) s) (hP : va_P G.1 vwCl ws H) (hD : va_D A ws) (hS : va_S A H0 H locs) (hA : ∀ q, H0.size ≤ q → A q)
    {z : Int} (N : Nat) (hz : z = (N : Int)) (hN : N ≤ 100000) (hcells : cells + 1 ≤ R.cells) (hslots : slots + N ≤ R.slots) (hdg : decode cc pc = .ok (.newarray .int, 2))
    (kk : ∀ (q : Nat) (H1 : Heap), va_P G.1 vwCl (ws ++ [(q, .inl (G.2.1 0, N, .inl (aI (fun _ => 0))))]) H1 → va_D A (ws ++ [(q, .inl (G.2.1 0, N, .inl (aI (fun _ => 0))))]) → va_S A H0 H1 locs → W p l e R s m args below meth c H1 locs (cells + 1) (slots + N) Q (F0 m (pc + 2) ls (.ref q :: rest))) : W p l e R s m args below meth c H locs cells slots Q (F0 m pc ls (.int (iI z) :: rest)) := by
  have hn : ¬ iI z < 0 := fun q => by rw [← iI_0, iI_lt ⟨by omega, by omega⟩ (by decide)] at q; omega
  refine va_newa (atype := .int) (ty := .int) (a0 := (N, .inl (aI (fun _ => 0)))) hexec hb harr rfl hK hP hD hS hA (N' := N) (fun cA => by rw [aI_0]; rfl) hn (iI_cl hz (by omega)) (by show N * 4 ≤ 536870912; omega) hcells hslots hdg (fun q cA H1 hK1 hP1 hD1 hS1 => ?_)
  have e1 : cA = G.2.1 0 := vaRA_inj (by intro C h; cases h) (hK1.2 4 (cA, .int) rfl).2 (hK.2 0 (G.2.1 0, .int) rfl).2
  subst e1
  exact kk q H1 hP1 hD1 hS1
theorem w_newZ (hexec : p.tables.exec = Jvm.exec) (hb : c.code = cc) (harr : (Cond.arrayClass .boolean).before args s = true) (hK : va_K G.1 vwCl (tyG G) s) (hP : va_P G.1 vwCl ws H) (hD : va_D A ws) (hS : va_S A H0 H locs) (hA : ∀ q, H0.size ≤ q → A q)
    {z : Int} (N : Nat) (hz : z = (N : Int)) (hN : N ≤ 100000) (hcells : cells + 1 ≤ R.cells) (hslots : slots + N ≤ R.slots) (hdg : decode cc pc = .ok (.newarray .boolean, 2))
    (kk : ∀ (q : Nat) (H1 : Heap), va_P G.1 vwCl (ws ++ [(q, .inl (G.2.1 2, N, .inl (aI (fun _ => 0))))]) H1 → va_D A (ws ++ [(q, .inl (G.2.1 2, N, .inl (aI (fun _ => 0))))]) → va_S A H0 H1 locs → W p l e R s m args below meth c H1 locs (cells + 1) (slots + N) Q (F0 m (pc + 2) ls (.ref q :: rest))) : W p l e R s m args below meth c H locs cells slots Q (F0 m pc ls (.int (iI z) :: rest)) := by
  have hn : ¬ iI z < 0 := fun q => by rw [← iI_0, iI_lt ⟨by omega, by omega⟩ (by decide)] at q; omega
  refine va_newa (atype := .boolean) (ty := .boolean) (a0 := (N, .inl (aI (fun _ => 0)))) hexec hb harr rfl hK hP hD hS hA (N' := N) (fun cA => by rw [aI_0]; rfl) hn (iI_cl hz (by omega)) (by show N * 1 ≤ 536870912; omega) hcells hslots hdg (fun q cA H1 hK1 hP1 hD1 hS1 => ?_)
  have e1 : cA = G.2.1 2 := vaRA_inj (by intro C h; cases h) (hK1.2 4 (cA, .boolean) rfl).2 (hK.2 2 (G.2.1 2, .boolean) rfl).2
  subst e1
  exact kk q H1 hP1 hD1 hS1
theorem aL_cpy (F1 F2 : Nat → Int) (a b n : Nat) : va_cpy (aL F1) (aL F2) a b n = aL (va_cpy F1 F2 a b n) := by
  funext j
  show (if b ≤ j ∧ j < b + n then lI (F1 (a + (j - b))) else lI (F2 j)) = lI (if b ≤ j ∧ j < b + n then F1 (a + (j - b)) else F2 j)
  split <;> rfl
theorem aI_cpy (F1 F2 : Nat → Int) (a b n : Nat) : va_cpy (aI F1) (aI F2) a b n = aI (va_cpy F1 F2 a b n) := by
  funext j
  show (if b ≤ j ∧ j < b + n then iI (F1 (a + (j - b))) else iI (F2 j)) = iI (if b ≤ j ∧ j < b + n then F1 (a + (j - b)) else F2 j)
  split <;> rfl
theorem w_copyl (hexec : p.tables.exec = Jvm.exec) (hb : c.code = cc) (hml : c.maxLocals = ls.size) {own : String} {index : Nat} (hown : s.vm.findClass own = some m.cls) (hlink : (Cond.methodLink own index arraycopyName).before args s = true) (hnat : (Cond.native arraycopyName).before args s = true) (hstat : (Cond.static arraycopyName).before args s = true) (hini : (Cond.initialized "java/lang/System").before args s = true)
    (hK : va_K G.1 vwCl (tyG G) s) (hP : va_P G.1 vwCl ws H) (hD : va_D A ws) (hS : va_S A H0 H locs) (q0 q1 : Nat) {a0 a : Nat} {n0 n1 : Nat} {F1 F2 : Nat → Int} (ha0 : ws[q0]? = some (a0, .inl (G.2.1 1, n0, .inr (.inl (aL F1))))) (ha1 : ws[q1]? = some (a, .inl (G.2.1 1, n1, .inr (.inl (aL F2)))))
    {z : Int} (N : Nat) (hz : z = (N : Int)) (hN0 : N ≤ n0) (hN1 : N ≤ n1) (hN : N ≤ 100000)
    (hframes : 1 ≤ R.frames) (hlocals : (rest.map fun v => v.category).sum + (nativeFrameWords "java/lang/System" "arraycopy" 5 + 11) ≤ R.locals) (hdg : decode cc pc = .ok (.invokestatic index, 3))
    (kk : ∀ (H1 : Heap) (locs1 : List Loc), va_P G.1 vwCl (ws.set q1 (a, .inl (G.2.1 1, n1, .inr (.inl (aL (va_cpy F1 F2 0 0 N)))))) H1 → va_D A (ws.set q1 (a, .inl (G.2.1 1, n1, .inr (.inl (aL (va_cpy F1 F2 0 0 N)))))) → va_S A H0 H1 locs1 → W p l e R s m args below meth c H1 locs1 cells slots Q (F0 m (pc + 3) ls rest)) : W p l e R s m args below meth c H locs cells slots Q (F0 m pc ls (.int (iI z) :: .int (iI 0) :: .ref a :: .int (iI 0) :: .ref a0 :: rest)) := by
  have hn : ¬ iI z < 0 := fun q => by rw [← iI_0, iI_lt ⟨by omega, by omega⟩ (by decide)] at q; omega
  have e0 : (iI 0).toNatClampNeg = 0 := by decide
  have e1 : (iI z).toNatClampNeg = N := iI_cl hz (by omega)
  refine va_copyl (ty := .long) hexec hb hml hown hlink hnat hstat hini hK hP hD hS q0 q1 1 1 ha0 ha1 rfl rfl rfl (by decide) (by decide) hn (by rw [e0, e1]; omega) (by rw [e0, e1]; omega) (fun i _ => rfl) hframes hlocals hdg (fun H1 locs1 hP1 hD1 hS1 => ?_)
  rw [e0, e1, aL_cpy] at hP1 hD1
  exact kk H1 locs1 hP1 hD1 hS1
theorem w_copyi (hexec : p.tables.exec = Jvm.exec) (hb : c.code = cc) (hml : c.maxLocals = ls.size) {own : String} {index : Nat} (hown : s.vm.findClass own = some m.cls) (hlink : (Cond.methodLink own index arraycopyName).before args s = true) (hnat : (Cond.native arraycopyName).before args s = true) (hstat : (Cond.static arraycopyName).before args s = true) (hini : (Cond.initialized "java/lang/System").before args s = true)
    (hK : va_K G.1 vwCl (tyG G) s) (hP : va_P G.1 vwCl ws H) (hD : va_D A ws) (hS : va_S A H0 H locs) (q0 q1 : Nat) {a0 a : Nat} {n0 n1 : Nat} {F1 F2 : Nat → Int} (ha0 : ws[q0]? = some (a0, .inl (G.2.1 0, n0, .inl (aI F1)))) (ha1 : ws[q1]? = some (a, .inl (G.2.1 0, n1, .inl (aI F2))))
    {z : Int} (N : Nat) (hz : z = (N : Int)) (hN0 : N ≤ n0) (hN1 : N ≤ n1) (hN : N ≤ 100000)
    (hframes : 1 ≤ R.frames) (hlocals : (rest.map fun v => v.category).sum + (nativeFrameWords "java/lang/System" "arraycopy" 5 + 11) ≤ R.locals) (hdg : decode cc pc = .ok (.invokestatic index, 3))
    (kk : ∀ (H1 : Heap) (locs1 : List Loc), va_P G.1 vwCl (ws.set q1 (a, .inl (G.2.1 0, n1, .inl (aI (va_cpy F1 F2 0 0 N))))) H1 → va_D A (ws.set q1 (a, .inl (G.2.1 0, n1, .inl (aI (va_cpy F1 F2 0 0 N))))) → va_S A H0 H1 locs1 → W p l e R s m args below meth c H1 locs1 cells slots Q (F0 m (pc + 3) ls rest)) : W p l e R s m args below meth c H locs cells slots Q (F0 m pc ls (.int (iI z) :: .int (iI 0) :: .ref a :: .int (iI 0) :: .ref a0 :: rest)) := by
  have hn : ¬ iI z < 0 := fun q => by rw [← iI_0, iI_lt ⟨by omega, by omega⟩ (by decide)] at q; omega
  have e0 : (iI 0).toNatClampNeg = 0 := by decide
  have e1 : (iI z).toNatClampNeg = N := iI_cl hz (by omega)
  refine va_copyi (ty := .int) hexec hb hml hown hlink hnat hstat hini hK hP hD hS q0 q1 0 0 ha0 ha1 rfl rfl rfl (by decide) (by decide) hn (by rw [e0, e1]; omega) (by rw [e0, e1]; omega) (fun i _ => rfl) hframes hlocals hdg (fun H1 locs1 hP1 hD1 hS1 => ?_)
  rw [e0, e1, aI_cpy] at hP1 hD1
  exact kk H1 locs1 hP1 hD1 hS1
theorem w_laldR (hexec : p.tables.exec = Jvm.exec) (hb : c.code = cc) {D : va_G} {cl : List vw_C} {tys : List (ClassId × FieldType)} {a : Nat} (hK : va_K D cl tys s) (hP : va_P D cl ws H) (q0 t0 : Nat) {cA : ClassId} {n : Nat} {F : Nat → Int64} (ha : ws[q0]? = some (a, .inl (cA, n, .inr (.inl F)))) (ht : tys[t0]? = some (cA, .long)) {z : Int} (j : Nat) (hz : z = (j : Int)) (hj : j < n) (hn : n ≤ 2147483648) (hdg : decode cc pc = .ok (.laload, 1)) (kk : W p l e R s m args below meth c H locs cells slots Q (F0 m (pc + 1) ls (.long (F j) :: rest))) : W p l e R s m args below meth c H locs cells slots Q (F0 m pc ls (.int (iI z) :: .ref a :: rest)) := va_lald hexec hb hK hP q0 t0 ha ht (iI_in hz hj hn) hdg (by rw [iI_cl hz (by omega)]; exact kk)
theorem w_lastR (hexec : p.tables.exec = Jvm.exec) (hb : c.code = cc) {D : va_G} {cl : List vw_C} {tys : List (ClassId × FieldType)} {a : Nat} (hK : va_K D cl tys s) (hP : va_P D cl ws H) (hD : va_D A ws) (hS : va_S A H0 H locs) (q0 t0 : Nat) {cA : ClassId} {n : Nat} {F : Nat → Int64} (ha : ws[q0]? = some (a, .inl (cA, n, .inr (.inl F)))) (ht : tys[t0]? = some (cA, .long)) {z : Int} {v : Int64} (j : Nat) (hz : z = (j : Int)) (hj : j < n) (hn : n ≤ 2147483648) (hdg : decode cc pc = .ok (.lastore, 1)) (kk : ∀ (H1 : Heap) (locs1 : List Loc), va_P D cl (ws.set q0 (a, .inl (cA, n, .inr (.inl (vp_updL F j v))))) H1 → va_D A (ws.set q0 (a, .inl (cA, n, .inr (.inl (vp_updL F j v))))) → va_S A H0 H1 locs1 → W p l e R s m args below meth c H1 locs1 cells slots Q (F0 m (pc + 1) ls rest)) : W p l e R s m args below meth c H locs cells slots Q (F0 m pc ls (.long v :: .int (iI z) :: .ref a :: rest)) := va_last hexec hb hK hP hD hS q0 t0 ha ht (iI_in hz hj hn) hdg (by rw [iI_cl hz (by omega)]; exact kk)
theorem w_ti (hexec : p.tables.exec = Jvm.exec) (hb : c.code = cc) {t N : Nat} {f : Nat → Int} (hT : va_T .int t N (fun j => .int (iI (f j))) A s s.heap) (hS : va_S A s.heap H locs) {z : Int} (j : Nat) (hz : z = (j : Int)) (hj : j < N) (hn : N ≤ 2147483648) (hdg : decode cc pc = .ok (.iaload, 1)) (kk : W p l e R s m args below meth c H locs cells slots Q (F0 m (pc + 1) ls (.int (iI (f j)) :: rest))) : W p l e R s m args below meth c H locs cells slots Q (F0 m pc ls (.int (iI z) :: .ref t :: rest)) := va_ti hexec hb hT hS (iI_in hz hj hn) (by rw [iI_cl hz (by omega)]) hdg kk
end MW2
