/-! contracts that carry facts X of the state: statics, constant strings -/
def xok (X : (Nat → Prop) → State → Heap → Prop) : Prop := (∀ (A : Nat → Prop) (u U : State) (H : Heap), U.vm = u.vm → X A u H → X A U H) ∧ (∀ (A : Nat → Prop) (s U : State) (H : Heap), s.WarmedH U.vm → X A s H → X A U H) ∧ (∀ (A : Nat → Prop) (U : State) (H H1 : Heap), (∀ a : Nat, a < H.size → ¬ A a → H1[a]? = H[a]?) → X A U H → X A U H1) ∧ (∀ (A B : Nat → Prop) (U : State) (H : Heap), (∀ q, B q → A q) → X A U H → X B U H)
def kPcX (dC : Nat → ClassId) (dI : Nat → Nat → Nat) (kc : Nat → ClassId) (X : (Nat → Prop) → State → Heap → Prop) (av : List Value) (ws : va_W) (sz : Nat) : Array Value → State → Prop := va_Pc av (fun U => U.heap.size = sz ∧ va_P (dC, dI) vwCl ws U.heap ∧ va_K (dC, dI) vwCl (tyA kc) U ∧ va_D (fun _ => True) ws ∧ X (va_A ws sz) U U.heap)
theorem kPcX_fb {dC : Nat → ClassId} {dI : Nat → Nat → Nat} {kc : Nat → ClassId} {X : (Nat → Prop) → State → Heap → Prop} {av : List Value} {ws : va_W} {sz : Nat} (hX : xok X) : FrameBlind (kPcX dC dI kc X av ws sz) := fun a U g mk q => by
  obtain ⟨q0, q1, qP, qK, qD, qX⟩ := q
  exact ⟨q0, q1, qP, va_K.moved (u := U) (U := U.calling g mk a) (Vm.Alike.refl U.vm) qK, qD, hX.1 _ U (U.calling g mk a) _ rfl qX⟩
theorem kMetX {l : Launch} {y : MethodName} {ws ws' : List Cond} {rm : Room} {dC : Nat → ClassId} {dI : Nat → Nat → Nat} {kc : Nat → ClassId} {X : (Nat → Prop) → State → Heap → Prop} {av : List Value} {W0 : va_W} {sz : Nat} {Qf : (Nat → Prop) → Array Value → State → Outcome → State → Prop} {cc : ByteArray} {maxL : Nat} {ret : Option FieldType} {mc ms : Nat}
    (hy : plainName y.cls = true) (hw : ws = Cond.code y cc maxL ret :: ws') (hlen : (lg_sl av).length ≤ maxL)
    (body : ∀ (p : Program) (e : Env) (s : State) (m : MethodId) (below : List Frame) (meth : Method) (c : Code) (A : Nat → Prop) (ls : Array Slot), p.tables.exec = Jvm.exec → c.code = cc → meth.sig.returnType = ret → c.maxLocals = maxL → (∀ w ∈ ws, w.before av.toArray s = true) → s.vm.findClass y.cls = some m.cls → meth.locks = false → meth.name = y.name → s.heap.size = sz → (∀ q : Nat, s.heap.size ≤ q → A q) → va_P (dC, dI) vwCl W0 s.heap → va_K (dC, dI) vwCl (tyA kc) s → va_D A W0 → X A s s.heap → lv_has ls maxL (lv_args 0 av) →
      W p l e (headSpec ws rm).room s m av.toArray below meth c s.heap [] 0 0 (MQ below (Qf A) av.toArray s mc ms A) (F0 m 0 ls [])) :
    Met l y ws rm (kPcX dC dI kc X av W0 sz) (Qf (va_A W0 sz)) mc ms (va_A W0 sz) := by
  refine Met.ofW (cc := cc) (maxL := maxL) (ret := ret) hy hw ?_
  intro p e s m args below meth c s₁ B hml hv
  obtain ⟨rfl, hsz, hP, hK, hD0, hX⟩ := hv
  have hts := atoms_spec (ws := ws) B.pre
  have hD := hD0.self (sz := s.heap.size)
  rw [lg_entry_eq]
  subst hsz
  exact body p e s m below meth c (va_A W0 s.heap.size) _ B.exec B.bytes B.returns hml hts (findClass_of_methodNamed B.named) B.notSynchronized (name_of_methodNamed B.named B.method).1 rfl (fun q h => Or.inr h) hP hK hD hX (lv_entry av hlen)
section KBASE3
variable {p : Program} {l : Launch} {e : Env} {R : Room} {s : State} {m : MethodId} {args : Array Value} {below : List Frame} {meth : Method} {c : Code} {H : Heap} {locs : List Loc} {cells slots : Nat} {Q : State → Prop}
variable {dC : Nat → ClassId} {dI : Nat → Nat → Nat} {kc : Nat → ClassId} {A : Nat → Prop} {cc : ByteArray} {pc : Nat} {ls : Array Slot} {rest : List Value}
theorem nar_c {x : Int32} (h : vp_nar .char x = x) : narrow .char (.int x) = .int x := by
  have e : narrow .char (.int x) = .int (vp_nar .char x) := rfl
  rw [e, h]
theorem k_nret {r : Int32} {ty : FieldType} {W1 : va_W} (hx : p.tables.exec = Jvm.exec) (hb : c.code = cc) (hr : meth.sig.returnType = some ty) (hlocks : meth.locks = false) (hn : narrow ty (.int r) = .int r) (hP : va_P (dC, dI) vwCl W1 H) (hS : va_S A s.heap H locs) (hdg : decode cc pc = .ok (.ireturn, 1)) :
    W p l e R s m args below meth c H locs cells slots (MQ below (kQi dC dI r W1 A) args s cells slots A) (F0 m pc ls [.int r]) :=
  W.zret hx hb hr hn (fun t ht hW => ⟨⟨r, (), rfl, rfl, by show va_P _ _ _ t.heap; rw [ht]; exact hP⟩, hS.F ht⟩) hS.2.2 hdg hlocks
theorem k_callXVi {l : Launch} {y : MethodName} {bytes : ByteArray} {maxL nL n index : Nat} {ret : Option FieldType} {wsy Ts : List Cond} {rm : Room} {own : String} {As st0 : List Value} {lv : List (Nat × Value)} {ws wc w1 ws' : va_W} {X : (Nat → Prop) → State → Heap → Prop} {C : String} {b : Nat} {r : Int32} (hx : p.tables.exec = Jvm.exec) (hb : c.code = cc) (hml : c.maxLocals = nL) (hown : s.vm.findClass own = some m.cls) (hts : ∀ w ∈ Ts, w.before args s = true)
    (hK : va_K (dC, dI) vwCl (tyA kc) s) (hP : va_P (dC, dI) vwCl ws H) (hD : va_D A ws) (hS : va_S A s.heap H locs) (hA : ∀ q : Nat, s.heap.size ≤ q → A q) (hok : xok X) (hX : X A s s.heap)
    (hM : ∀ sz : Nat, Met l y wsy rm (kPcX dC dI kc X (.ref b :: As) wc sz) (kQi dC dI r w1 (va_A wc sz)) 0 0 (va_A wc sz)) (cw : CallW R s args own C index y bytes maxL ret wsy rm 0 0 n)
    (isC : List Nat) (hC : isC.map (fun i => ws[i]?) = wc.map some) (hnd : va_nd isC = true) (hrec : ∃ cell : Cell, H[b]? = some cell ∧ cell.vm.isStatics = false ∧ s.vm.findClass C = some cell.cls) (hn : As.length = n) (hl : lv_has ls nL lv) (hst0 : st0 = As.reverse ++ .ref b :: rest) (hst : (rest.map fun v => v.category).sum ≤ 8) (hdg : decode cc pc = .ok (.invokevirtual index, 3)) (hf : cells ≤ R.cells ∧ slots ≤ R.slots)
    (hlen : isC.length = w1.length) (hw' : repl ws isC w1 = ws') (hadr : ws'.map Prod.fst = ws.map Prod.fst)
    (kk : ∀ (H1 : Heap) (locs1 : List Loc), va_P (dC, dI) vwCl ws' H1 → va_D A ws' → va_S A s.heap H1 locs1 → W p l e R s m args below meth c H1 locs1 cells slots Q (F0 m (pc + 3) ls (.int r :: rest))) : W p l e R s m args below meth c H locs cells slots Q (F0 m pc ls st0) := by
  have hPc := k_sub hP isC hC
  have hDc := hD.sub isC hnd hC
  have hFc := va_free (wc := wc) hD hS hA isC hC
  refine va_calli (va_runV (As := As) (rest := rest) ⟨hx, hb, hml, hown, hts⟩ (hM H.size) cw ⟨kPcX_fb hok, hrec, fun U hU hW => ⟨rfl, by rw [hU], by rw [hU]; exact hPc, va_K.moved hW.alike hK, hDc.weaken (fun _ _ _ _ => trivial), by rw [hU]; exact hok.2.2.2 _ _ _ _ hFc (hok.2.1 _ s _ _ hW (hok.2.2.1 _ _ _ _ (fun a h1 h2 => hS.2.1 a h1 h2) hX))⟩⟩ rfl hn hl.1 hst0 (lv_room hst) hdg hf) hS (fun q _ h => hFc q h) hFc (fun r' u t H1 locs1 ht hvm hw hB hz1 hk1 hS1 => ?_)
  subst hw
  have hP1 : va_P (dC, dI) vwCl w1 H1 := by rw [← ht]; exact hB
  obtain ⟨hP', hD'⟩ := k_join hP hD isC hC hk1 hP1 hlen hw' hadr
  exact kk H1 locs1 hP' hD' hS1
theorem k_callXVl {l : Launch} {y : MethodName} {bytes : ByteArray} {maxL nL n index : Nat} {ret : Option FieldType} {wsy Ts : List Cond} {rm : Room} {own : String} {As st0 : List Value} {lv : List (Nat × Value)} {ws wc w1 ws' : va_W} {X : (Nat → Prop) → State → Heap → Prop} {C : String} {b : Nat} {r : Int64} (hx : p.tables.exec = Jvm.exec) (hb : c.code = cc) (hml : c.maxLocals = nL) (hown : s.vm.findClass own = some m.cls) (hts : ∀ w ∈ Ts, w.before args s = true)
    (hK : va_K (dC, dI) vwCl (tyA kc) s) (hP : va_P (dC, dI) vwCl ws H) (hD : va_D A ws) (hS : va_S A s.heap H locs) (hA : ∀ q : Nat, s.heap.size ≤ q → A q) (hok : xok X) (hX : X A s s.heap)
    (hM : ∀ sz : Nat, Met l y wsy rm (kPcX dC dI kc X (.ref b :: As) wc sz) (kQl dC dI r w1 (va_A wc sz)) 0 0 (va_A wc sz)) (cw : CallW R s args own C index y bytes maxL ret wsy rm 0 0 n)
    (isC : List Nat) (hC : isC.map (fun i => ws[i]?) = wc.map some) (hnd : va_nd isC = true) (hrec : ∃ cell : Cell, H[b]? = some cell ∧ cell.vm.isStatics = false ∧ s.vm.findClass C = some cell.cls) (hn : As.length = n) (hl : lv_has ls nL lv) (hst0 : st0 = As.reverse ++ .ref b :: rest) (hst : (rest.map fun v => v.category).sum ≤ 8) (hdg : decode cc pc = .ok (.invokevirtual index, 3)) (hf : cells ≤ R.cells ∧ slots ≤ R.slots)
    (hlen : isC.length = w1.length) (hw' : repl ws isC w1 = ws') (hadr : ws'.map Prod.fst = ws.map Prod.fst)
    (kk : ∀ (H1 : Heap) (locs1 : List Loc), va_P (dC, dI) vwCl ws' H1 → va_D A ws' → va_S A s.heap H1 locs1 → W p l e R s m args below meth c H1 locs1 cells slots Q (F0 m (pc + 3) ls (.long r :: rest))) : W p l e R s m args below meth c H locs cells slots Q (F0 m pc ls st0) := by
  have hPc := k_sub hP isC hC
  have hDc := hD.sub isC hnd hC
  have hFc := va_free (wc := wc) hD hS hA isC hC
  refine va_calll (va_runV (As := As) (rest := rest) ⟨hx, hb, hml, hown, hts⟩ (hM H.size) cw ⟨kPcX_fb hok, hrec, fun U hU hW => ⟨rfl, by rw [hU], by rw [hU]; exact hPc, va_K.moved hW.alike hK, hDc.weaken (fun _ _ _ _ => trivial), by rw [hU]; exact hok.2.2.2 _ _ _ _ hFc (hok.2.1 _ s _ _ hW (hok.2.2.1 _ _ _ _ (fun a h1 h2 => hS.2.1 a h1 h2) hX))⟩⟩ rfl hn hl.1 hst0 (lv_room hst) hdg hf) hS (fun q _ h => hFc q h) hFc (fun r' u t H1 locs1 ht hvm hw hB hz1 hk1 hS1 => ?_)
  subst hw
  have hP1 : va_P (dC, dI) vwCl w1 H1 := by rw [← ht]; exact hB
  obtain ⟨hP', hD'⟩ := k_join hP hD isC hC hk1 hP1 hlen hw' hadr
  exact kk H1 locs1 hP' hD' hS1
theorem k_callXVv {l : Launch} {y : MethodName} {bytes : ByteArray} {maxL nL n index : Nat} {ret : Option FieldType} {wsy Ts : List Cond} {rm : Room} {own : String} {As st0 : List Value} {lv : List (Nat × Value)} {ws wc w1 ws' : va_W} {X : (Nat → Prop) → State → Heap → Prop} {C : String} {b : Nat} (hx : p.tables.exec = Jvm.exec) (hb : c.code = cc) (hml : c.maxLocals = nL) (hown : s.vm.findClass own = some m.cls) (hts : ∀ w ∈ Ts, w.before args s = true)
    (hK : va_K (dC, dI) vwCl (tyA kc) s) (hP : va_P (dC, dI) vwCl ws H) (hD : va_D A ws) (hS : va_S A s.heap H locs) (hA : ∀ q : Nat, s.heap.size ≤ q → A q) (hok : xok X) (hX : X A s s.heap)
    (hM : ∀ sz : Nat, Met l y wsy rm (kPcX dC dI kc X (.ref b :: As) wc sz) (kQv dC dI w1 (va_A wc sz)) 0 0 (va_A wc sz)) (cw : CallW R s args own C index y bytes maxL ret wsy rm 0 0 n)
    (isC : List Nat) (hC : isC.map (fun i => ws[i]?) = wc.map some) (hnd : va_nd isC = true) (hrec : ∃ cell : Cell, H[b]? = some cell ∧ cell.vm.isStatics = false ∧ s.vm.findClass C = some cell.cls) (hn : As.length = n) (hl : lv_has ls nL lv) (hst0 : st0 = As.reverse ++ .ref b :: rest) (hst : (rest.map fun v => v.category).sum ≤ 8) (hdg : decode cc pc = .ok (.invokevirtual index, 3)) (hf : cells ≤ R.cells ∧ slots ≤ R.slots)
    (hlen : isC.length = w1.length) (hw' : repl ws isC w1 = ws') (hadr : ws'.map Prod.fst = ws.map Prod.fst)
    (kk : ∀ (H1 : Heap) (locs1 : List Loc), va_P (dC, dI) vwCl ws' H1 → va_D A ws' → va_S A s.heap H1 locs1 → W p l e R s m args below meth c H1 locs1 cells slots Q (F0 m (pc + 3) ls rest)) : W p l e R s m args below meth c H locs cells slots Q (F0 m pc ls st0) := by
  have hPc := k_sub hP isC hC
  have hDc := hD.sub isC hnd hC
  have hFc := va_free (wc := wc) hD hS hA isC hC
  refine va_callv (va_runV (As := As) (rest := rest) ⟨hx, hb, hml, hown, hts⟩ (hM H.size) cw ⟨kPcX_fb hok, hrec, fun U hU hW => ⟨rfl, by rw [hU], by rw [hU]; exact hPc, va_K.moved hW.alike hK, hDc.weaken (fun _ _ _ _ => trivial), by rw [hU]; exact hok.2.2.2 _ _ _ _ hFc (hok.2.1 _ s _ _ hW (hok.2.2.1 _ _ _ _ (fun a h1 h2 => hS.2.1 a h1 h2) hX))⟩⟩ rfl hn hl.1 hst0 (lv_room hst) hdg hf) hS (fun q _ h => hFc q h) hFc (fun u t H1 locs1 ht hvm hw hB hz1 hk1 hS1 => ?_)
  have hP1 : va_P (dC, dI) vwCl w1 H1 := by rw [← ht]; exact hB
  obtain ⟨hP', hD'⟩ := k_join hP hD isC hC hk1 hP1 hlen hw' hadr
  exact kk H1 locs1 hP' hD' hS1
theorem k_callXVr {l : Launch} {y : MethodName} {bytes : ByteArray} {maxL nL n index : Nat} {ret : Option FieldType} {wsy Ts : List Cond} {rm : Room} {own : String} {As st0 : List Value} {lv : List (Nat × Value)} {ws wc w1 ws' : va_W} {X : (Nat → Prop) → State → Heap → Prop} {C : String} {b : Nat} {r : Nat} (hx : p.tables.exec = Jvm.exec) (hb : c.code = cc) (hml : c.maxLocals = nL) (hown : s.vm.findClass own = some m.cls) (hts : ∀ w ∈ Ts, w.before args s = true)
    (hK : va_K (dC, dI) vwCl (tyA kc) s) (hP : va_P (dC, dI) vwCl ws H) (hD : va_D A ws) (hS : va_S A s.heap H locs) (hA : ∀ q : Nat, s.heap.size ≤ q → A q) (hok : xok X) (hX : X A s s.heap)
    (hM : ∀ sz : Nat, Met l y wsy rm (kPcX dC dI kc X (.ref b :: As) wc sz) (kQr dC dI r w1 (va_A wc sz)) 0 0 (va_A wc sz)) (cw : CallW R s args own C index y bytes maxL ret wsy rm 0 0 n)
    (isC : List Nat) (hC : isC.map (fun i => ws[i]?) = wc.map some) (hnd : va_nd isC = true) (hrec : ∃ cell : Cell, H[b]? = some cell ∧ cell.vm.isStatics = false ∧ s.vm.findClass C = some cell.cls) (hn : As.length = n) (hl : lv_has ls nL lv) (hst0 : st0 = As.reverse ++ .ref b :: rest) (hst : (rest.map fun v => v.category).sum ≤ 8) (hdg : decode cc pc = .ok (.invokevirtual index, 3)) (hf : cells ≤ R.cells ∧ slots ≤ R.slots)
    (hlen : isC.length = w1.length) (hw' : repl ws isC w1 = ws') (hadr : ws'.map Prod.fst = ws.map Prod.fst)
    (kk : ∀ (H1 : Heap) (locs1 : List Loc), va_P (dC, dI) vwCl ws' H1 → va_D A ws' → va_S A s.heap H1 locs1 → W p l e R s m args below meth c H1 locs1 cells slots Q (F0 m (pc + 3) ls (.ref r :: rest))) : W p l e R s m args below meth c H locs cells slots Q (F0 m pc ls st0) := by
  have hPc := k_sub hP isC hC
  have hDc := hD.sub isC hnd hC
  have hFc := va_free (wc := wc) hD hS hA isC hC
  refine va_callr (va_runV (As := As) (rest := rest) ⟨hx, hb, hml, hown, hts⟩ (hM H.size) cw ⟨kPcX_fb hok, hrec, fun U hU hW => ⟨rfl, by rw [hU], by rw [hU]; exact hPc, va_K.moved hW.alike hK, hDc.weaken (fun _ _ _ _ => trivial), by rw [hU]; exact hok.2.2.2 _ _ _ _ hFc (hok.2.1 _ s _ _ hW (hok.2.2.1 _ _ _ _ (fun a h1 h2 => hS.2.1 a h1 h2) hX))⟩⟩ rfl hn hl.1 hst0 (lv_room hst) hdg hf) hS (fun q _ h => hFc q h) hFc (fun u r' t H1 locs1 ht hvm hw hB hz1 hk1 hS1 => ?_)
  obtain ⟨hw2, hB⟩ := hB
  subst hw2
  have hP1 : va_P (dC, dI) vwCl w1 H1 := by rw [← ht]; exact hB
  obtain ⟨hP', hD'⟩ := k_join hP hD isC hC hk1 hP1 hlen hw' hadr
  exact kk H1 locs1 hP' hD' hS1
theorem k_callXSi {l : Launch} {y : MethodName} {bytes : ByteArray} {maxL nL n index : Nat} {ret : Option FieldType} {wsy Ts : List Cond} {rm : Room} {own : String} {As st0 : List Value} {lv : List (Nat × Value)} {ws wc w1 ws' : va_W} {X : (Nat → Prop) → State → Heap → Prop} {r : Int32} (hx : p.tables.exec = Jvm.exec) (hb : c.code = cc) (hml : c.maxLocals = nL) (hown : s.vm.findClass own = some m.cls) (hts : ∀ w ∈ Ts, w.before args s = true)
    (hK : va_K (dC, dI) vwCl (tyA kc) s) (hP : va_P (dC, dI) vwCl ws H) (hD : va_D A ws) (hS : va_S A s.heap H locs) (hA : ∀ q : Nat, s.heap.size ≤ q → A q) (hok : xok X) (hX : X A s s.heap)
    (hM : ∀ sz : Nat, Met l y wsy rm (kPcX dC dI kc X As wc sz) (kQi dC dI r w1 (va_A wc sz)) 0 0 (va_A wc sz)) (cw : CallB R s args own index y bytes maxL ret wsy rm 0 0 n ∧ (Cond.static y).before args s = true)
    (isC : List Nat) (hC : isC.map (fun i => ws[i]?) = wc.map some) (hnd : va_nd isC = true) (hn : As.length = n) (hl : lv_has ls nL lv) (hst0 : st0 = As.reverse ++ rest) (hst : (rest.map fun v => v.category).sum ≤ 8) (hdg : decode cc pc = .ok (.invokestatic index, 3)) (hf : cells ≤ R.cells ∧ slots ≤ R.slots)
    (hlen : isC.length = w1.length) (hw' : repl ws isC w1 = ws') (hadr : ws'.map Prod.fst = ws.map Prod.fst)
    (kk : ∀ (H1 : Heap) (locs1 : List Loc), va_P (dC, dI) vwCl ws' H1 → va_D A ws' → va_S A s.heap H1 locs1 → W p l e R s m args below meth c H1 locs1 cells slots Q (F0 m (pc + 3) ls (.int r :: rest))) : W p l e R s m args below meth c H locs cells slots Q (F0 m pc ls st0) := by
  have hPc := k_sub hP isC hC
  have hDc := hD.sub isC hnd hC
  have hFc := va_free (wc := wc) hD hS hA isC hC
  refine va_calli (va_runS (As := As) (rest := rest) ⟨hx, hb, hml, hown, hts⟩ (hM H.size) cw ⟨kPcX_fb hok, fun U hU hW => ⟨rfl, by rw [hU], by rw [hU]; exact hPc, va_K.moved hW.alike hK, hDc.weaken (fun _ _ _ _ => trivial), by rw [hU]; exact hok.2.2.2 _ _ _ _ hFc (hok.2.1 _ s _ _ hW (hok.2.2.1 _ _ _ _ (fun a h1 h2 => hS.2.1 a h1 h2) hX))⟩⟩ rfl hn hl.1 hst0 (lv_room hst) hdg hf) hS (fun q _ h => hFc q h) hFc (fun r' u t H1 locs1 ht hvm hw hB hz1 hk1 hS1 => ?_)
  subst hw
  have hP1 : va_P (dC, dI) vwCl w1 H1 := by rw [← ht]; exact hB
  obtain ⟨hP', hD'⟩ := k_join hP hD isC hC hk1 hP1 hlen hw' hadr
  exact kk H1 locs1 hP' hD' hS1
theorem k_callXSl {l : Launch} {y : MethodName} {bytes : ByteArray} {maxL nL n index : Nat} {ret : Option FieldType} {wsy Ts : List Cond} {rm : Room} {own : String} {As st0 : List Value} {lv : List (Nat × Value)} {ws wc w1 ws' : va_W} {X : (Nat → Prop) → State → Heap → Prop} {r : Int64} (hx : p.tables.exec = Jvm.exec) (hb : c.code = cc) (hml : c.maxLocals = nL) (hown : s.vm.findClass own = some m.cls) (hts : ∀ w ∈ Ts, w.before args s = true)
    (hK : va_K (dC, dI) vwCl (tyA kc) s) (hP : va_P (dC, dI) vwCl ws H) (hD : va_D A ws) (hS : va_S A s.heap H locs) (hA : ∀ q : Nat, s.heap.size ≤ q → A q) (hok : xok X) (hX : X A s s.heap)
    (hM : ∀ sz : Nat, Met l y wsy rm (kPcX dC dI kc X As wc sz) (kQl dC dI r w1 (va_A wc sz)) 0 0 (va_A wc sz)) (cw : CallB R s args own index y bytes maxL ret wsy rm 0 0 n ∧ (Cond.static y).before args s = true)
    (isC : List Nat) (hC : isC.map (fun i => ws[i]?) = wc.map some) (hnd : va_nd isC = true) (hn : As.length = n) (hl : lv_has ls nL lv) (hst0 : st0 = As.reverse ++ rest) (hst : (rest.map fun v => v.category).sum ≤ 8) (hdg : decode cc pc = .ok (.invokestatic index, 3)) (hf : cells ≤ R.cells ∧ slots ≤ R.slots)
    (hlen : isC.length = w1.length) (hw' : repl ws isC w1 = ws') (hadr : ws'.map Prod.fst = ws.map Prod.fst)
    (kk : ∀ (H1 : Heap) (locs1 : List Loc), va_P (dC, dI) vwCl ws' H1 → va_D A ws' → va_S A s.heap H1 locs1 → W p l e R s m args below meth c H1 locs1 cells slots Q (F0 m (pc + 3) ls (.long r :: rest))) : W p l e R s m args below meth c H locs cells slots Q (F0 m pc ls st0) := by
  have hPc := k_sub hP isC hC
  have hDc := hD.sub isC hnd hC
  have hFc := va_free (wc := wc) hD hS hA isC hC
  refine va_calll (va_runS (As := As) (rest := rest) ⟨hx, hb, hml, hown, hts⟩ (hM H.size) cw ⟨kPcX_fb hok, fun U hU hW => ⟨rfl, by rw [hU], by rw [hU]; exact hPc, va_K.moved hW.alike hK, hDc.weaken (fun _ _ _ _ => trivial), by rw [hU]; exact hok.2.2.2 _ _ _ _ hFc (hok.2.1 _ s _ _ hW (hok.2.2.1 _ _ _ _ (fun a h1 h2 => hS.2.1 a h1 h2) hX))⟩⟩ rfl hn hl.1 hst0 (lv_room hst) hdg hf) hS (fun q _ h => hFc q h) hFc (fun r' u t H1 locs1 ht hvm hw hB hz1 hk1 hS1 => ?_)
  subst hw
  have hP1 : va_P (dC, dI) vwCl w1 H1 := by rw [← ht]; exact hB
  obtain ⟨hP', hD'⟩ := k_join hP hD isC hC hk1 hP1 hlen hw' hadr
  exact kk H1 locs1 hP' hD' hS1
theorem k_callXSv {l : Launch} {y : MethodName} {bytes : ByteArray} {maxL nL n index : Nat} {ret : Option FieldType} {wsy Ts : List Cond} {rm : Room} {own : String} {As st0 : List Value} {lv : List (Nat × Value)} {ws wc w1 ws' : va_W} {X : (Nat → Prop) → State → Heap → Prop} (hx : p.tables.exec = Jvm.exec) (hb : c.code = cc) (hml : c.maxLocals = nL) (hown : s.vm.findClass own = some m.cls) (hts : ∀ w ∈ Ts, w.before args s = true)
    (hK : va_K (dC, dI) vwCl (tyA kc) s) (hP : va_P (dC, dI) vwCl ws H) (hD : va_D A ws) (hS : va_S A s.heap H locs) (hA : ∀ q : Nat, s.heap.size ≤ q → A q) (hok : xok X) (hX : X A s s.heap)
    (hM : ∀ sz : Nat, Met l y wsy rm (kPcX dC dI kc X As wc sz) (kQv dC dI w1 (va_A wc sz)) 0 0 (va_A wc sz)) (cw : CallB R s args own index y bytes maxL ret wsy rm 0 0 n ∧ (Cond.static y).before args s = true)
    (isC : List Nat) (hC : isC.map (fun i => ws[i]?) = wc.map some) (hnd : va_nd isC = true) (hn : As.length = n) (hl : lv_has ls nL lv) (hst0 : st0 = As.reverse ++ rest) (hst : (rest.map fun v => v.category).sum ≤ 8) (hdg : decode cc pc = .ok (.invokestatic index, 3)) (hf : cells ≤ R.cells ∧ slots ≤ R.slots)
    (hlen : isC.length = w1.length) (hw' : repl ws isC w1 = ws') (hadr : ws'.map Prod.fst = ws.map Prod.fst)
    (kk : ∀ (H1 : Heap) (locs1 : List Loc), va_P (dC, dI) vwCl ws' H1 → va_D A ws' → va_S A s.heap H1 locs1 → W p l e R s m args below meth c H1 locs1 cells slots Q (F0 m (pc + 3) ls rest)) : W p l e R s m args below meth c H locs cells slots Q (F0 m pc ls st0) := by
  have hPc := k_sub hP isC hC
  have hDc := hD.sub isC hnd hC
  have hFc := va_free (wc := wc) hD hS hA isC hC
  refine va_callv (va_runS (As := As) (rest := rest) ⟨hx, hb, hml, hown, hts⟩ (hM H.size) cw ⟨kPcX_fb hok, fun U hU hW => ⟨rfl, by rw [hU], by rw [hU]; exact hPc, va_K.moved hW.alike hK, hDc.weaken (fun _ _ _ _ => trivial), by rw [hU]; exact hok.2.2.2 _ _ _ _ hFc (hok.2.1 _ s _ _ hW (hok.2.2.1 _ _ _ _ (fun a h1 h2 => hS.2.1 a h1 h2) hX))⟩⟩ rfl hn hl.1 hst0 (lv_room hst) hdg hf) hS (fun q _ h => hFc q h) hFc (fun u t H1 locs1 ht hvm hw hB hz1 hk1 hS1 => ?_)
  have hP1 : va_P (dC, dI) vwCl w1 H1 := by rw [← ht]; exact hB
  obtain ⟨hP', hD'⟩ := k_join hP hD isC hC hk1 hP1 hlen hw' hadr
  exact kk H1 locs1 hP' hD' hS1
theorem k_callXSr {l : Launch} {y : MethodName} {bytes : ByteArray} {maxL nL n index : Nat} {ret : Option FieldType} {wsy Ts : List Cond} {rm : Room} {own : String} {As st0 : List Value} {lv : List (Nat × Value)} {ws wc w1 ws' : va_W} {X : (Nat → Prop) → State → Heap → Prop} {r : Nat} (hx : p.tables.exec = Jvm.exec) (hb : c.code = cc) (hml : c.maxLocals = nL) (hown : s.vm.findClass own = some m.cls) (hts : ∀ w ∈ Ts, w.before args s = true)
    (hK : va_K (dC, dI) vwCl (tyA kc) s) (hP : va_P (dC, dI) vwCl ws H) (hD : va_D A ws) (hS : va_S A s.heap H locs) (hA : ∀ q : Nat, s.heap.size ≤ q → A q) (hok : xok X) (hX : X A s s.heap)
    (hM : ∀ sz : Nat, Met l y wsy rm (kPcX dC dI kc X As wc sz) (kQr dC dI r w1 (va_A wc sz)) 0 0 (va_A wc sz)) (cw : CallB R s args own index y bytes maxL ret wsy rm 0 0 n ∧ (Cond.static y).before args s = true)
    (isC : List Nat) (hC : isC.map (fun i => ws[i]?) = wc.map some) (hnd : va_nd isC = true) (hn : As.length = n) (hl : lv_has ls nL lv) (hst0 : st0 = As.reverse ++ rest) (hst : (rest.map fun v => v.category).sum ≤ 8) (hdg : decode cc pc = .ok (.invokestatic index, 3)) (hf : cells ≤ R.cells ∧ slots ≤ R.slots)
    (hlen : isC.length = w1.length) (hw' : repl ws isC w1 = ws') (hadr : ws'.map Prod.fst = ws.map Prod.fst)
    (kk : ∀ (H1 : Heap) (locs1 : List Loc), va_P (dC, dI) vwCl ws' H1 → va_D A ws' → va_S A s.heap H1 locs1 → W p l e R s m args below meth c H1 locs1 cells slots Q (F0 m (pc + 3) ls (.ref r :: rest))) : W p l e R s m args below meth c H locs cells slots Q (F0 m pc ls st0) := by
  have hPc := k_sub hP isC hC
  have hDc := hD.sub isC hnd hC
  have hFc := va_free (wc := wc) hD hS hA isC hC
  refine va_callr (va_runS (As := As) (rest := rest) ⟨hx, hb, hml, hown, hts⟩ (hM H.size) cw ⟨kPcX_fb hok, fun U hU hW => ⟨rfl, by rw [hU], by rw [hU]; exact hPc, va_K.moved hW.alike hK, hDc.weaken (fun _ _ _ _ => trivial), by rw [hU]; exact hok.2.2.2 _ _ _ _ hFc (hok.2.1 _ s _ _ hW (hok.2.2.1 _ _ _ _ (fun a h1 h2 => hS.2.1 a h1 h2) hX))⟩⟩ rfl hn hl.1 hst0 (lv_room hst) hdg hf) hS (fun q _ h => hFc q h) hFc (fun u r' t H1 locs1 ht hvm hw hB hz1 hk1 hS1 => ?_)
  obtain ⟨hw2, hB⟩ := hB
  subst hw2
  have hP1 : va_P (dC, dI) vwCl w1 H1 := by rw [← ht]; exact hB
  obtain ⟨hP', hD'⟩ := k_join hP hD isC hC hk1 hP1 hlen hw' hadr
  exact kk H1 locs1 hP' hD' hS1
theorem k_callXGVi {l : Launch} {y : MethodName} {bytes : ByteArray} {maxL nL n index : Nat} {ret : Option FieldType} {wsy Ts : List Cond} {rm : Room} {own : String} {As st0 : List Value} {lv : List (Nat × Value)} {Gs wcs w1s Gs' : List va_W} {X : (Nat → Prop) → State → Heap → Prop} {C : String} {b : Nat} {r : Int32} (hx : p.tables.exec = Jvm.exec) (hb : c.code = cc) (hml : c.maxLocals = nL) (hown : s.vm.findClass own = some m.cls) (hts : ∀ w ∈ Ts, w.before args s = true)
    (hK : va_K (dC, dI) vwCl (tyA kc) s) (hP : va_P (dC, dI) vwCl (fl Gs) H) (hD : va_D A (fl Gs)) (hS : va_S A s.heap H locs) (hA : ∀ q : Nat, s.heap.size ≤ q → A q) (hok : xok X) (hX : X A s s.heap)
    (hM : ∀ sz : Nat, Met l y wsy rm (kPcX dC dI kc X (.ref b :: As) (fl wcs) sz) (kQi dC dI r (fl w1s) (va_A (fl wcs) sz)) 0 0 (va_A (fl wcs) sz)) (cw : CallW R s args own C index y bytes maxL ret wsy rm 0 0 n)
    (isC : List Nat) (hC : isC.map (fun i => Gs[i]?) = wcs.map some) (hnd : va_nd isC = true) (hrec : ∃ cell : Cell, H[b]? = some cell ∧ cell.vm.isStatics = false ∧ s.vm.findClass C = some cell.cls) (hn : As.length = n) (hl : lv_has ls nL lv) (hst0 : st0 = As.reverse ++ .ref b :: rest) (hst : (rest.map fun v => v.category).sum ≤ 8) (hdg : decode cc pc = .ok (.invokevirtual index, 3)) (hf : cells ≤ R.cells ∧ slots ≤ R.slots)
    (hlen : isC.length = w1s.length) (hw' : repl Gs isC w1s = Gs') (hadr : Gs'.map (fun G => G.map Prod.fst) = Gs.map (fun G => G.map Prod.fst))
    (kk : ∀ (H1 : Heap) (locs1 : List Loc), va_P (dC, dI) vwCl (fl Gs') H1 → va_D A (fl Gs') → va_S A s.heap H1 locs1 → W p l e R s m args below meth c H1 locs1 cells slots Q (F0 m (pc + 3) ls (.int r :: rest))) : W p l e R s m args below meth c H locs cells slots Q (F0 m pc ls st0) := by
  have hPc := sel_P hP isC hC
  have hDc := sel_D hD isC hnd hC
  have hFc := sel_F hD hS hA isC hC
  refine va_calli (va_runV (As := As) (rest := rest) ⟨hx, hb, hml, hown, hts⟩ (hM H.size) cw ⟨kPcX_fb hok, hrec, fun U hU hW => ⟨rfl, by rw [hU], by rw [hU]; exact hPc, va_K.moved hW.alike hK, hDc.weaken (fun _ _ _ _ => trivial), by rw [hU]; exact hok.2.2.2 _ _ _ _ hFc (hok.2.1 _ s _ _ hW (hok.2.2.1 _ _ _ _ (fun a h1 h2 => hS.2.1 a h1 h2) hX))⟩⟩ rfl hn hl.1 hst0 (lv_room hst) hdg hf) hS (fun q _ h => hFc q h) hFc (fun r' u t H1 locs1 ht hvm hw hB hz1 hk1 hS1 => ?_)
  subst hw
  have hP1 : va_P (dC, dI) vwCl (fl w1s) H1 := by rw [← ht]; exact hB
  obtain ⟨hP', hD'⟩ := k_joinG hP hD isC hC hk1 hP1 hlen hw' hadr
  exact kk H1 locs1 hP' hD' hS1
theorem k_callXGVl {l : Launch} {y : MethodName} {bytes : ByteArray} {maxL nL n index : Nat} {ret : Option FieldType} {wsy Ts : List Cond} {rm : Room} {own : String} {As st0 : List Value} {lv : List (Nat × Value)} {Gs wcs w1s Gs' : List va_W} {X : (Nat → Prop) → State → Heap → Prop} {C : String} {b : Nat} {r : Int64} (hx : p.tables.exec = Jvm.exec) (hb : c.code = cc) (hml : c.maxLocals = nL) (hown : s.vm.findClass own = some m.cls) (hts : ∀ w ∈ Ts, w.before args s = true)
    (hK : va_K (dC, dI) vwCl (tyA kc) s) (hP : va_P (dC, dI) vwCl (fl Gs) H) (hD : va_D A (fl Gs)) (hS : va_S A s.heap H locs) (hA : ∀ q : Nat, s.heap.size ≤ q → A q) (hok : xok X) (hX : X A s s.heap)
    (hM : ∀ sz : Nat, Met l y wsy rm (kPcX dC dI kc X (.ref b :: As) (fl wcs) sz) (kQl dC dI r (fl w1s) (va_A (fl wcs) sz)) 0 0 (va_A (fl wcs) sz)) (cw : CallW R s args own C index y bytes maxL ret wsy rm 0 0 n)
    (isC : List Nat) (hC : isC.map (fun i => Gs[i]?) = wcs.map some) (hnd : va_nd isC = true) (hrec : ∃ cell : Cell, H[b]? = some cell ∧ cell.vm.isStatics = false ∧ s.vm.findClass C = some cell.cls) (hn : As.length = n) (hl : lv_has ls nL lv) (hst0 : st0 = As.reverse ++ .ref b :: rest) (hst : (rest.map fun v => v.category).sum ≤ 8) (hdg : decode cc pc = .ok (.invokevirtual index, 3)) (hf : cells ≤ R.cells ∧ slots ≤ R.slots)
    (hlen : isC.length = w1s.length) (hw' : repl Gs isC w1s = Gs') (hadr : Gs'.map (fun G => G.map Prod.fst) = Gs.map (fun G => G.map Prod.fst))
    (kk : ∀ (H1 : Heap) (locs1 : List Loc), va_P (dC, dI) vwCl (fl Gs') H1 → va_D A (fl Gs') → va_S A s.heap H1 locs1 → W p l e R s m args below meth c H1 locs1 cells slots Q (F0 m (pc + 3) ls (.long r :: rest))) : W p l e R s m args below meth c H locs cells slots Q (F0 m pc ls st0) := by
  have hPc := sel_P hP isC hC
  have hDc := sel_D hD isC hnd hC
  have hFc := sel_F hD hS hA isC hC
  refine va_calll (va_runV (As := As) (rest := rest) ⟨hx, hb, hml, hown, hts⟩ (hM H.size) cw ⟨kPcX_fb hok, hrec, fun U hU hW => ⟨rfl, by rw [hU], by rw [hU]; exact hPc, va_K.moved hW.alike hK, hDc.weaken (fun _ _ _ _ => trivial), by rw [hU]; exact hok.2.2.2 _ _ _ _ hFc (hok.2.1 _ s _ _ hW (hok.2.2.1 _ _ _ _ (fun a h1 h2 => hS.2.1 a h1 h2) hX))⟩⟩ rfl hn hl.1 hst0 (lv_room hst) hdg hf) hS (fun q _ h => hFc q h) hFc (fun r' u t H1 locs1 ht hvm hw hB hz1 hk1 hS1 => ?_)
  subst hw
  have hP1 : va_P (dC, dI) vwCl (fl w1s) H1 := by rw [← ht]; exact hB
  obtain ⟨hP', hD'⟩ := k_joinG hP hD isC hC hk1 hP1 hlen hw' hadr
  exact kk H1 locs1 hP' hD' hS1
theorem k_callXGVv {l : Launch} {y : MethodName} {bytes : ByteArray} {maxL nL n index : Nat} {ret : Option FieldType} {wsy Ts : List Cond} {rm : Room} {own : String} {As st0 : List Value} {lv : List (Nat × Value)} {Gs wcs w1s Gs' : List va_W} {X : (Nat → Prop) → State → Heap → Prop} {C : String} {b : Nat} (hx : p.tables.exec = Jvm.exec) (hb : c.code = cc) (hml : c.maxLocals = nL) (hown : s.vm.findClass own = some m.cls) (hts : ∀ w ∈ Ts, w.before args s = true)
    (hK : va_K (dC, dI) vwCl (tyA kc) s) (hP : va_P (dC, dI) vwCl (fl Gs) H) (hD : va_D A (fl Gs)) (hS : va_S A s.heap H locs) (hA : ∀ q : Nat, s.heap.size ≤ q → A q) (hok : xok X) (hX : X A s s.heap)
    (hM : ∀ sz : Nat, Met l y wsy rm (kPcX dC dI kc X (.ref b :: As) (fl wcs) sz) (kQv dC dI (fl w1s) (va_A (fl wcs) sz)) 0 0 (va_A (fl wcs) sz)) (cw : CallW R s args own C index y bytes maxL ret wsy rm 0 0 n)
    (isC : List Nat) (hC : isC.map (fun i => Gs[i]?) = wcs.map some) (hnd : va_nd isC = true) (hrec : ∃ cell : Cell, H[b]? = some cell ∧ cell.vm.isStatics = false ∧ s.vm.findClass C = some cell.cls) (hn : As.length = n) (hl : lv_has ls nL lv) (hst0 : st0 = As.reverse ++ .ref b :: rest) (hst : (rest.map fun v => v.category).sum ≤ 8) (hdg : decode cc pc = .ok (.invokevirtual index, 3)) (hf : cells ≤ R.cells ∧ slots ≤ R.slots)
    (hlen : isC.length = w1s.length) (hw' : repl Gs isC w1s = Gs') (hadr : Gs'.map (fun G => G.map Prod.fst) = Gs.map (fun G => G.map Prod.fst))
    (kk : ∀ (H1 : Heap) (locs1 : List Loc), va_P (dC, dI) vwCl (fl Gs') H1 → va_D A (fl Gs') → va_S A s.heap H1 locs1 → W p l e R s m args below meth c H1 locs1 cells slots Q (F0 m (pc + 3) ls rest)) : W p l e R s m args below meth c H locs cells slots Q (F0 m pc ls st0) := by
  have hPc := sel_P hP isC hC
  have hDc := sel_D hD isC hnd hC
  have hFc := sel_F hD hS hA isC hC
  refine va_callv (va_runV (As := As) (rest := rest) ⟨hx, hb, hml, hown, hts⟩ (hM H.size) cw ⟨kPcX_fb hok, hrec, fun U hU hW => ⟨rfl, by rw [hU], by rw [hU]; exact hPc, va_K.moved hW.alike hK, hDc.weaken (fun _ _ _ _ => trivial), by rw [hU]; exact hok.2.2.2 _ _ _ _ hFc (hok.2.1 _ s _ _ hW (hok.2.2.1 _ _ _ _ (fun a h1 h2 => hS.2.1 a h1 h2) hX))⟩⟩ rfl hn hl.1 hst0 (lv_room hst) hdg hf) hS (fun q _ h => hFc q h) hFc (fun u t H1 locs1 ht hvm hw hB hz1 hk1 hS1 => ?_)
  have hP1 : va_P (dC, dI) vwCl (fl w1s) H1 := by rw [← ht]; exact hB
  obtain ⟨hP', hD'⟩ := k_joinG hP hD isC hC hk1 hP1 hlen hw' hadr
  exact kk H1 locs1 hP' hD' hS1
theorem k_callXGVr {l : Launch} {y : MethodName} {bytes : ByteArray} {maxL nL n index : Nat} {ret : Option FieldType} {wsy Ts : List Cond} {rm : Room} {own : String} {As st0 : List Value} {lv : List (Nat × Value)} {Gs wcs w1s Gs' : List va_W} {X : (Nat → Prop) → State → Heap → Prop} {C : String} {b : Nat} {r : Nat} (hx : p.tables.exec = Jvm.exec) (hb : c.code = cc) (hml : c.maxLocals = nL) (hown : s.vm.findClass own = some m.cls) (hts : ∀ w ∈ Ts, w.before args s = true)
    (hK : va_K (dC, dI) vwCl (tyA kc) s) (hP : va_P (dC, dI) vwCl (fl Gs) H) (hD : va_D A (fl Gs)) (hS : va_S A s.heap H locs) (hA : ∀ q : Nat, s.heap.size ≤ q → A q) (hok : xok X) (hX : X A s s.heap)
    (hM : ∀ sz : Nat, Met l y wsy rm (kPcX dC dI kc X (.ref b :: As) (fl wcs) sz) (kQr dC dI r (fl w1s) (va_A (fl wcs) sz)) 0 0 (va_A (fl wcs) sz)) (cw : CallW R s args own C index y bytes maxL ret wsy rm 0 0 n)
    (isC : List Nat) (hC : isC.map (fun i => Gs[i]?) = wcs.map some) (hnd : va_nd isC = true) (hrec : ∃ cell : Cell, H[b]? = some cell ∧ cell.vm.isStatics = false ∧ s.vm.findClass C = some cell.cls) (hn : As.length = n) (hl : lv_has ls nL lv) (hst0 : st0 = As.reverse ++ .ref b :: rest) (hst : (rest.map fun v => v.category).sum ≤ 8) (hdg : decode cc pc = .ok (.invokevirtual index, 3)) (hf : cells ≤ R.cells ∧ slots ≤ R.slots)
    (hlen : isC.length = w1s.length) (hw' : repl Gs isC w1s = Gs') (hadr : Gs'.map (fun G => G.map Prod.fst) = Gs.map (fun G => G.map Prod.fst))
    (kk : ∀ (H1 : Heap) (locs1 : List Loc), va_P (dC, dI) vwCl (fl Gs') H1 → va_D A (fl Gs') → va_S A s.heap H1 locs1 → W p l e R s m args below meth c H1 locs1 cells slots Q (F0 m (pc + 3) ls (.ref r :: rest))) : W p l e R s m args below meth c H locs cells slots Q (F0 m pc ls st0) := by
  have hPc := sel_P hP isC hC
  have hDc := sel_D hD isC hnd hC
  have hFc := sel_F hD hS hA isC hC
  refine va_callr (va_runV (As := As) (rest := rest) ⟨hx, hb, hml, hown, hts⟩ (hM H.size) cw ⟨kPcX_fb hok, hrec, fun U hU hW => ⟨rfl, by rw [hU], by rw [hU]; exact hPc, va_K.moved hW.alike hK, hDc.weaken (fun _ _ _ _ => trivial), by rw [hU]; exact hok.2.2.2 _ _ _ _ hFc (hok.2.1 _ s _ _ hW (hok.2.2.1 _ _ _ _ (fun a h1 h2 => hS.2.1 a h1 h2) hX))⟩⟩ rfl hn hl.1 hst0 (lv_room hst) hdg hf) hS (fun q _ h => hFc q h) hFc (fun u r' t H1 locs1 ht hvm hw hB hz1 hk1 hS1 => ?_)
  obtain ⟨hw2, hB⟩ := hB
  subst hw2
  have hP1 : va_P (dC, dI) vwCl (fl w1s) H1 := by rw [← ht]; exact hB
  obtain ⟨hP', hD'⟩ := k_joinG hP hD isC hC hk1 hP1 hlen hw' hadr
  exact kk H1 locs1 hP' hD' hS1
theorem k_callXGSi {l : Launch} {y : MethodName} {bytes : ByteArray} {maxL nL n index : Nat} {ret : Option FieldType} {wsy Ts : List Cond} {rm : Room} {own : String} {As st0 : List Value} {lv : List (Nat × Value)} {Gs wcs w1s Gs' : List va_W} {X : (Nat → Prop) → State → Heap → Prop} {r : Int32} (hx : p.tables.exec = Jvm.exec) (hb : c.code = cc) (hml : c.maxLocals = nL) (hown : s.vm.findClass own = some m.cls) (hts : ∀ w ∈ Ts, w.before args s = true)
    (hK : va_K (dC, dI) vwCl (tyA kc) s) (hP : va_P (dC, dI) vwCl (fl Gs) H) (hD : va_D A (fl Gs)) (hS : va_S A s.heap H locs) (hA : ∀ q : Nat, s.heap.size ≤ q → A q) (hok : xok X) (hX : X A s s.heap)
    (hM : ∀ sz : Nat, Met l y wsy rm (kPcX dC dI kc X As (fl wcs) sz) (kQi dC dI r (fl w1s) (va_A (fl wcs) sz)) 0 0 (va_A (fl wcs) sz)) (cw : CallB R s args own index y bytes maxL ret wsy rm 0 0 n ∧ (Cond.static y).before args s = true)
    (isC : List Nat) (hC : isC.map (fun i => Gs[i]?) = wcs.map some) (hnd : va_nd isC = true) (hn : As.length = n) (hl : lv_has ls nL lv) (hst0 : st0 = As.reverse ++ rest) (hst : (rest.map fun v => v.category).sum ≤ 8) (hdg : decode cc pc = .ok (.invokestatic index, 3)) (hf : cells ≤ R.cells ∧ slots ≤ R.slots)
    (hlen : isC.length = w1s.length) (hw' : repl Gs isC w1s = Gs') (hadr : Gs'.map (fun G => G.map Prod.fst) = Gs.map (fun G => G.map Prod.fst))
    (kk : ∀ (H1 : Heap) (locs1 : List Loc), va_P (dC, dI) vwCl (fl Gs') H1 → va_D A (fl Gs') → va_S A s.heap H1 locs1 → W p l e R s m args below meth c H1 locs1 cells slots Q (F0 m (pc + 3) ls (.int r :: rest))) : W p l e R s m args below meth c H locs cells slots Q (F0 m pc ls st0) := by
  have hPc := sel_P hP isC hC
  have hDc := sel_D hD isC hnd hC
  have hFc := sel_F hD hS hA isC hC
  refine va_calli (va_runS (As := As) (rest := rest) ⟨hx, hb, hml, hown, hts⟩ (hM H.size) cw ⟨kPcX_fb hok, fun U hU hW => ⟨rfl, by rw [hU], by rw [hU]; exact hPc, va_K.moved hW.alike hK, hDc.weaken (fun _ _ _ _ => trivial), by rw [hU]; exact hok.2.2.2 _ _ _ _ hFc (hok.2.1 _ s _ _ hW (hok.2.2.1 _ _ _ _ (fun a h1 h2 => hS.2.1 a h1 h2) hX))⟩⟩ rfl hn hl.1 hst0 (lv_room hst) hdg hf) hS (fun q _ h => hFc q h) hFc (fun r' u t H1 locs1 ht hvm hw hB hz1 hk1 hS1 => ?_)
  subst hw
  have hP1 : va_P (dC, dI) vwCl (fl w1s) H1 := by rw [← ht]; exact hB
  obtain ⟨hP', hD'⟩ := k_joinG hP hD isC hC hk1 hP1 hlen hw' hadr
  exact kk H1 locs1 hP' hD' hS1
theorem k_callXGSl {l : Launch} {y : MethodName} {bytes : ByteArray} {maxL nL n index : Nat} {ret : Option FieldType} {wsy Ts : List Cond} {rm : Room} {own : String} {As st0 : List Value} {lv : List (Nat × Value)} {Gs wcs w1s Gs' : List va_W} {X : (Nat → Prop) → State → Heap → Prop} {r : Int64} (hx : p.tables.exec = Jvm.exec) (hb : c.code = cc) (hml : c.maxLocals = nL) (hown : s.vm.findClass own = some m.cls) (hts : ∀ w ∈ Ts, w.before args s = true)
    (hK : va_K (dC, dI) vwCl (tyA kc) s) (hP : va_P (dC, dI) vwCl (fl Gs) H) (hD : va_D A (fl Gs)) (hS : va_S A s.heap H locs) (hA : ∀ q : Nat, s.heap.size ≤ q → A q) (hok : xok X) (hX : X A s s.heap)
    (hM : ∀ sz : Nat, Met l y wsy rm (kPcX dC dI kc X As (fl wcs) sz) (kQl dC dI r (fl w1s) (va_A (fl wcs) sz)) 0 0 (va_A (fl wcs) sz)) (cw : CallB R s args own index y bytes maxL ret wsy rm 0 0 n ∧ (Cond.static y).before args s = true)
    (isC : List Nat) (hC : isC.map (fun i => Gs[i]?) = wcs.map some) (hnd : va_nd isC = true) (hn : As.length = n) (hl : lv_has ls nL lv) (hst0 : st0 = As.reverse ++ rest) (hst : (rest.map fun v => v.category).sum ≤ 8) (hdg : decode cc pc = .ok (.invokestatic index, 3)) (hf : cells ≤ R.cells ∧ slots ≤ R.slots)
    (hlen : isC.length = w1s.length) (hw' : repl Gs isC w1s = Gs') (hadr : Gs'.map (fun G => G.map Prod.fst) = Gs.map (fun G => G.map Prod.fst))
    (kk : ∀ (H1 : Heap) (locs1 : List Loc), va_P (dC, dI) vwCl (fl Gs') H1 → va_D A (fl Gs') → va_S A s.heap H1 locs1 → W p l e R s m args below meth c H1 locs1 cells slots Q (F0 m (pc + 3) ls (.long r :: rest))) : W p l e R s m args below meth c H locs cells slots Q (F0 m pc ls st0) := by
  have hPc := sel_P hP isC hC
  have hDc := sel_D hD isC hnd hC
  have hFc := sel_F hD hS hA isC hC
  refine va_calll (va_runS (As := As) (rest := rest) ⟨hx, hb, hml, hown, hts⟩ (hM H.size) cw ⟨kPcX_fb hok, fun U hU hW => ⟨rfl, by rw [hU], by rw [hU]; exact hPc, va_K.moved hW.alike hK, hDc.weaken (fun _ _ _ _ => trivial), by rw [hU]; exact hok.2.2.2 _ _ _ _ hFc (hok.2.1 _ s _ _ hW (hok.2.2.1 _ _ _ _ (fun a h1 h2 => hS.2.1 a h1 h2) hX))⟩⟩ rfl hn hl.1 hst0 (lv_room hst) hdg hf) hS (fun q _ h => hFc q h) hFc (fun r' u t H1 locs1 ht hvm hw hB hz1 hk1 hS1 => ?_)
  subst hw
  have hP1 : va_P (dC, dI) vwCl (fl w1s) H1 := by rw [← ht]; exact hB
  obtain ⟨hP', hD'⟩ := k_joinG hP hD isC hC hk1 hP1 hlen hw' hadr
  exact kk H1 locs1 hP' hD' hS1
theorem k_callXGSv {l : Launch} {y : MethodName} {bytes : ByteArray} {maxL nL n index : Nat} {ret : Option FieldType} {wsy Ts : List Cond} {rm : Room} {own : String} {As st0 : List Value} {lv : List (Nat × Value)} {Gs wcs w1s Gs' : List va_W} {X : (Nat → Prop) → State → Heap → Prop} (hx : p.tables.exec = Jvm.exec) (hb : c.code = cc) (hml : c.maxLocals = nL) (hown : s.vm.findClass own = some m.cls) (hts : ∀ w ∈ Ts, w.before args s = true)
    (hK : va_K (dC, dI) vwCl (tyA kc) s) (hP : va_P (dC, dI) vwCl (fl Gs) H) (hD : va_D A (fl Gs)) (hS : va_S A s.heap H locs) (hA : ∀ q : Nat, s.heap.size ≤ q → A q) (hok : xok X) (hX : X A s s.heap)
    (hM : ∀ sz : Nat, Met l y wsy rm (kPcX dC dI kc X As (fl wcs) sz) (kQv dC dI (fl w1s) (va_A (fl wcs) sz)) 0 0 (va_A (fl wcs) sz)) (cw : CallB R s args own index y bytes maxL ret wsy rm 0 0 n ∧ (Cond.static y).before args s = true)
    (isC : List Nat) (hC : isC.map (fun i => Gs[i]?) = wcs.map some) (hnd : va_nd isC = true) (hn : As.length = n) (hl : lv_has ls nL lv) (hst0 : st0 = As.reverse ++ rest) (hst : (rest.map fun v => v.category).sum ≤ 8) (hdg : decode cc pc = .ok (.invokestatic index, 3)) (hf : cells ≤ R.cells ∧ slots ≤ R.slots)
    (hlen : isC.length = w1s.length) (hw' : repl Gs isC w1s = Gs') (hadr : Gs'.map (fun G => G.map Prod.fst) = Gs.map (fun G => G.map Prod.fst))
    (kk : ∀ (H1 : Heap) (locs1 : List Loc), va_P (dC, dI) vwCl (fl Gs') H1 → va_D A (fl Gs') → va_S A s.heap H1 locs1 → W p l e R s m args below meth c H1 locs1 cells slots Q (F0 m (pc + 3) ls rest)) : W p l e R s m args below meth c H locs cells slots Q (F0 m pc ls st0) := by
  have hPc := sel_P hP isC hC
  have hDc := sel_D hD isC hnd hC
  have hFc := sel_F hD hS hA isC hC
  refine va_callv (va_runS (As := As) (rest := rest) ⟨hx, hb, hml, hown, hts⟩ (hM H.size) cw ⟨kPcX_fb hok, fun U hU hW => ⟨rfl, by rw [hU], by rw [hU]; exact hPc, va_K.moved hW.alike hK, hDc.weaken (fun _ _ _ _ => trivial), by rw [hU]; exact hok.2.2.2 _ _ _ _ hFc (hok.2.1 _ s _ _ hW (hok.2.2.1 _ _ _ _ (fun a h1 h2 => hS.2.1 a h1 h2) hX))⟩⟩ rfl hn hl.1 hst0 (lv_room hst) hdg hf) hS (fun q _ h => hFc q h) hFc (fun u t H1 locs1 ht hvm hw hB hz1 hk1 hS1 => ?_)
  have hP1 : va_P (dC, dI) vwCl (fl w1s) H1 := by rw [← ht]; exact hB
  obtain ⟨hP', hD'⟩ := k_joinG hP hD isC hC hk1 hP1 hlen hw' hadr
  exact kk H1 locs1 hP' hD' hS1
theorem k_callXGSr {l : Launch} {y : MethodName} {bytes : ByteArray} {maxL nL n index : Nat} {ret : Option FieldType} {wsy Ts : List Cond} {rm : Room} {own : String} {As st0 : List Value} {lv : List (Nat × Value)} {Gs wcs w1s Gs' : List va_W} {X : (Nat → Prop) → State → Heap → Prop} {r : Nat} (hx : p.tables.exec = Jvm.exec) (hb : c.code = cc) (hml : c.maxLocals = nL) (hown : s.vm.findClass own = some m.cls) (hts : ∀ w ∈ Ts, w.before args s = true)
    (hK : va_K (dC, dI) vwCl (tyA kc) s) (hP : va_P (dC, dI) vwCl (fl Gs) H) (hD : va_D A (fl Gs)) (hS : va_S A s.heap H locs) (hA : ∀ q : Nat, s.heap.size ≤ q → A q) (hok : xok X) (hX : X A s s.heap)
    (hM : ∀ sz : Nat, Met l y wsy rm (kPcX dC dI kc X As (fl wcs) sz) (kQr dC dI r (fl w1s) (va_A (fl wcs) sz)) 0 0 (va_A (fl wcs) sz)) (cw : CallB R s args own index y bytes maxL ret wsy rm 0 0 n ∧ (Cond.static y).before args s = true)
    (isC : List Nat) (hC : isC.map (fun i => Gs[i]?) = wcs.map some) (hnd : va_nd isC = true) (hn : As.length = n) (hl : lv_has ls nL lv) (hst0 : st0 = As.reverse ++ rest) (hst : (rest.map fun v => v.category).sum ≤ 8) (hdg : decode cc pc = .ok (.invokestatic index, 3)) (hf : cells ≤ R.cells ∧ slots ≤ R.slots)
    (hlen : isC.length = w1s.length) (hw' : repl Gs isC w1s = Gs') (hadr : Gs'.map (fun G => G.map Prod.fst) = Gs.map (fun G => G.map Prod.fst))
    (kk : ∀ (H1 : Heap) (locs1 : List Loc), va_P (dC, dI) vwCl (fl Gs') H1 → va_D A (fl Gs') → va_S A s.heap H1 locs1 → W p l e R s m args below meth c H1 locs1 cells slots Q (F0 m (pc + 3) ls (.ref r :: rest))) : W p l e R s m args below meth c H locs cells slots Q (F0 m pc ls st0) := by
  have hPc := sel_P hP isC hC
  have hDc := sel_D hD isC hnd hC
  have hFc := sel_F hD hS hA isC hC
  refine va_callr (va_runS (As := As) (rest := rest) ⟨hx, hb, hml, hown, hts⟩ (hM H.size) cw ⟨kPcX_fb hok, fun U hU hW => ⟨rfl, by rw [hU], by rw [hU]; exact hPc, va_K.moved hW.alike hK, hDc.weaken (fun _ _ _ _ => trivial), by rw [hU]; exact hok.2.2.2 _ _ _ _ hFc (hok.2.1 _ s _ _ hW (hok.2.2.1 _ _ _ _ (fun a h1 h2 => hS.2.1 a h1 h2) hX))⟩⟩ rfl hn hl.1 hst0 (lv_room hst) hdg hf) hS (fun q _ h => hFc q h) hFc (fun u r' t H1 locs1 ht hvm hw hB hz1 hk1 hS1 => ?_)
  obtain ⟨hw2, hB⟩ := hB
  subst hw2
  have hP1 : va_P (dC, dI) vwCl (fl w1s) H1 := by rw [← ht]; exact hB
  obtain ⟨hP', hD'⟩ := k_joinG hP hD isC hC hk1 hP1 hlen hw' hadr
  exact kk H1 locs1 hP' hD' hS1
end KBASE3
def xW (q v L : Nat) (b : Nat → Int32) (sf : Option Nat) : (Nat → Prop) → State → Heap → Prop := fun A U H => va_O "java/lang/String" q A U H ∧ va_OF "java/lang/String" "coder" "B" (.int 0) q A U H ∧ va_OF "java/lang/String" "value" "[B" (.ref v) q A U H ∧ va_T .byte v L (fun j => .int (b j)) A U H ∧ va_Z "java/lang/String" "COMPACT_STRINGS" "Z" (.int 1) A U H ∧ va_Z "jdk/internal/util/Preconditions" "SIOOBE_FORMATTER" "Ljava/util/function/BiFunction;" (va_rf sf) A U H
theorem xW_moved {q v L : Nat} {b : Nat → Int32} {sf : Option Nat} {A : Nat → Prop} {u U : State} {H : Heap} (hvm : u.vm.Alike U.vm) (h : xW q v L b sf A u H) : xW q v L b sf A U H := ⟨va_O.moved hvm h.1, va_OF.moved hvm h.2.1, va_OF.moved hvm h.2.2.1, va_T.moved hvm h.2.2.2.1, va_Z.moved hvm h.2.2.2.2.1, va_Z.moved hvm h.2.2.2.2.2⟩
theorem xW_ok {q v L : Nat} {b : Nat → Int32} {sf : Option Nat} : xok (xW q v L b sf) :=
  ⟨fun A u U H e h => xW_moved (by rw [e]; exact Vm.Alike.refl _) h, fun A s U H hW h => xW_moved hW.alike h,
   fun A U H H1 hq h => ⟨va_O.kept h.1 hq, va_OF.kept h.2.1 hq, va_OF.kept h.2.2.1 hq, va_T.kept h.2.2.2.1 hq, va_Z.kept h.2.2.2.2.1 hq, va_Z.kept h.2.2.2.2.2 hq⟩,
   fun A B U H hAB h => ⟨va_O.narrow h.1 hAB, va_OF.narrow h.2.1 hAB, va_OF.narrow h.2.2.1 hAB, va_T.narrow h.2.2.2.1 hAB, va_Z.narrow h.2.2.2.2.1 hAB, va_Z.narrow h.2.2.2.2.2 hAB⟩⟩
theorem xW_recv {q v L : Nat} {b : Nat → Int32} {sf : Option Nat} {A : Nat → Prop} {s : State} {H : Heap} {locs : List Loc} (h : xW q v L b sf A s s.heap) (hS : va_S A s.heap H locs) : ∃ cell : Cell, H[q]? = some cell ∧ cell.vm.isStatics = false ∧ s.vm.findClass "java/lang/String" = some cell.cls := by
  obtain ⟨cell, h1, h2, h3, -⟩ := h.1.kept hS.2.1
  exact ⟨cell, h1, h2, h3⟩
/-- the static tables of the class -/
def tabB : Nat → Int32 := fun k => ([10, 11, 12, 0, 20, 0, 30, 0, 0, 0, 0, 40, 50, 51, 0, 0, 0, 60, 71, 70, 0] : List Int32).getD k 0
def tabK : Nat → Int32 := fun k => ([-1, 0, 0, 0, 1, 2, 3] : List Int32).getD k 0
def xB (tB tK : Nat) : (Nat → Prop) → State → Heap → Prop := fun A U H => va_Z "AtlasEnds" "BODIES" "[I" (.ref tB) A U H ∧ va_T .int tB 21 (fun k => .int (tabB k)) A U H ∧ va_Z "AtlasEnds" "KIND_ABOVE" "[I" (.ref tK) A U H ∧ va_T .int tK 7 (fun k => .int (tabK k)) A U H ∧ va_Nw (.fieldLinkNest "AtlasEnds$Acts" 51 "AtlasEnds" "BODIES" "[I" "AtlasEnds") U ∧ va_Nw (.fieldLinkNest "AtlasEnds$Acts" 54 "AtlasEnds" "KIND_ABOVE" "[I" "AtlasEnds") U
theorem xB_ok {tB tK : Nat} : xok (xB tB tK) :=
  ⟨fun A u U H e h => ⟨va_Z.moved (by rw [e]; exact Vm.Alike.refl _) h.1, va_T.moved (by rw [e]; exact Vm.Alike.refl _) h.2.1, va_Z.moved (by rw [e]; exact Vm.Alike.refl _) h.2.2.1, va_T.moved (by rw [e]; exact Vm.Alike.refl _) h.2.2.2.1, va_Nw.warmF (by rw [e]; exact State.WarmedH.refl u) h.2.2.2.2.1, va_Nw.warmF (by rw [e]; exact State.WarmedH.refl u) h.2.2.2.2.2⟩,
   fun A s U H hW h => ⟨va_Z.moved hW.alike h.1, va_T.moved hW.alike h.2.1, va_Z.moved hW.alike h.2.2.1, va_T.moved hW.alike h.2.2.2.1, va_Nw.warmF hW h.2.2.2.2.1, va_Nw.warmF hW h.2.2.2.2.2⟩,
   fun A U H H1 hq h => ⟨va_Z.kept h.1 hq, va_T.kept h.2.1 hq, va_Z.kept h.2.2.1 hq, va_T.kept h.2.2.2.1 hq, h.2.2.2.2.1, h.2.2.2.2.2⟩,
   fun A B U H hAB h => ⟨va_Z.narrow h.1 hAB, va_T.narrow h.2.1 hAB, va_Z.narrow h.2.2.1 hAB, va_T.narrow h.2.2.2.1 hAB, h.2.2.2.2.1, h.2.2.2.2.2⟩⟩
/-- the literals of LibraryReader, by their places: ; bear  down  up  blank ) pkvxjs <=> -/
def txT : List (List Int32) := [[59], [98, 101, 97, 114, 32], [100, 111, 119, 110, 32], [117, 112, 32], [32], [41], [112, 107, 118, 120, 106, 115], [60, 61, 62]]
def txL : List Nat := [1, 5, 5, 3, 1, 1, 6, 3]
def txX : List (Nat × String) := [(35, ";"), (67, "bear "), (69, "down "), (71, "up "), (79, " "), (98, ")"), (100, "pkvxjs"), (106, "<=>")]
abbrev tx (i : Nat) : Nat → Int32 := fun j => (txT.getD i []).getD j 0
def xR (adK adV : Nat → Nat) (sf : Option Nat) : (Nat → Prop) → State → Heap → Prop := fun A U H => (∀ i, i < 8 → xW (adK i) (adV i) (txL.getD i 0) (tx i) sf A U H) ∧ (∀ i, i < 8 → vk_R "AtlasEnds$LibraryReader" (txX.getD i (0, "")).1 (txX.getD i (0, "")).2 (adK i) U)
theorem xR_ok {adK adV : Nat → Nat} {sf : Option Nat} : xok (xR adK adV sf) :=
  ⟨fun A u U H e h => ⟨fun i hi => xW_ok.1 _ _ _ _ e (h.1 i hi), fun i hi => vk_R.same e (h.2 i hi)⟩, fun A s U H hW h => ⟨fun i hi => xW_ok.2.1 _ _ _ _ hW (h.1 i hi), fun i hi => vk_R.warm hW (h.2 i hi)⟩,
   fun A U H H1 hq h => ⟨fun i hi => xW_ok.2.2.1 _ _ _ _ hq (h.1 i hi), h.2⟩, fun A B U H hAB h => ⟨fun i hi => xW_ok.2.2.2 _ _ _ _ hAB (h.1 i hi), h.2⟩⟩
