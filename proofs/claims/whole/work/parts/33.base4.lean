/-! constructors -/
theorem fl_snoc (Gs : List va_W) (w : va_W) : fl Gs ++ w = fl (Gs ++ [w]) := by simp [fl]
theorem fl_app (Gs Hs : List va_W) : fl (Gs ++ Hs) = fl Gs ++ fl Hs := by simp [fl]
section KCTOR
variable {p : Program} {l : Launch} {e : Env} {R : Room} {s : State} {m : MethodId} {args : Array Value} {below : List Frame} {meth : Method} {c : Code} {H : Heap} {locs : List Loc} {cells slots : Nat} {Q : State → Prop}
variable {dC : Nat → ClassId} {dI : Nat → Nat → Nat} {kc : Nat → ClassId} {A : Nat → Prop} {cc : ByteArray} {pc : Nat} {ls : Array Slot} {rest : List Value}
theorem k_newarr {D : va_G} {cl : List vw_C} {tys : List (ClassId × FieldType)} {ws : va_W} {H0 : Heap} (hx : p.tables.exec = Jvm.exec) (hb : c.code = cc) {atype : ArrayType} (harr : (Cond.arrayClass (newarray.typeOf atype)).before args s = true) {ty : FieldType} (hty : newarray.typeOf atype = ty) (hra : ∀ (U : State) (cA : ClassId), va_RA U cA ty → U.vm.findClass ("[" ++ ty.toString) = some cA) (hK : va_K D cl tys s) (t0 : Nat) {cA : ClassId} (ht : tys[t0]? = some (cA, ty)) (hP : va_P D cl ws H) (hD : va_D A ws) (hS : va_S A H0 H locs) (hA : ∀ q, H0.size ≤ q → A q)
    {n : Int32} {N' : Nat} {a0 : vp_A} (ha : ∀ cA : ClassId, vp_cell cA a0 = arrV cA N' (fun _ => defaultValue ty)) (hn : ¬ n < 0) (hN : n.toNatClampNeg = N') (hbytes : N' * componentBytes ty ≤ 536870912) (hcells : cells + 1 ≤ R.cells) (hslots : slots + N' ≤ R.slots) (hdg : decode cc pc = .ok (.newarray atype, 2))
    (kk : ∀ (q : Nat) (H1 : Heap), va_P D cl (ws ++ [(q, .inl (cA, a0))]) H1 → va_D A (ws ++ [(q, .inl (cA, a0))]) → va_S A H0 H1 locs →
      W p l e R s m args below meth c H1 locs (cells + 1) (slots + N') Q (F0 m (pc + 2) ls (.ref q :: rest))) : W p l e R s m args below meth c H locs cells slots Q (F0 m pc ls (.int n :: rest)) := by
  refine va_newa hx hb harr hty hK hP hD hS hA ha hn hN hbytes hcells hslots hdg (fun q cA' H1 hK1 hP1 hD1 hS1 => ?_)
  have h1 := hra s cA' (hK1.2 tys.length (cA', ty) (by simp)).2
  have h2 := hra s cA (hK.2 t0 (cA, ty) ht).2
  have h3 : cA' = cA := Option.some.inj (h1.symm.trans h2)
  subst h3
  exact kk q H1 hP1 hD1 hS1
theorem k_newarq {D : va_G} {cl : List vw_C} {tys : List (ClassId × FieldType)} {ws : va_W} {H0 : Heap} (hx : p.tables.exec = Jvm.exec) (hb : c.code = cc) {own C : String} {index : Nat} (hown : s.vm.findClass own = some m.cls) (hclink : (Cond.classLink own index C).before args s = true) (hover : va_AO C s) (hK : va_K D cl tys s) (t0 : Nat) {cA : ClassId} (ht : tys[t0]? = some (cA, .object C)) (hP : va_P D cl ws H) (hD : va_D A ws) (hS : va_S A H0 H locs) (hA : ∀ q, H0.size ≤ q → A q)
    {n : Int32} {N' : Nat} (hn : ¬ n < 0) (hN : n.toNatClampNeg = N') (hbytes : N' * 4 ≤ 536870912) (hcells : cells + 1 ≤ R.cells) (hslots : slots + N' ≤ R.slots) (hdg : decode cc pc = .ok (.anewarray index, 3))
    (kk : ∀ (q : Nat) (H1 : Heap), va_P D cl (ws ++ [(q, .inl (cA, N', .inr (.inr (.inr (.inr (fun _ => none))))))]) H1 → va_D A (ws ++ [(q, .inl (cA, N', .inr (.inr (.inr (.inr (fun _ => none))))))]) → va_S A H0 H1 locs →
      W p l e R s m args below meth c H1 locs (cells + 1) (slots + N') Q (F0 m (pc + 3) ls (.ref q :: rest))) : W p l e R s m args below meth c H locs cells slots Q (F0 m pc ls (.int n :: rest)) := by
  refine va_newq hx hb hown hclink hover hK hP hD hS hA hn hN hbytes hcells hslots hdg (fun q cA' H1 hK1 hP1 hD1 hS1 => ?_)
  obtain ⟨-, -, -, -, -, h1⟩ := (hK1.2 tys.length (cA', .object C) (by simp)).2
  obtain ⟨-, -, -, -, -, h2⟩ := (hK.2 t0 (cA, .object C) ht).2
  have h3 : cA' = cA := Option.some.inj (h1.symm.trans h2)
  subst h3
  exact kk q H1 hP1 hD1 hS1
/-- behind a constructor: the last cell has become a world -/
theorem k_joinI {A0 : Nat → Prop} {D : va_G} {cl : List vw_C} {Gs w1s : List va_W} {wc : va_W} {H H1 : Heap} (hP : va_P D cl (fl Gs ++ wc) H) (hD : va_D A0 (fl Gs ++ wc))
    (hk : ∀ q : Nat, q < H.size → ¬ va_A wc H.size q → H1[q]? = H[q]?) (hF : ∀ q, va_A wc H.size q → A0 q) (hP1 : va_P D cl (fl w1s) H1) (hD1 : va_D (va_A wc H.size) (fl w1s)) : va_P D cl (fl (Gs ++ w1s)) H1 ∧ va_D A0 (fl (Gs ++ w1s)) := by
  have apart : ∀ q ∈ fl Gs, ¬ va_A wc H.size q.1 := by
    intro q hq
    rintro (⟨k2, e, h⟩ | h)
    · have h1 := (List.pairwise_append.mp (va_D_pw hD)).2.2 q hq (q.1, e) (List.mem_of_getElem? h)
      exact h1 rfl
    · exact absurd ((va_P_mem.mp hP) q (List.mem_append_left _ hq)).lt (Nat.not_lt.mpr h)
  rw [fl_app]
  refine ⟨?_, ?_⟩
  · rw [va_P_mem]
    intro q hq
    rcases List.mem_append.mp hq with h | h
    · have hat := (va_P_mem.mp hP) q (List.mem_append_left _ h)
      exact hat.kept (hk q.1 hat.lt (apart q h))
    · exact (va_P_mem.mp hP1) q h
  · refine pw_va_D (List.pairwise_append.mpr ⟨(List.pairwise_append.mp (va_D_pw hD)).1, va_D_pw hD1, fun a ha b hb e => apart a ha (by rw [e]; exact va_D_mem hD1 hb)⟩) ?_
    intro q hq
    rcases List.mem_append.mp hq with h | h
    · exact va_D_mem hD (List.mem_append_left _ h)
    · exact hF q.1 (va_D_mem hD1 h)
/-- a call of a private constructor of a nest mate, on the newest cell -/
theorem k_ctor {y : MethodName} {bytes : ByteArray} {maxL nL mc ms index : Nat} {wsy wsy' Ts : List Cond} {rm : Room} {own host : String} {st0 : List Value} {lv : List (Nat × Value)} {Gs : List va_W} {ci : Nat} {fs : List Value} {b : Nat} {S : Type} {w1 : S → List va_W} (hx : p.tables.exec = Jvm.exec) (hb : c.code = cc) (hml : c.maxLocals = nL) (hown : s.vm.findClass own = some m.cls) (hts : ∀ w ∈ Ts, w.before args s = true)
    (hK : va_K (dC, dI) vwCl (tyA kc) s) (hP : va_P (dC, dI) vwCl (fl Gs ++ [(b, .inr (ci, fs))]) H) (hD : va_D A (fl Gs ++ [(b, .inr (ci, fs))])) (hS : va_S A s.heap H locs) (hA : ∀ q : Nat, s.heap.size ≤ q → A q)
    (hM : ∀ sz : Nat, Met l y wsy rm (kPc dC dI kc [.ref b] [(b, .inr (ci, fs))] sz) (va_Qv (fun _ : S => True) (fun u t => va_P (dC, dI) vwCl (fl (w1 u)) t.heap ∧ va_D (va_A [(b, .inr (ci, fs))] sz) (fl (w1 u))) (va_A [(b, .inr (ci, fs))] sz)) mc ms (va_A [(b, .inr (ci, fs))] sz))
    (hG : GoodIn Ts wsy) (hw : wsy = Cond.code y bytes maxL none :: wsy') (hrc : rm.cells = mc) (hrs : rm.slots = ms) (hl : va_Nw (.methodLinkNest own index y host) s) (hini : (Cond.initialized y.cls).before args s = true) (hinst : (Cond.instanceMethod y).before args s = true) (hy1 : y.name = "<init>")
    (hd : y.cls ≠ "java/lang/invoke/MethodHandle" ∧ y.cls ≠ "java/lang/invoke/VarHandle" ∧ (parseMethodDescriptor y.desc).map (fun d => d.parameters.length) = some 0) (hR : rm.frames + 1 ≤ R.frames ∧ 8 + (maxL + 11) + rm.locals ≤ R.locals)
    (hls : lv_has ls nL lv) (hst0 : st0 = .ref b :: rest) (hst : (rest.map fun v => v.category).sum ≤ 8) (hdg : decode cc pc = .ok (.invokespecial index, 3)) (hf : cells + mc ≤ R.cells ∧ slots + ms ≤ R.slots)
    (kk : ∀ (u : S) (H1 : Heap) (locs1 : List Loc), va_P (dC, dI) vwCl (fl (Gs ++ w1 u)) H1 → va_D A (fl (Gs ++ w1 u)) → va_S A s.heap H1 locs1 → W p l e R s m args below meth c H1 locs1 (cells + mc) (slots + ms) Q (F0 m (pc + 3) ls rest)) : W p l e R s m args below meth c H locs cells slots Q (F0 m pc ls st0) := by
  have hPc : va_P (dC, dI) vwCl [(b, .inr (ci, fs))] H := va_P_mem.mpr fun q hq => (va_P_mem.mp hP) q (List.mem_append_right _ hq)
  have hDc : va_D A [(b, .inr (ci, fs))] := pw_va_D (List.pairwise_append.mp (va_D_pw hD)).2.1 (fun q hq => va_D_mem hD (List.mem_append_right _ hq))
  have hFc : ∀ q, va_A [(b, .inr (ci, fs))] H.size q → A q := by
    rintro q (⟨k, e, h⟩ | h)
    · exact va_D_mem hD (List.mem_append_right _ (List.mem_of_getElem? h))
    · exact hA q (Nat.le_trans hS.1 h)
  refine va_callv (va_runIN (As := []) (rest := rest) ⟨hx, hb, hml, hown, hts⟩ (hM H.size) ⟨va_cnB 0 hts hG hw hrc hrs hl hini hd hR, hy1, hinst⟩ ⟨kPc_fb, fun U hU hW => ⟨rfl, by rw [hU], by rw [hU]; exact hPc, va_K.moved hW.alike hK, hDc.weaken (fun _ _ _ _ => trivial)⟩⟩ rfl rfl hls.1 hst0 (lv_room hst) hdg hf) hS (fun q _ h => hFc q h) hFc (fun u t H1 locs1 ht hvm hw hB hz1 hk1 hS1 => ?_)
  obtain ⟨hB1, hB2⟩ := hB
  rw [ht] at hB1
  obtain ⟨hP', hD'⟩ := k_joinI hP hD hk1 hFc hB1 hB2
  exact kk u H1 locs1 hP' hD' hS1
/-- the same, of a public constructor -/
theorem k_ctorP {y : MethodName} {bytes : ByteArray} {maxL nL mc ms index : Nat} {wsy wsy' Ts : List Cond} {rm : Room} {own : String} {st0 : List Value} {lv : List (Nat × Value)} {Gs : List va_W} {ci : Nat} {fs : List Value} {b : Nat} {S : Type} {w1 : S → List va_W} {X : (Nat → Prop) → State → Heap → Prop} (hx : p.tables.exec = Jvm.exec) (hb : c.code = cc) (hml : c.maxLocals = nL) (hown : s.vm.findClass own = some m.cls) (hts : ∀ w ∈ Ts, w.before args s = true)
    (hK : va_K (dC, dI) vwCl (tyA kc) s) (hP : va_P (dC, dI) vwCl (fl Gs ++ [(b, .inr (ci, fs))]) H) (hD : va_D A (fl Gs ++ [(b, .inr (ci, fs))])) (hS : va_S A s.heap H locs) (hA : ∀ q : Nat, s.heap.size ≤ q → A q) (hok : xok X) (hX : X A s s.heap)
    (hM : ∀ sz : Nat, Met l y wsy rm (kPcX dC dI kc X [.ref b] [(b, .inr (ci, fs))] sz) (va_Qv (fun _ : S => True) (fun u t => va_P (dC, dI) vwCl (fl (w1 u)) t.heap ∧ va_D (va_A [(b, .inr (ci, fs))] sz) (fl (w1 u))) (va_A [(b, .inr (ci, fs))] sz)) mc ms (va_A [(b, .inr (ci, fs))] sz))
    (hG : GoodIn Ts wsy) (hw : wsy = Cond.code y bytes maxL none :: wsy') (hrc : rm.cells = mc) (hrs : rm.slots = ms) (hl : (Cond.methodLink own index y).before args s = true) (hini : (Cond.initialized y.cls).before args s = true) (hinst : (Cond.instanceMethod y).before args s = true) (hy1 : y.name = "<init>")
    (hd : y.cls ≠ "java/lang/invoke/MethodHandle" ∧ y.cls ≠ "java/lang/invoke/VarHandle" ∧ (parseMethodDescriptor y.desc).map (fun d => d.parameters.length) = some 0) (hR : rm.frames + 1 ≤ R.frames ∧ 8 + (maxL + 11) + rm.locals ≤ R.locals)
    (hls : lv_has ls nL lv) (hst0 : st0 = .ref b :: rest) (hst : (rest.map fun v => v.category).sum ≤ 8) (hdg : decode cc pc = .ok (.invokespecial index, 3)) (hf : cells + mc ≤ R.cells ∧ slots + ms ≤ R.slots)
    (kk : ∀ (u : S) (H1 : Heap) (locs1 : List Loc), va_P (dC, dI) vwCl (fl (Gs ++ w1 u)) H1 → va_D A (fl (Gs ++ w1 u)) → va_S A s.heap H1 locs1 → W p l e R s m args below meth c H1 locs1 (cells + mc) (slots + ms) Q (F0 m (pc + 3) ls rest)) : W p l e R s m args below meth c H locs cells slots Q (F0 m pc ls st0) := by
  have hPc : va_P (dC, dI) vwCl [(b, .inr (ci, fs))] H := va_P_mem.mpr fun q hq => (va_P_mem.mp hP) q (List.mem_append_right _ hq)
  have hDc : va_D A [(b, .inr (ci, fs))] := pw_va_D (List.pairwise_append.mp (va_D_pw hD)).2.1 (fun q hq => va_D_mem hD (List.mem_append_right _ hq))
  have hFc : ∀ q, va_A [(b, .inr (ci, fs))] H.size q → A q := by
    rintro q (⟨k, e, h⟩ | h)
    · exact va_D_mem hD (List.mem_append_right _ (List.mem_of_getElem? h))
    · exact hA q (Nat.le_trans hS.1 h)
  refine va_callv (va_runI (As := []) (rest := rest) ⟨hx, hb, hml, hown, hts⟩ (hM H.size) (cwI 0 hts hG hw hrc hrs hini hl hinst hy1 hd hR) ⟨kPcX_fb hok, fun U hU hW => ⟨rfl, by rw [hU], by rw [hU]; exact hPc, va_K.moved hW.alike hK, hDc.weaken (fun _ _ _ _ => trivial), by rw [hU]; exact hok.2.2.2 _ _ _ _ hFc (hok.2.1 _ s _ _ hW (hok.2.2.1 _ _ _ _ (fun a h1 h2 => hS.2.1 a h1 h2) hX))⟩⟩ rfl rfl hls.1 hst0 (lv_room hst) hdg hf) hS (fun q _ h => hFc q h) hFc (fun u t H1 locs1 ht hvm hw hB hz1 hk1 hS1 => ?_)
  obtain ⟨hB1, hB2⟩ := hB
  rw [ht] at hB1
  obtain ⟨hP', hD'⟩ := k_joinI hP hD hk1 hFc hB1 hB2
  exact kk u H1 locs1 hP' hD' hS1
theorem k_cret {S : Type} {w1 : S → List va_W} (u : S) {W0 : va_W} (hx : p.tables.exec = Jvm.exec) (hb : c.code = cc) (hr : meth.sig.returnType = none) (hlocks : meth.locks = false) (hP : va_P (dC, dI) vwCl (fl (w1 u)) H) (hD : va_D A (fl (w1 u))) (hS : va_S A s.heap H locs) (hdg : decode cc pc = .ok (.return_, 1)) :
    W p l e R s m args below meth c H locs cells slots (MQ below (va_Qv (fun _ : S => True) (fun u t => va_P (dC, dI) vwCl (fl (w1 u)) t.heap ∧ va_D A (fl (w1 u))) A) args s cells slots A) (F0 m pc ls []) :=
  W.vret hx hb hr (fun t ht hW => ⟨⟨u, rfl, trivial, by rw [ht]; exact hP, hD⟩, hS.F ht⟩) hS.2.2 hdg hlocks
end KCTOR
