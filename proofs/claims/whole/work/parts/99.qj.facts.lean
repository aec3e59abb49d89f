section LCTOR
variable {p : Program} {l : Launch} {e : Env} {R : Room} {s : State} {m : MethodId} {args : Array Value} {below : List Frame} {meth : Method} {c : Code} {H : Heap} {locs : List Loc} {cells slots : Nat} {Q : State → Prop}
variable {dC : Nat → ClassId} {dI : Nat → Nat → Nat} {kc : Nat → ClassId} {A : Nat → Prop} {cc : ByteArray} {pc : Nat} {ls : Array Slot} {rest : List Value}
theorem k_ctorP0 {y : MethodName} {bytes : ByteArray} {maxL nL mc ms index : Nat} {wsy wsy' Ts : List Cond} {rm : Room} {own : String} {st0 : List Value} {lv : List (Nat × Value)} {Gs : List va_W} {ci : Nat} {fs : List Value} {b : Nat} {S : Type} {w1 : S → List va_W} (hx : p.tables.exec = Jvm.exec) (hb : c.code = cc) (hml : c.maxLocals = nL) (hown : s.vm.findClass own = some m.cls) (hts : ∀ w ∈ Ts, w.before args s = true)
    (hK : va_K (dC, dI) vwCl (tyA kc) s) (hP : va_P (dC, dI) vwCl (fl Gs ++ [(b, .inr (ci, fs))]) H) (hD : va_D A (fl Gs ++ [(b, .inr (ci, fs))])) (hS : va_S A s.heap H locs) (hA : ∀ q : Nat, s.heap.size ≤ q → A q)
    (hM : ∀ sz : Nat, Met l y wsy rm (kPc dC dI kc [.ref b] [(b, .inr (ci, fs))] sz) (va_Qv (fun _ : S => True) (fun u t => va_P (dC, dI) vwCl (fl (w1 u)) t.heap ∧ va_D (va_A [(b, .inr (ci, fs))] sz) (fl (w1 u))) (va_A [(b, .inr (ci, fs))] sz)) mc ms (va_A [(b, .inr (ci, fs))] sz))
    (hG : GoodIn Ts wsy) (hw : wsy = Cond.code y bytes maxL none :: wsy') (hrc : rm.cells = mc) (hrs : rm.slots = ms) (hl : (Cond.methodLink own index y).before args s = true) (hini : (Cond.initialized y.cls).before args s = true) (hinst : (Cond.instanceMethod y).before args s = true) (hy1 : y.name = "<init>")
    (hd : y.cls ≠ "java/lang/invoke/MethodHandle" ∧ y.cls ≠ "java/lang/invoke/VarHandle" ∧ (parseMethodDescriptor y.desc).map (fun d => d.parameters.length) = some 0) (hR : rm.frames + 1 ≤ R.frames ∧ 8 + (maxL + 11) + rm.locals ≤ R.locals)
    (hls : lv_has ls nL lv) (hst0 : st0 = .ref b :: rest) (hst : (rest.map fun v => v.category).sum ≤ 8) (hdg : decode cc pc = .ok (.invokespecial index, 3)) (hf : cells + mc ≤ R.cells ∧ slots + ms ≤ R.slots)
    (kk : ∀ (u : S) (H1 : Heap) (locs1 : List Loc), va_P (dC, dI) vwCl (fl (Gs ++ w1 u)) H1 → va_D A (fl (Gs ++ w1 u)) → va_S A s.heap H1 locs1 → W p l e R s m args below meth c H1 locs1 (cells + mc) (slots + ms) Q (F0 m (pc + 3) ls rest)) : W p l e R s m args below meth c H locs cells slots Q (F0 m pc ls st0) := by
  have hPc : va_P (dC, dI) vwCl [(b, .inr (ci, fs))] H := va_P_mem.mpr fun q hq => (va_P_mem.mp hP) q (List.mem_append_right _ hq)
  have hDc : va_D A [(b, .inr (ci, fs))] := pw_va_D (List.pairwise_append.mp (va_D_pw hD)).2.1 (fun q hq => va_D_mem hD (List.mem_append_right _ hq))
  have hFc : ∀ q, va_A [(b, .inr (ci, fs))] H.size q → A q := by
    rintro q (⟨k, e, h⟩ | h)
    · exact va_D_mem hD (List.mem_append_right _ (List.mem_of_getElem? h))
    · exact hA q (Nat.le_trans hS.1 h)
  refine va_callv (va_runI (As := []) (rest := rest) ⟨hx, hb, hml, hown, hts⟩ (hM H.size) (cwI 0 hts hG hw hrc hrs hini hl hinst hy1 hd hR) ⟨kPc_fb, fun U hU hW => ⟨rfl, by rw [hU], by rw [hU]; exact hPc, va_K.moved hW.alike hK, hDc.weaken (fun _ _ _ _ => trivial)⟩⟩ rfl rfl hls.1 hst0 (lv_room hst) hdg hf) hS (fun q _ h => hFc q h) hFc (fun u t H1 locs1 ht hvm hw hB hz1 hk1 hS1 => ?_)
  obtain ⟨hB1, hB2⟩ := hB
  rw [ht] at hB1
  obtain ⟨hP', hD'⟩ := k_joinI hP hD hk1 hFc hB1 hB2
  exact kk u H1 locs1 hP' hD' hS1
end LCTOR
/-! ===== what holds at the start: statics, strings, classes of arrays ===== -/
theorem arrOver {args : Array Value} {s : State} {C : String} (h : (Cond.arrayOver (.object C)).before args s = true) : ∃ cA, ArrOfT s cA (.object C) ∧ va_RA s cA (.object C) := by
  obtain ⟨comp, c, k, h1, -, h2, h3, h4⟩ := Cond.arrayOver_spec h
  exact ⟨c, fun n z => ⟨fun k h => (by cases h), k, h2, comp, h3⟩, k, comp, h2, h3, h1, h4⟩
theorem arrCls {args : Array Value} {s : State} {ty : FieldType} (h : (Cond.arrayClass ty).before args s = true) : ∃ cA, ArrOfT s cA ty ∧ s.vm.findClass ("[" ++ ty.toString) = some cA := by
  obtain ⟨cA, kA, comp, h1, h2, h3⟩ := Cond.arrayClass_spec h
  exact ⟨cA, fun n z => ⟨fun k h => (by cases h), kA, h2, comp, h3⟩, h1⟩
theorem str1 {s : State} {b : Nat} {A : Nat → Prop} (k : Nat) (txs : String) (len : Nat) (byt : List Int32) (hlen : len < 2 ^ 31) (hex : (Cond.exactly (.string "AtlasEnds$LibraryReader" k) "java/lang/String").before #[Value.ref b] s = true) (hco : (Cond.eq (.field (.string "AtlasEnds$LibraryReader" k) "java/lang/String" "coder" "B") (.int 0)).before #[Value.ref b] s = true) (har : (Cond.arrayOf (.field (.string "AtlasEnds$LibraryReader" k) "java/lang/String" "value" "[B") .byte).before #[Value.ref b] s = true) (hle : (Cond.eq (.length (.field (.string "AtlasEnds$LibraryReader" k) "java/lang/String" "value" "[B")) (.int (Int32.ofNat len))).before #[Value.ref b] s = true)
    (hel : ∀ j : Nat, j < len → (Cond.eq (.elem (.field (.string "AtlasEnds$LibraryReader" k) "java/lang/String" "value" "[B") (.int (Int32.ofNat j))) (.int (byt.getD j 0))).before #[Value.ref b] s = true) (href : (Cond.stringRef "AtlasEnds$LibraryReader" k txs).before #[Value.ref b] s = true) (hA : ∀ a : Nat, a < s.heap.size → ¬ A a) :
    ∃ q v, (va_O "java/lang/String" q A s s.heap ∧ va_OF "java/lang/String" "coder" "B" (.int 0) q A s s.heap ∧ va_OF "java/lang/String" "value" "[B" (.ref v) q A s s.heap ∧ va_T .byte v len (fun j => .int (byt.getD j 0)) A s s.heap) ∧ vk_R "AtlasEnds$LibraryReader" k txs q s := by
  have z0 : ∀ i : Nat, i < 1 → i = 0 := fun i hi => by omega
  obtain ⟨adK, adV, ⟨h1, -⟩, h2⟩ := vk_Sof (args := #[Value.ref b]) (s := s) (N := 1) (tm := fun _ => .string "AtlasEnds$LibraryReader" k) (len := [len]) (byt := [byt]) (A := A) (fun i hi => by rw [z0 i hi]; exact hlen) (fun _ _ => hex) (fun _ _ => hco) (fun _ _ => har) (fun i hi => by rw [z0 i hi]; exact hle) (fun i hi j hj => by rw [z0 i hi] at hj ⊢; exact hel j hj) (fun i j hi hj hij => absurd (show i = j by omega) hij) hA
  exact ⟨adK 0, adV 0, h1 0 (by omega), vk_R.of href (h2 0 (by omega))⟩
set_option maxRecDepth 20000 in
theorem fact_B {s : State} {b : Nat} {A : Nat → Prop} (hts : ∀ w ∈ lw_tbl, w.before #[Value.ref b] s = true) (hgv : (Jvm.Cond.and given_1 narrow_1).before #[Value.ref b] s = true) (hA : ∀ a : Nat, a < s.heap.size → ¬ A a) : ∃ tB tK, xB tB tK A s s.heap := by
  have hs := flat_of_before _ hgv
  have e1 : ∀ j, j < 21 → (Cond.eq (.elem (.static "AtlasEnds" "BODIES" "[I") (.int (Int32.ofNat j))) (.int (tabB j))) ∈ flatC (Jvm.Cond.and given_1 narrow_1) := by decide +kernel
  have e2 : ∀ j, j < 7 → (Cond.eq (.elem (.static "AtlasEnds" "KIND_ABOVE" "[I") (.int (Int32.ofNat j))) (.int (tabK j))) ∈ flatC (Jvm.Cond.and given_1 narrow_1) := by decide +kernel
  have l1 : (Cond.eq (.length (.static "AtlasEnds" "BODIES" "[I")) (.int (Int32.ofNat 21))) ∈ flatC (Jvm.Cond.and given_1 narrow_1) := by decide +kernel
  have l2 : (Cond.eq (.length (.static "AtlasEnds" "KIND_ABOVE" "[I")) (.int (Int32.ofNat 7))) ∈ flatC (Jvm.Cond.and given_1 narrow_1) := by decide +kernel
  have a1 : (Cond.arrayOf (.static "AtlasEnds" "BODIES" "[I") .int) ∈ flatC (Jvm.Cond.and given_1 narrow_1) := by decide +kernel
  have a2 : (Cond.arrayOf (.static "AtlasEnds" "KIND_ABOVE" "[I") .int) ∈ flatC (Jvm.Cond.and given_1 narrow_1) := by decide +kernel
  obtain ⟨tB, v1, h1⟩ := va_Tof (f := fun j => .int (tabB j)) (A := A) (by omega) (hs _ a1) (va_eqt (hs _ l1)) (fun j hj => va_eqt (hs _ (e1 j hj))) hA
  obtain ⟨tK, v2, h2⟩ := va_Tof (f := fun j => .int (tabK j)) (A := A) (by omega) (hs _ a2) (va_eqt (hs _ l2)) (fun j hj => va_eqt (hs _ (e2 j hj))) hA
  exact ⟨tB, tK, va_Zref (hts _ (List.mem_of_getElem? (i := 872) rfl)) (hts _ (List.mem_of_getElem? (i := 60) rfl)) v1 hA, h1, va_Zref (hts _ (List.mem_of_getElem? (i := 874) rfl)) (hts _ (List.mem_of_getElem? (i := 60) rfl)) v2 hA, h2, va_Nw.of rfl (hts _ (List.mem_of_getElem? (i := 871) rfl)), va_Nw.of rfl (hts _ (List.mem_of_getElem? (i := 873) rfl))⟩
set_option maxRecDepth 20000 in
theorem fact_R {s : State} {b : Nat} {A : Nat → Prop} (hts : ∀ w ∈ lw_tbl, w.before #[Value.ref b] s = true) (hgv : (Jvm.Cond.and given_1 narrow_1).before #[Value.ref b] s = true) (hA : ∀ a : Nat, a < s.heap.size → ¬ A a) : ∃ adK adV sf, xR adK adV sf A s s.heap := by
  have hs := flat_of_before _ hgv
  have c1 : (Cond.eq (.static "java/lang/String" "COMPACT_STRINGS" "Z") (.int 1)) ∈ flatC (Jvm.Cond.and given_1 narrow_1) := by decide +kernel
  have c2 : (Cond.isRef (.static "jdk/internal/util/Preconditions" "SIOOBE_FORMATTER" "Ljava/util/function/BiFunction;")) ∈ flatC (Jvm.Cond.and given_1 narrow_1) := by decide +kernel
  have z1 : va_Z "java/lang/String" "COMPACT_STRINGS" "Z" (.int 1) A s s.heap := va_Zof (hts _ (List.mem_of_getElem? (i := 547) rfl)) (hts _ (List.mem_of_getElem? (i := 71) rfl)) (va_eqi (hs _ c1)) hA
  obtain ⟨sf, z2⟩ : ∃ sf, va_Z "jdk/internal/util/Preconditions" "SIOOBE_FORMATTER" "Ljava/util/function/BiFunction;" (va_rf sf) A s s.heap := by
    rcases va_Zqof (A := A) (hts _ (List.mem_of_getElem? (i := 563) rfl)) (hts _ (List.mem_of_getElem? (i := 73) rfl)) (hs _ c2) hA with h | ⟨t, h⟩
    · exact ⟨none, h⟩
    · exact ⟨some t, h⟩
  have g0 := str1 (s := s) (b := b) (A := A) 35 ";" 1 [59] (by omega) (hs _ (by decide +kernel)) (hs _ (by decide +kernel)) (hs _ (by decide +kernel)) (hs _ (by decide +kernel)) (fun j hj => hs _ ((by decide +kernel : ∀ j, j < 1 → (Cond.eq (.elem (.field (.string "AtlasEnds$LibraryReader" 35) "java/lang/String" "value" "[B") (.int (Int32.ofNat j))) (.int (([59] : List Int32).getD j 0))) ∈ flatC (Jvm.Cond.and given_1 narrow_1)) j hj)) (hts _ (List.mem_of_getElem? (i := 677) rfl)) hA
  have g1 := str1 (s := s) (b := b) (A := A) 67 "bear " 5 [98, 101, 97, 114, 32] (by omega) (hs _ (by decide +kernel)) (hs _ (by decide +kernel)) (hs _ (by decide +kernel)) (hs _ (by decide +kernel)) (fun j hj => hs _ ((by decide +kernel : ∀ j, j < 5 → (Cond.eq (.elem (.field (.string "AtlasEnds$LibraryReader" 67) "java/lang/String" "value" "[B") (.int (Int32.ofNat j))) (.int (([98, 101, 97, 114, 32] : List Int32).getD j 0))) ∈ flatC (Jvm.Cond.and given_1 narrow_1)) j hj)) (hts _ (List.mem_of_getElem? (i := 531) rfl)) hA
  have g2 := str1 (s := s) (b := b) (A := A) 69 "down " 5 [100, 111, 119, 110, 32] (by omega) (hs _ (by decide +kernel)) (hs _ (by decide +kernel)) (hs _ (by decide +kernel)) (hs _ (by decide +kernel)) (fun j hj => hs _ ((by decide +kernel : ∀ j, j < 5 → (Cond.eq (.elem (.field (.string "AtlasEnds$LibraryReader" 69) "java/lang/String" "value" "[B") (.int (Int32.ofNat j))) (.int (([100, 111, 119, 110, 32] : List Int32).getD j 0))) ∈ flatC (Jvm.Cond.and given_1 narrow_1)) j hj)) (hts _ (List.mem_of_getElem? (i := 532) rfl)) hA
  have g3 := str1 (s := s) (b := b) (A := A) 71 "up " 3 [117, 112, 32] (by omega) (hs _ (by decide +kernel)) (hs _ (by decide +kernel)) (hs _ (by decide +kernel)) (hs _ (by decide +kernel)) (fun j hj => hs _ ((by decide +kernel : ∀ j, j < 3 → (Cond.eq (.elem (.field (.string "AtlasEnds$LibraryReader" 71) "java/lang/String" "value" "[B") (.int (Int32.ofNat j))) (.int (([117, 112, 32] : List Int32).getD j 0))) ∈ flatC (Jvm.Cond.and given_1 narrow_1)) j hj)) (hts _ (List.mem_of_getElem? (i := 533) rfl)) hA
  have g4 := str1 (s := s) (b := b) (A := A) 79 " " 1 [32] (by omega) (hs _ (by decide +kernel)) (hs _ (by decide +kernel)) (hs _ (by decide +kernel)) (hs _ (by decide +kernel)) (fun j hj => hs _ ((by decide +kernel : ∀ j, j < 1 → (Cond.eq (.elem (.field (.string "AtlasEnds$LibraryReader" 79) "java/lang/String" "value" "[B") (.int (Int32.ofNat j))) (.int (([32] : List Int32).getD j 0))) ∈ flatC (Jvm.Cond.and given_1 narrow_1)) j hj)) (hts _ (List.mem_of_getElem? (i := 594) rfl)) hA
  have g5 := str1 (s := s) (b := b) (A := A) 98 ")" 1 [41] (by omega) (hs _ (by decide +kernel)) (hs _ (by decide +kernel)) (hs _ (by decide +kernel)) (hs _ (by decide +kernel)) (fun j hj => hs _ ((by decide +kernel : ∀ j, j < 1 → (Cond.eq (.elem (.field (.string "AtlasEnds$LibraryReader" 98) "java/lang/String" "value" "[B") (.int (Int32.ofNat j))) (.int (([41] : List Int32).getD j 0))) ∈ flatC (Jvm.Cond.and given_1 narrow_1)) j hj)) (hts _ (List.mem_of_getElem? (i := 676) rfl)) hA
  have g6 := str1 (s := s) (b := b) (A := A) 100 "pkvxjs" 6 [112, 107, 118, 120, 106, 115] (by omega) (hs _ (by decide +kernel)) (hs _ (by decide +kernel)) (hs _ (by decide +kernel)) (hs _ (by decide +kernel)) (fun j hj => hs _ ((by decide +kernel : ∀ j, j < 6 → (Cond.eq (.elem (.field (.string "AtlasEnds$LibraryReader" 100) "java/lang/String" "value" "[B") (.int (Int32.ofNat j))) (.int (([112, 107, 118, 120, 106, 115] : List Int32).getD j 0))) ∈ flatC (Jvm.Cond.and given_1 narrow_1)) j hj)) (hts _ (List.mem_of_getElem? (i := 611) rfl)) hA
  have g7 := str1 (s := s) (b := b) (A := A) 106 "<=>" 3 [60, 61, 62] (by omega) (hs _ (by decide +kernel)) (hs _ (by decide +kernel)) (hs _ (by decide +kernel)) (hs _ (by decide +kernel)) (fun j hj => hs _ ((by decide +kernel : ∀ j, j < 3 → (Cond.eq (.elem (.field (.string "AtlasEnds$LibraryReader" 106) "java/lang/String" "value" "[B") (.int (Int32.ofNat j))) (.int (([60, 61, 62] : List Int32).getD j 0))) ∈ flatC (Jvm.Cond.and given_1 narrow_1)) j hj)) (hts _ (List.mem_of_getElem? (i := 671) rfl)) hA
  have key : ∀ i, ∃ q : Nat × Nat, i < 8 → xW q.1 q.2 (txL.getD i 0) (tx i) sf A s s.heap ∧ vk_R "AtlasEnds$LibraryReader" (txX.getD i (0, "")).1 (txX.getD i (0, "")).2 q.1 s := by
    intro i
    by_cases hi : i < 8
    · rcases (show i = 0 ∨ i = 1 ∨ i = 2 ∨ i = 3 ∨ i = 4 ∨ i = 5 ∨ i = 6 ∨ i = 7 by omega) with rfl | rfl | rfl | rfl | rfl | rfl | rfl | rfl
      · obtain ⟨q, v, ⟨h1, h2, h3, h4⟩, h5⟩ := g0
        exact ⟨(q, v), fun _ => ⟨⟨h1, h2, h3, h4, z1, z2⟩, h5⟩⟩
      · obtain ⟨q, v, ⟨h1, h2, h3, h4⟩, h5⟩ := g1
        exact ⟨(q, v), fun _ => ⟨⟨h1, h2, h3, h4, z1, z2⟩, h5⟩⟩
      · obtain ⟨q, v, ⟨h1, h2, h3, h4⟩, h5⟩ := g2
        exact ⟨(q, v), fun _ => ⟨⟨h1, h2, h3, h4, z1, z2⟩, h5⟩⟩
      · obtain ⟨q, v, ⟨h1, h2, h3, h4⟩, h5⟩ := g3
        exact ⟨(q, v), fun _ => ⟨⟨h1, h2, h3, h4, z1, z2⟩, h5⟩⟩
      · obtain ⟨q, v, ⟨h1, h2, h3, h4⟩, h5⟩ := g4
        exact ⟨(q, v), fun _ => ⟨⟨h1, h2, h3, h4, z1, z2⟩, h5⟩⟩
      · obtain ⟨q, v, ⟨h1, h2, h3, h4⟩, h5⟩ := g5
        exact ⟨(q, v), fun _ => ⟨⟨h1, h2, h3, h4, z1, z2⟩, h5⟩⟩
      · obtain ⟨q, v, ⟨h1, h2, h3, h4⟩, h5⟩ := g6
        exact ⟨(q, v), fun _ => ⟨⟨h1, h2, h3, h4, z1, z2⟩, h5⟩⟩
      · obtain ⟨q, v, ⟨h1, h2, h3, h4⟩, h5⟩ := g7
        exact ⟨(q, v), fun _ => ⟨⟨h1, h2, h3, h4, z1, z2⟩, h5⟩⟩
    · exact ⟨(0, 0), fun h => absurd h hi⟩
  obtain ⟨ad, had⟩ := Classical.skolem.mp key
  exact ⟨fun i => (ad i).1, fun i => (ad i).2, sf, fun i hi => (had i hi).1, fun i hi => (had i hi).2⟩
set_option maxRecDepth 20000 in
theorem fact_I {s : State} {b : Nat} {A : Nat → Prop} (hts : ∀ w ∈ lw_tbl, w.before #[Value.ref b] s = true) : xI A s s.heap :=
  ⟨⟨va_Nw.of rfl (hts _ (List.mem_of_getElem? (i := 87) rfl)), va_Nw.of rfl (hts _ (List.mem_of_getElem? (i := 158) rfl)), va_Nw.of rfl (hts _ (List.mem_of_getElem? (i := 170) rfl)), va_Nw.of rfl (hts _ (List.mem_of_getElem? (i := 216) rfl)), va_Nw.of rfl (hts _ (List.mem_of_getElem? (i := 237) rfl)), va_Nw.of rfl (hts _ (List.mem_of_getElem? (i := 262) rfl)), va_Nw.of rfl (hts _ (List.mem_of_getElem? (i := 285) rfl)), va_Nw.of rfl (hts _ (List.mem_of_getElem? (i := 163) rfl))⟩, va_AO.of (hts _ (List.mem_of_getElem? (i := 213) rfl)), va_AO.of (hts _ (List.mem_of_getElem? (i := 260) rfl))⟩
set_option maxRecDepth 20000 in
theorem fact_K {s : State} {b : Nat} (hts : ∀ w ∈ lw_tbl, w.before #[Value.ref b] s = true) : ∃ (dC : Nat → ClassId) (dI : Nat → Nat → Nat) (kc : Nat → ClassId), va_K (dC, dI) vwCl (tyA kc) s := by
  obtain ⟨c0, iS0, hKn0⟩ := u_known (C := RX0) (T := TX0) (N := 5) (n := 5) hts inX0 (hts _ (List.mem_of_getElem? (i := 236) rfl))
  obtain ⟨c1, iS1, hKn1⟩ := u_known (C := RX1) (T := TX1) (N := 1) (n := 1) hts inX1 (hts _ (List.mem_of_getElem? (i := 157) rfl))
  obtain ⟨c2, iS2, hKn2⟩ := u_known (C := RX2) (T := TX2) (N := 14) (n := 14) hts inX2 (hts _ (List.mem_of_getElem? (i := 86) rfl))
  obtain ⟨c3, iS3, hKn3⟩ := u_known (C := RX3) (T := TX3) (N := 5) (n := 5) hts inX3 (hts _ (List.mem_of_getElem? (i := 261) rfl))
  obtain ⟨c4, iS4, hKn4⟩ := u_known (C := RX4) (T := TX4) (N := 4) (n := 4) hts inX4 (hts _ (List.mem_of_getElem? (i := 215) rfl))
  obtain ⟨c5, iS5, hKn5⟩ := u_known (C := RX5) (T := TX5) (N := 10) (n := 10) hts inX5 (hts _ (List.mem_of_getElem? (i := 169) rfl))
  obtain ⟨c6, iS6, hKn6⟩ := u_known (C := RX6) (T := TX6) (N := 3) (n := 3) hts inX6 (hts _ (List.mem_of_getElem? (i := 284) rfl))
  obtain ⟨c7, iS7, hKn7⟩ := u_known (C := RX7) (T := TX7) (N := 11) (n := 11) hts inX7 (hts _ (List.mem_of_getElem? (i := 78) rfl))
  obtain ⟨c8, iS8, hKn8⟩ := u_known (C := RX8) (T := TX8) (N := 29) (n := 29) hts inX8 (hts _ (List.mem_of_getElem? (i := 929) rfl))
  obtain ⟨a0, hAr0, hRa0⟩ := arrCls (ty := .char) (hts _ (List.mem_of_getElem? (i := 234) rfl))
  obtain ⟨a1, hAr1, hRa1⟩ := arrCls (ty := .int) (hts _ (List.mem_of_getElem? (i := 155) rfl))
  obtain ⟨a2, hAr2, hRa2⟩ := arrCls (ty := .long) (hts _ (List.mem_of_getElem? (i := 302) rfl))
  obtain ⟨a3, hAr3, hRa3⟩ := arrCls (ty := .boolean) (hts _ (List.mem_of_getElem? (i := 211) rfl))
  obtain ⟨a4, hAr4, hRa4⟩ := arrOver (C := "AtlasEnds$Library") (hts _ (List.mem_of_getElem? (i := 213) rfl))
  obtain ⟨a5, hAr5, hRa5⟩ := arrOver (C := "AtlasEnds$Tape") (hts _ (List.mem_of_getElem? (i := 260) rfl))
  refine ⟨fun k => match k with | 0 => c0 | 1 => c1 | 2 => c2 | 3 => c3 | 4 => c4 | 5 => c5 | 6 => c6 | 7 => c7 | _ => c8, fun k => match k with | 0 => iS0 | 1 => iS1 | 2 => iS2 | 3 => iS3 | 4 => iS4 | 5 => iS5 | 6 => iS6 | 7 => iS7 | _ => iS8, fun k => match k with | 0 => a0 | 1 => a1 | 2 => a2 | 3 => a3 | 4 => a4 | _ => a5, fun k q hq => ?_, fun k q hq => ?_⟩
  · match k, hq with
    | 0, hq => cases hq; exact hKn0
    | 1, hq => cases hq; exact hKn1
    | 2, hq => cases hq; exact hKn2
    | 3, hq => cases hq; exact hKn3
    | 4, hq => cases hq; exact hKn4
    | 5, hq => cases hq; exact hKn5
    | 6, hq => cases hq; exact hKn6
    | 7, hq => cases hq; exact hKn7
    | 8, hq => cases hq; exact hKn8
    | k + 9, hq => simp [vwCl] at hq
  · match k, hq with
    | 0, hq => cases hq; exact ⟨hAr0, hRa0⟩
    | 1, hq => cases hq; exact ⟨hAr1, hRa1⟩
    | 2, hq => cases hq; exact ⟨hAr2, hRa2⟩
    | 3, hq => cases hq; exact ⟨hAr3, hRa3⟩
    | 4, hq => cases hq; exact ⟨hAr4, hRa4⟩
    | 5, hq => cases hq; exact ⟨hAr5, hRa5⟩
    | k + 6, hq => simp [tyA] at hq
