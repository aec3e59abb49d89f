/-! my base: contracts over worlds, calls that keep the world's order, mirrors -/
abbrev tyA (kc : Nat → ClassId) : List (ClassId × FieldType) := [(kc 0, .char), (kc 1, .int), (kc 2, .long), (kc 3, .boolean), (kc 4, .object "AtlasEnds$Library"), (kc 5, .object "AtlasEnds$Tape")]
def kPc (dC : Nat → ClassId) (dI : Nat → Nat → Nat) (kc : Nat → ClassId) (av : List Value) (ws : va_W) (sz : Nat) : Array Value → State → Prop := va_Pc av (fun U => U.heap.size = sz ∧ va_P (dC, dI) vwCl ws U.heap ∧ va_K (dC, dI) vwCl (tyA kc) U ∧ va_D (fun _ => True) ws)
theorem kPc_fb {dC : Nat → ClassId} {dI : Nat → Nat → Nat} {kc : Nat → ClassId} {av : List Value} {ws : va_W} {sz : Nat} : FrameBlind (kPc dC dI kc av ws sz) := fun a U g mk q => by
  obtain ⟨q0, q1, qP, qK, qD⟩ := q
  exact ⟨q0, q1, qP, va_K.moved (u := U) (U := U.calling g mk a) (Vm.Alike.refl U.vm) qK, qD⟩
abbrev kB (dC : Nat → ClassId) (dI : Nat → Nat → Nat) (w1 : va_W) : Unit → State → Prop := fun _ t => va_P (dC, dI) vwCl w1 t.heap
abbrev kQi (dC : Nat → ClassId) (dI : Nat → Nat → Nat) (r : Int32) (w1 : va_W) (A : Nat → Prop) := va_Qi (fun (r' : Int32) (_ : Unit) => r' = r) (kB dC dI w1) A
abbrev kQl (dC : Nat → ClassId) (dI : Nat → Nat → Nat) (r : Int64) (w1 : va_W) (A : Nat → Prop) := va_Ql (fun (r' : Int64) (_ : Unit) => r' = r) (kB dC dI w1) A
abbrev kQv (dC : Nat → ClassId) (dI : Nat → Nat → Nat) (w1 : va_W) (A : Nat → Prop) := va_Qv (fun (_ : Unit) => True) (kB dC dI w1) A
abbrev kQr (dC : Nat → ClassId) (dI : Nat → Nat → Nat) (a : Nat) (w1 : va_W) (A : Nat → Prop) := va_Qr (fun (_ : Unit) => True) (fun (_ : Unit) (a' : Nat) t => a' = a ∧ va_P (dC, dI) vwCl w1 t.heap) A
theorem kMet {l : Launch} {y : MethodName} {ws ws' : List Cond} {rm : Room} {dC : Nat → ClassId} {dI : Nat → Nat → Nat} {kc : Nat → ClassId} {av : List Value} {W0 : va_W} {sz : Nat} {Qf : (Nat → Prop) → Array Value → State → Outcome → State → Prop} {cc : ByteArray} {maxL : Nat} {ret : Option FieldType} {mc ms : Nat}
    (hy : plainName y.cls = true) (hw : ws = Cond.code y cc maxL ret :: ws') (hlen : (lg_sl av).length ≤ maxL)
    (body : ∀ (p : Program) (e : Env) (s : State) (m : MethodId) (below : List Frame) (meth : Method) (c : Code) (A : Nat → Prop) (ls : Array Slot), p.tables.exec = Jvm.exec → c.code = cc → meth.sig.returnType = ret → c.maxLocals = maxL → (∀ w ∈ ws, w.before av.toArray s = true) → s.vm.findClass y.cls = some m.cls → meth.locks = false → meth.name = y.name → s.heap.size = sz → (∀ q : Nat, s.heap.size ≤ q → A q) → va_P (dC, dI) vwCl W0 s.heap → va_K (dC, dI) vwCl (tyA kc) s → va_D A W0 → lv_has ls maxL (lv_args 0 av) →
      W p l e (headSpec ws rm).room s m av.toArray below meth c s.heap [] 0 0 (MQ below (Qf A) av.toArray s mc ms A) (F0 m 0 ls [])) :
    Met l y ws rm (kPc dC dI kc av W0 sz) (Qf (va_A W0 sz)) mc ms (va_A W0 sz) := by
  refine Met.ofW (cc := cc) (maxL := maxL) (ret := ret) hy hw ?_
  intro p e s m args below meth c s₁ B hml hv
  obtain ⟨rfl, hsz, hP, hK, hD0⟩ := hv
  have hts := atoms_spec (ws := ws) B.pre
  have hD := hD0.self (sz := s.heap.size)
  rw [lg_entry_eq]
  subst hsz
  exact body p e s m below meth c (va_A W0 s.heap.size) _ B.exec B.bytes B.returns hml hts (findClass_of_methodNamed B.named) B.notSynchronized (name_of_methodNamed B.named B.method).1 rfl (fun q h => Or.inr h) hP hK hD (lv_entry av hlen)
/-- a list with some members replaced, its order kept -/
def repl {α : Type} (ws : List α) : List Nat → List α → List α
  | [], _ => ws
  | _ :: _, [] => ws
  | i :: is, q :: w => (repl ws is w).set i q
theorem repl_cases {α : Type} (ws : List α) : ∀ (is : List Nat) (w : List α), is.length = w.length → ∀ (k : Nat) (q : α), (repl ws is w)[k]? = some q → (k ∉ is ∧ ws[k]? = some q) ∨ ∃ j : Nat, w[j]? = some q
  | [], w, _, k, q, h => Or.inl ⟨by simp, by unfold repl at h; exact h⟩
  | i :: is, [], hl, k, q, h => by simp at hl
  | i :: is, a :: w, hl, k, q, h => by
    rw [repl] at h
    by_cases hk : i = k
    · subst hk
      rw [List.getElem?_set] at h
      rw [if_pos rfl] at h
      split at h
      · exact Or.inr ⟨0, h⟩
      · cases h
    · rw [List.getElem?_set_ne hk] at h
      rcases repl_cases ws is w (by simpa using hl) k q h with ⟨h1, h2⟩ | ⟨j, hj⟩
      · exact Or.inl ⟨by simp only [List.mem_cons, not_or]; exact ⟨fun e => hk e.symm, h1⟩, h2⟩
      · exact Or.inr ⟨j + 1, by rw [List.getElem?_cons_succ]; exact hj⟩
theorem va_D_fst {A : Nat → Prop} {ws ws' : va_W} (h : ws'.map Prod.fst = ws.map Prod.fst) (hD : va_D A ws) : va_D A ws' := by
  have key : ∀ (k : Nat) (q : Nat × va_E), ws'[k]? = some q → ∃ q0, ws[k]? = some q0 ∧ q0.1 = q.1 := by
    intro k q hq
    have h1 : (ws.map Prod.fst)[k]? = some q.1 := by rw [← h, List.getElem?_map, hq]; rfl
    rw [List.getElem?_map] at h1
    cases hi : ws[k]? with
    | none => rw [hi] at h1; cases h1
    | some q0 => rw [hi] at h1; exact ⟨q0, rfl, Option.some.inj h1⟩
  refine ⟨fun i j x y hi hj hxy => ?_, fun k q hk => ?_⟩
  · obtain ⟨x0, h1, h2⟩ := key i x hi
    obtain ⟨y0, h3, h4⟩ := key j y hj
    exact hD.1 i j x0 y0 h1 h3 (h2.trans (hxy.trans h4.symm))
  · obtain ⟨q0, h1, h2⟩ := key k q hk
    rw [← h2]
    exact hD.2 k q0 h1
theorem k_sub {D : va_G} {cl : List vw_C} {ws wc : va_W} {H : Heap} (hP : va_P D cl ws H) (isC : List Nat) (hC : isC.map (fun i => ws[i]?) = wc.map some) : va_P D cl wc H := by
  intro k q hq
  have h1 : (isC.map (fun i => ws[i]?))[k]? = some (some q) := by rw [hC, List.getElem?_map, hq]; rfl
  rw [List.getElem?_map] at h1
  cases hi : isC[k]? with
  | none => rw [hi] at h1; cases h1
  | some i => rw [hi] at h1; exact hP i q (Option.some.inj h1)
theorem k_join {A0 : Nat → Prop} {D : va_G} {cl : List vw_C} {ws wc w1 ws' : va_W} {H H1 : Heap} (hP : va_P D cl ws H) (hD : va_D A0 ws) (isC : List Nat) (hC : isC.map (fun i => ws[i]?) = wc.map some)
    (hk : ∀ q : Nat, q < H.size → ¬ va_A wc H.size q → H1[q]? = H[q]?) (hP1 : va_P D cl w1 H1) (hlen : isC.length = w1.length) (hw' : repl ws isC w1 = ws') (hadr : ws'.map Prod.fst = ws.map Prod.fst) : va_P D cl ws' H1 ∧ va_D A0 ws' := by
  refine ⟨?_, va_D_fst hadr hD⟩
  subst hw'
  intro k q hq
  rcases repl_cases ws isC w1 hlen k q hq with ⟨h1, h2⟩ | ⟨j, hj⟩
  · refine (hP k q h2).kept (hk q.1 (hP k q h2).lt ?_)
    rintro (⟨k2, e, h⟩ | h)
    · have h3 : (isC.map (fun i => ws[i]?))[k2]? = some (some (q.1, e)) := by rw [hC, List.getElem?_map, h]; rfl
      rw [List.getElem?_map] at h3
      cases hi : isC[k2]? with
      | none => rw [hi] at h3; cases h3
      | some i =>
        rw [hi] at h3
        have h4 := hD.1 k i q (q.1, e) h2 (Option.some.inj h3) rfl
        subst h4
        exact h1 (List.mem_of_getElem? hi)
    · exact absurd (hP k q h2).lt (Nat.not_lt.mpr h)
  · exact hP1 j q hj
/-! worlds by groups -/
abbrev fl (Gs : List va_W) : va_W := Gs.flatten
theorem va_P_mem {D : va_G} {cl : List vw_C} {ws : va_W} {H : Heap} : va_P D cl ws H ↔ ∀ q ∈ ws, va_at D cl q H := ⟨fun h q hq => by obtain ⟨k, hk⟩ := List.getElem?_of_mem hq; exact h k q hk, fun h k q hk => h q (List.mem_of_getElem? hk)⟩
theorem va_D_mem {A : Nat → Prop} {ws : va_W} (h : va_D A ws) {q : Nat × va_E} (hq : q ∈ ws) : A q.1 := by
  obtain ⟨k, hk⟩ := List.getElem?_of_mem hq
  exact h.2 k q hk
theorem va_D_pw {A : Nat → Prop} {ws : va_W} (h : va_D A ws) : ws.Pairwise (fun p q => p.1 ≠ q.1) := by
  rw [List.pairwise_iff_getElem]
  intro i j hi hj hij e
  have h1 := h.1 i j ws[i] ws[j] (List.getElem?_eq_getElem hi) (List.getElem?_eq_getElem hj) e
  omega
theorem pw_va_D {A : Nat → Prop} {ws : va_W} (h : ws.Pairwise (fun p q => p.1 ≠ q.1)) (hA : ∀ q ∈ ws, A q.1) : va_D A ws := by
  refine ⟨fun i j p q hi hj e => ?_, fun k q hk => hA q (List.mem_of_getElem? hk)⟩
  rw [List.pairwise_iff_getElem] at h
  obtain ⟨li, ei⟩ := List.getElem?_eq_some_iff.mp hi
  obtain ⟨lj, ej⟩ := List.getElem?_eq_some_iff.mp hj
  rcases Nat.lt_trichotomy i j with x | x | x
  · exact absurd (by rw [ei, ej]; exact e) (h i j li lj x)
  · exact x
  · exact absurd (by rw [ei, ej]; exact e.symm) (h j i lj li x)
theorem fl_apart {A : Nat → Prop} {Gs : List va_W} (h : va_D A (fl Gs)) {i j : Nat} {G G' : va_W} {p q : Nat × va_E} (hi : Gs[i]? = some G) (hj : Gs[j]? = some G') (hp : p ∈ G) (hq : q ∈ G') (e : p.1 = q.1) : i = j := by
  have h1 := (List.pairwise_flatten.mp (va_D_pw h)).2
  rw [List.pairwise_iff_getElem] at h1
  obtain ⟨li, ei⟩ := List.getElem?_eq_some_iff.mp hi
  obtain ⟨lj, ej⟩ := List.getElem?_eq_some_iff.mp hj
  rcases Nat.lt_trichotomy i j with x | x | x
  · exact absurd e (h1 i j li lj x p (by rw [ei]; exact hp) q (by rw [ej]; exact hq))
  · exact x
  · exact absurd e.symm (h1 j i lj li x q (by rw [ej]; exact hq) p (by rw [ei]; exact hp))
theorem sel_get {Gs wcs : List va_W} {isG : List Nat} (hC : isG.map (fun i => Gs[i]?) = wcs.map some) {j : Nat} {G : va_W} (hj : wcs[j]? = some G) : ∃ i : Nat, isG[j]? = some i ∧ Gs[i]? = some G := by
  have h1 : (isG.map (fun i => Gs[i]?))[j]? = some (some G) := by rw [hC, List.getElem?_map, hj]; rfl
  rw [List.getElem?_map] at h1
  cases hi : isG[j]? with
  | none => rw [hi] at h1; cases h1
  | some i => rw [hi] at h1; exact ⟨i, rfl, Option.some.inj h1⟩
theorem sel_mem {Gs wcs : List va_W} {isG : List Nat} (hC : isG.map (fun i => Gs[i]?) = wcs.map some) {q : Nat × va_E} (hq : q ∈ fl wcs) : ∃ (i j : Nat) (G : va_W), isG[j]? = some i ∧ Gs[i]? = some G ∧ q ∈ G := by
  obtain ⟨G, hG, hqG⟩ := List.mem_flatten.mp hq
  obtain ⟨j, hj⟩ := List.getElem?_of_mem hG
  obtain ⟨i, h1, h2⟩ := sel_get hC hj
  exact ⟨i, j, G, h1, h2, hqG⟩
theorem fl_mem {Gs : List va_W} {i : Nat} {G : va_W} {q : Nat × va_E} (hi : Gs[i]? = some G) (hq : q ∈ G) : q ∈ fl Gs := List.mem_flatten.mpr ⟨G, List.mem_of_getElem? hi, hq⟩
theorem sel_P {D : va_G} {cl : List vw_C} {Gs wcs : List va_W} {H : Heap} (hP : va_P D cl (fl Gs) H) (isG : List Nat) (hC : isG.map (fun i => Gs[i]?) = wcs.map some) : va_P D cl (fl wcs) H := by
  rw [va_P_mem] at hP ⊢
  intro q hq
  obtain ⟨i, j, G, -, h2, h3⟩ := sel_mem hC hq
  exact hP q (fl_mem h2 h3)
theorem sel_D {A : Nat → Prop} {Gs wcs : List va_W} (hD : va_D A (fl Gs)) (isG : List Nat) (hnd : va_nd isG = true) (hC : isG.map (fun i => Gs[i]?) = wcs.map some) : va_D A (fl wcs) := by
  refine pw_va_D ?_ ?_
  · refine List.pairwise_flatten.mpr ⟨fun G hG => ?_, ?_⟩
    · obtain ⟨j, hj⟩ := List.getElem?_of_mem hG
      obtain ⟨i, -, hi⟩ := sel_get hC hj
      exact (List.pairwise_flatten.mp (va_D_pw hD)).1 G (List.mem_of_getElem? hi)
    · rw [List.pairwise_iff_getElem]
      intro a b la lb hab x hx y hy e
      obtain ⟨i, h1, h2⟩ := sel_get hC (List.getElem?_eq_getElem la)
      obtain ⟨j, h3, h4⟩ := sel_get hC (List.getElem?_eq_getElem lb)
      have h5 := fl_apart hD h2 h4 hx hy e
      subst h5
      have h6 := va_nd_inj isG hnd a b i h1 h3
      omega
  · intro q hq
    obtain ⟨i, j, G, -, h2, h3⟩ := sel_mem hC hq
    exact va_D_mem hD (fl_mem h2 h3)
theorem sel_F {A0 : Nat → Prop} {Gs wcs : List va_W} {H0 H : Heap} {locs : List Loc} (hD : va_D A0 (fl Gs)) (hS : va_S A0 H0 H locs) (hA : ∀ q : Nat, H0.size ≤ q → A0 q) (isG : List Nat) (hC : isG.map (fun i => Gs[i]?) = wcs.map some) : ∀ q, va_A (fl wcs) H.size q → A0 q := by
  rintro q (⟨k, e, h⟩ | h)
  · obtain ⟨i, j, G, -, h2, h3⟩ := sel_mem hC (List.mem_of_getElem? h)
    exact va_D_mem hD (fl_mem h2 h3)
  · exact hA q (Nat.le_trans hS.1 h)
theorem k_joinG {A0 : Nat → Prop} {D : va_G} {cl : List vw_C} {Gs wcs w1s Gs' : List va_W} {H H1 : Heap} (hP : va_P D cl (fl Gs) H) (hD : va_D A0 (fl Gs)) (isG : List Nat) (hC : isG.map (fun i => Gs[i]?) = wcs.map some)
    (hk : ∀ q : Nat, q < H.size → ¬ va_A (fl wcs) H.size q → H1[q]? = H[q]?) (hP1 : va_P D cl (fl w1s) H1) (hlen : isG.length = w1s.length) (hw' : repl Gs isG w1s = Gs') (hadr : Gs'.map (fun G => G.map Prod.fst) = Gs.map (fun G => G.map Prod.fst)) : va_P D cl (fl Gs') H1 ∧ va_D A0 (fl Gs') := by
  refine ⟨?_, va_D_fst (by show (Gs'.flatten).map Prod.fst = (Gs.flatten).map Prod.fst; rw [List.map_flatten, List.map_flatten, hadr]) hD⟩
  subst hw'
  rw [va_P_mem] at hP hP1 ⊢
  intro q hq
  obtain ⟨G, hG, hqG⟩ := List.mem_flatten.mp hq
  obtain ⟨k, hk2⟩ := List.getElem?_of_mem hG
  rcases repl_cases Gs isG w1s hlen k G hk2 with ⟨h1, h2⟩ | ⟨j, hj⟩
  · have hat := hP q (fl_mem h2 hqG)
    refine hat.kept (hk q.1 hat.lt ?_)
    rintro (⟨k3, e, h⟩ | h)
    · obtain ⟨i, j, G2, g1, g2, g3⟩ := sel_mem hC (List.mem_of_getElem? h)
      have h4 := fl_apart hD h2 g2 hqG g3 rfl
      subst h4
      exact h1 (List.mem_of_getElem? g1)
    · exact absurd hat.lt (Nat.not_lt.mpr h)
  · exact hP1 q (fl_mem hj hqG)
section KBASE
variable {p : Program} {l : Launch} {e : Env} {R : Room} {s : State} {m : MethodId} {args : Array Value} {below : List Frame} {meth : Method} {c : Code} {H : Heap} {locs : List Loc} {cells slots : Nat} {Q : State → Prop}
variable {dC : Nat → ClassId} {dI : Nat → Nat → Nat} {kc : Nat → ClassId} {A : Nat → Prop} {cc : ByteArray} {pc : Nat} {ls : Array Slot} {rest : List Value}
theorem k_iret {r : Int32} {W1 : va_W} (hx : p.tables.exec = Jvm.exec) (hb : c.code = cc) (hr : meth.sig.returnType = some .int) (hlocks : meth.locks = false) (hP : va_P (dC, dI) vwCl W1 H) (hS : va_S A s.heap H locs) (hdg : decode cc pc = .ok (.ireturn, 1)) :
    W p l e R s m args below meth c H locs cells slots (MQ below (kQi dC dI r W1 A) args s cells slots A) (F0 m pc ls [.int r]) :=
  W.iret hx hb hr (fun t ht hW => ⟨⟨r, (), rfl, rfl, by show va_P _ _ _ t.heap; rw [ht]; exact hP⟩, hS.F ht⟩) hS.2.2 hdg hlocks
theorem k_zret {r : Int32} {W1 : va_W} (hx : p.tables.exec = Jvm.exec) (hb : c.code = cc) (hr : meth.sig.returnType = some .boolean) (hlocks : meth.locks = false) (hn : r = 0 ∨ r = 1) (hP : va_P (dC, dI) vwCl W1 H) (hS : va_S A s.heap H locs) (hdg : decode cc pc = .ok (.ireturn, 1)) :
    W p l e R s m args below meth c H locs cells slots (MQ below (kQi dC dI r W1 A) args s cells slots A) (F0 m pc ls [.int r]) :=
  W.zret hx hb hr (by rcases hn with rfl | rfl <;> rfl) (fun t ht hW => ⟨⟨r, (), rfl, rfl, by show va_P _ _ _ t.heap; rw [ht]; exact hP⟩, hS.F ht⟩) hS.2.2 hdg hlocks
theorem k_lret {r : Int64} {W1 : va_W} (hx : p.tables.exec = Jvm.exec) (hb : c.code = cc) (hr : meth.sig.returnType = some .long) (hlocks : meth.locks = false) (hP : va_P (dC, dI) vwCl W1 H) (hS : va_S A s.heap H locs) (hdg : decode cc pc = .ok (.lreturn, 1)) :
    W p l e R s m args below meth c H locs cells slots (MQ below (kQl dC dI r W1 A) args s cells slots A) (F0 m pc ls [.long r]) :=
  W.lret hx hb hr (fun t ht hW => ⟨⟨r, (), rfl, rfl, by show va_P _ _ _ t.heap; rw [ht]; exact hP⟩, hS.F ht⟩) hS.2.2 hdg hlocks
theorem k_vret {W1 : va_W} (hx : p.tables.exec = Jvm.exec) (hb : c.code = cc) (hr : meth.sig.returnType = none) (hlocks : meth.locks = false) (hP : va_P (dC, dI) vwCl W1 H) (hS : va_S A s.heap H locs) (hdg : decode cc pc = .ok (.return_, 1)) :
    W p l e R s m args below meth c H locs cells slots (MQ below (kQv dC dI W1 A) args s cells slots A) (F0 m pc ls []) :=
  W.vret hx hb hr (fun t ht hW => ⟨⟨(), rfl, trivial, by show va_P _ _ _ t.heap; rw [ht]; exact hP⟩, hS.F ht⟩) hS.2.2 hdg hlocks
theorem k_aret {a : Nat} {rt : FieldType} {W1 : va_W} (hx : p.tables.exec = Jvm.exec) (hb : c.code = cc) (hr : meth.sig.returnType = some rt) (hrt : (∃ n, rt = .object n) ∨ ∃ t, rt = .array t) (hlocks : meth.locks = false) (hP : va_P (dC, dI) vwCl W1 H) (hS : va_S A s.heap H locs) (hdg : decode cc pc = .ok (.areturn, 1)) :
    W p l e R s m args below meth c H locs cells slots (MQ below (kQr dC dI a W1 A) args s cells slots A) (F0 m pc ls [.ref a]) :=
  W.aret hx hb hr hrt (Or.inr ⟨a, rfl⟩) (fun t ht hW => ⟨⟨(), a, rfl, trivial, rfl, by show va_P _ _ _ t.heap; rw [ht]; exact hP⟩, hS.F ht⟩) hS.2.2 hdg hlocks
theorem k_iald {ws : va_W} {a : Nat} {cl : List vw_C} {D : va_G} {tys : List (ClassId × FieldType)} (hx : p.tables.exec = Jvm.exec) (hb : c.code = cc) (hK : va_K D cl tys s) (hP : va_P D cl ws H) (q0 t0 : Nat) {cA : ClassId} {n : Nat} {f : Nat → Int32} (ha : ws[q0]? = some (a, .inl (cA, n, .inl f))) (ht : tys[t0]? = some (cA, .int)) {i : Int32} {k : Nat} (hk : i.toNatClampNeg = k) (hin : vp_in i n) (hdg : decode cc pc = .ok (.iaload, 1))
    (kk : W p l e R s m args below meth c H locs cells slots Q (F0 m (pc + 1) ls (.int (f k) :: rest))) : W p l e R s m args below meth c H locs cells slots Q (F0 m pc ls (.int i :: .ref a :: rest)) := by
  subst hk
  exact va_iald hx hb hK hP q0 t0 ha ht hin hdg kk
theorem k_lald {ws : va_W} {a : Nat} {cl : List vw_C} {D : va_G} {tys : List (ClassId × FieldType)} (hx : p.tables.exec = Jvm.exec) (hb : c.code = cc) (hK : va_K D cl tys s) (hP : va_P D cl ws H) (q0 t0 : Nat) {cA : ClassId} {n : Nat} {f : Nat → Int64} (ha : ws[q0]? = some (a, .inl (cA, n, .inr (.inl f)))) (ht : tys[t0]? = some (cA, .long)) {i : Int32} {k : Nat} (hk : i.toNatClampNeg = k) (hin : vp_in i n) (hdg : decode cc pc = .ok (.laload, 1))
    (kk : W p l e R s m args below meth c H locs cells slots Q (F0 m (pc + 1) ls (.long (f k) :: rest))) : W p l e R s m args below meth c H locs cells slots Q (F0 m pc ls (.int i :: .ref a :: rest)) := by
  subst hk
  exact va_lald hx hb hK hP q0 t0 ha ht hin hdg kk
theorem k_zald {ws : va_W} {a : Nat} {cl : List vw_C} {D : va_G} {tys : List (ClassId × FieldType)} (hx : p.tables.exec = Jvm.exec) (hb : c.code = cc) (hK : va_K D cl tys s) (hP : va_P D cl ws H) (q0 t0 : Nat) {cA : ClassId} {n : Nat} {f : Nat → Int32} (ha : ws[q0]? = some (a, .inl (cA, n, .inl f))) (ht : tys[t0]? = some (cA, .boolean)) {i : Int32} {k : Nat} (hk : i.toNatClampNeg = k) (hin : vp_in i n) (hdg : decode cc pc = .ok (.baload, 1))
    (kk : W p l e R s m args below meth c H locs cells slots Q (F0 m (pc + 1) ls (.int (f k) :: rest))) : W p l e R s m args below meth c H locs cells slots Q (F0 m pc ls (.int i :: .ref a :: rest)) := by
  subst hk
  exact va_zald hx hb hK hP q0 t0 ha ht hin hdg kk
theorem k_cald {ws : va_W} {a : Nat} {cl : List vw_C} {D : va_G} {tys : List (ClassId × FieldType)} (hx : p.tables.exec = Jvm.exec) (hb : c.code = cc) (hK : va_K D cl tys s) (hP : va_P D cl ws H) (q0 t0 : Nat) {cA : ClassId} {n : Nat} {f : Nat → Int32} (ha : ws[q0]? = some (a, .inl (cA, n, .inl f))) (ht : tys[t0]? = some (cA, .char)) {i : Int32} {k : Nat} (hk : i.toNatClampNeg = k) (hin : vp_in i n) (hdg : decode cc pc = .ok (.caload, 1))
    (kk : W p l e R s m args below meth c H locs cells slots Q (F0 m (pc + 1) ls (.int (f k) :: rest))) : W p l e R s m args below meth c H locs cells slots Q (F0 m pc ls (.int i :: .ref a :: rest)) := by
  subst hk
  exact va_cald hx hb hK hP q0 t0 ha ht hin hdg kk
theorem k_iast {ws : va_W} {a : Nat} {cl : List vw_C} {D : va_G} {tys : List (ClassId × FieldType)} {H0 : Heap} (hx : p.tables.exec = Jvm.exec) (hb : c.code = cc) (hK : va_K D cl tys s) (hP : va_P D cl ws H) (hD : va_D A ws) (hS : va_S A H0 H locs) (q0 t0 : Nat) {cA : ClassId} {n : Nat} {f : Nat → Int32} (ha : ws[q0]? = some (a, .inl (cA, n, .inl f))) (ht : tys[t0]? = some (cA, .int)) {i : Int32} {x : Int32} {k : Nat} (hk : i.toNatClampNeg = k) (hin : vp_in i n) (hdg : decode cc pc = .ok (.iastore, 1))
    (kk : ∀ (H1 : Heap) (locs1 : List Loc), va_P D cl (ws.set q0 (a, .inl (cA, n, .inl (upd f k x)))) H1 → va_D A (ws.set q0 (a, .inl (cA, n, .inl (upd f k x)))) → va_S A H0 H1 locs1 → W p l e R s m args below meth c H1 locs1 cells slots Q (F0 m (pc + 1) ls rest)) : W p l e R s m args below meth c H locs cells slots Q (F0 m pc ls (.int x :: .int i :: .ref a :: rest)) := by
  subst hk
  exact va_iast hx hb hK hP hD hS q0 t0 ha ht hin hdg kk
theorem k_zast {ws : va_W} {a : Nat} {cl : List vw_C} {D : va_G} {tys : List (ClassId × FieldType)} {H0 : Heap} (hx : p.tables.exec = Jvm.exec) (hb : c.code = cc) (hK : va_K D cl tys s) (hP : va_P D cl ws H) (hD : va_D A ws) (hS : va_S A H0 H locs) (q0 t0 : Nat) {cA : ClassId} {n : Nat} {f : Nat → Int32} (ha : ws[q0]? = some (a, .inl (cA, n, .inl f))) (ht : tys[t0]? = some (cA, .boolean)) {i : Int32} {x : Int32} {k : Nat} (hk : i.toNatClampNeg = k) (hin : vp_in i n) (hdg : decode cc pc = .ok (.bastore, 1))
    (kk : ∀ (H1 : Heap) (locs1 : List Loc), va_P D cl (ws.set q0 (a, .inl (cA, n, .inl (upd f k (vp_nar .boolean x))))) H1 → va_D A (ws.set q0 (a, .inl (cA, n, .inl (upd f k (vp_nar .boolean x))))) → va_S A H0 H1 locs1 → W p l e R s m args below meth c H1 locs1 cells slots Q (F0 m (pc + 1) ls rest)) : W p l e R s m args below meth c H locs cells slots Q (F0 m pc ls (.int x :: .int i :: .ref a :: rest)) := by
  subst hk
  exact va_zast hx hb hK hP hD hS q0 t0 ha ht hin hdg kk
theorem k_cast {ws : va_W} {a : Nat} {cl : List vw_C} {D : va_G} {tys : List (ClassId × FieldType)} {H0 : Heap} (hx : p.tables.exec = Jvm.exec) (hb : c.code = cc) (hK : va_K D cl tys s) (hP : va_P D cl ws H) (hD : va_D A ws) (hS : va_S A H0 H locs) (q0 t0 : Nat) {cA : ClassId} {n : Nat} {f : Nat → Int32} (ha : ws[q0]? = some (a, .inl (cA, n, .inl f))) (ht : tys[t0]? = some (cA, .char)) {i : Int32} {x : Int32} {k : Nat} (hk : i.toNatClampNeg = k) (hin : vp_in i n) (hdg : decode cc pc = .ok (.castore, 1))
    (kk : ∀ (H1 : Heap) (locs1 : List Loc), va_P D cl (ws.set q0 (a, .inl (cA, n, .inl (upd f k (vp_nar .char x))))) H1 → va_D A (ws.set q0 (a, .inl (cA, n, .inl (upd f k (vp_nar .char x))))) → va_S A H0 H1 locs1 → W p l e R s m args below meth c H1 locs1 cells slots Q (F0 m (pc + 1) ls rest)) : W p l e R s m args below meth c H locs cells slots Q (F0 m pc ls (.int x :: .int i :: .ref a :: rest)) := by
  subst hk
  exact va_cast hx hb hK hP hD hS q0 t0 ha ht hin hdg kk
theorem k_last {ws : va_W} {a : Nat} {cl : List vw_C} {D : va_G} {tys : List (ClassId × FieldType)} {H0 : Heap} (hx : p.tables.exec = Jvm.exec) (hb : c.code = cc) (hK : va_K D cl tys s) (hP : va_P D cl ws H) (hD : va_D A ws) (hS : va_S A H0 H locs) (q0 t0 : Nat) {cA : ClassId} {n : Nat} {f : Nat → Int64} (ha : ws[q0]? = some (a, .inl (cA, n, .inr (.inl f)))) (ht : tys[t0]? = some (cA, .long)) {i : Int32} {x : Int64} {k : Nat} (hk : i.toNatClampNeg = k) (hin : vp_in i n) (hdg : decode cc pc = .ok (.lastore, 1))
    (kk : ∀ (H1 : Heap) (locs1 : List Loc), va_P D cl (ws.set q0 (a, .inl (cA, n, .inr (.inl (vp_updL f k x))))) H1 → va_D A (ws.set q0 (a, .inl (cA, n, .inr (.inl (vp_updL f k x))))) → va_S A H0 H1 locs1 → W p l e R s m args below meth c H1 locs1 cells slots Q (F0 m (pc + 1) ls rest)) : W p l e R s m args below meth c H locs cells slots Q (F0 m pc ls (.long x :: .int i :: .ref a :: rest)) := by
  subst hk
  exact va_last hx hb hK hP hD hS q0 t0 ha ht hin hdg kk
theorem k_callVi {l : Launch} {y : MethodName} {bytes : ByteArray} {maxL nL n index : Nat} {ret : Option FieldType} {wsy Ts : List Cond} {rm : Room} {own : String} {As st0 : List Value} {lv : List (Nat × Value)} {ws wc w1 ws' : va_W} {C : String} {b : Nat} {r : Int32} (hx : p.tables.exec = Jvm.exec) (hb : c.code = cc) (hml : c.maxLocals = nL) (hown : s.vm.findClass own = some m.cls) (hts : ∀ w ∈ Ts, w.before args s = true)
    (hK : va_K (dC, dI) vwCl (tyA kc) s) (hP : va_P (dC, dI) vwCl ws H) (hD : va_D A ws) (hS : va_S A s.heap H locs) (hA : ∀ q : Nat, s.heap.size ≤ q → A q)
    (hM : ∀ sz : Nat, Met l y wsy rm (kPc dC dI kc (.ref b :: As) wc sz) (kQi dC dI r w1 (va_A wc sz)) 0 0 (va_A wc sz)) (cw : CallW R s args own C index y bytes maxL ret wsy rm 0 0 n)
    (isC : List Nat) (hC : isC.map (fun i => ws[i]?) = wc.map some) (hnd : va_nd isC = true) (ci : Nat) {q : vw_C} {fs : List Value} (hq1 : vwCl[ci]? = some q) (hq2 : wc[0]? = some (b, .inr (ci, fs))) (hq3 : q.1 = C) (hn : As.length = n) (hl : lv_has ls nL lv) (hst0 : st0 = As.reverse ++ .ref b :: rest) (hst : (rest.map fun v => v.category).sum ≤ 8) (hdg : decode cc pc = .ok (.invokevirtual index, 3)) (hf : cells ≤ R.cells ∧ slots ≤ R.slots)
    (hlen : isC.length = w1.length) (hw' : repl ws isC w1 = ws') (hadr : ws'.map Prod.fst = ws.map Prod.fst)
    (kk : ∀ (H1 : Heap) (locs1 : List Loc), va_P (dC, dI) vwCl ws' H1 → va_D A ws' → va_S A s.heap H1 locs1 → W p l e R s m args below meth c H1 locs1 cells slots Q (F0 m (pc + 3) ls (.int r :: rest))) : W p l e R s m args below meth c H locs cells slots Q (F0 m pc ls st0) := by
  have hPc := k_sub hP isC hC
  have hDc := hD.sub isC hnd hC
  have hFc := va_free (wc := wc) hD hS hA isC hC
  subst hq3
  refine va_calli (va_runV (As := As) (rest := rest) ⟨hx, hb, hml, hown, hts⟩ (hM H.size) cw ⟨kPc_fb, va_recv hK hPc hq1 hq2, fun U hU hW => ⟨rfl, by rw [hU], by rw [hU]; exact hPc, va_K.moved hW.alike hK, hDc.weaken (fun _ _ _ _ => trivial)⟩⟩ rfl hn hl.1 hst0 (lv_room hst) hdg hf) hS (fun q _ h => hFc q h) hFc (fun r' u t H1 locs1 ht hvm hw hB hz1 hk1 hS1 => ?_)
  subst hw
  have hP1 : va_P (dC, dI) vwCl w1 H1 := by rw [← ht]; exact hB
  obtain ⟨hP', hD'⟩ := k_join hP hD isC hC hk1 hP1 hlen hw' hadr
  exact kk H1 locs1 hP' hD' hS1
theorem k_callVl {l : Launch} {y : MethodName} {bytes : ByteArray} {maxL nL n index : Nat} {ret : Option FieldType} {wsy Ts : List Cond} {rm : Room} {own : String} {As st0 : List Value} {lv : List (Nat × Value)} {ws wc w1 ws' : va_W} {C : String} {b : Nat} {r : Int64} (hx : p.tables.exec = Jvm.exec) (hb : c.code = cc) (hml : c.maxLocals = nL) (hown : s.vm.findClass own = some m.cls) (hts : ∀ w ∈ Ts, w.before args s = true)
    (hK : va_K (dC, dI) vwCl (tyA kc) s) (hP : va_P (dC, dI) vwCl ws H) (hD : va_D A ws) (hS : va_S A s.heap H locs) (hA : ∀ q : Nat, s.heap.size ≤ q → A q)
    (hM : ∀ sz : Nat, Met l y wsy rm (kPc dC dI kc (.ref b :: As) wc sz) (kQl dC dI r w1 (va_A wc sz)) 0 0 (va_A wc sz)) (cw : CallW R s args own C index y bytes maxL ret wsy rm 0 0 n)
    (isC : List Nat) (hC : isC.map (fun i => ws[i]?) = wc.map some) (hnd : va_nd isC = true) (ci : Nat) {q : vw_C} {fs : List Value} (hq1 : vwCl[ci]? = some q) (hq2 : wc[0]? = some (b, .inr (ci, fs))) (hq3 : q.1 = C) (hn : As.length = n) (hl : lv_has ls nL lv) (hst0 : st0 = As.reverse ++ .ref b :: rest) (hst : (rest.map fun v => v.category).sum ≤ 8) (hdg : decode cc pc = .ok (.invokevirtual index, 3)) (hf : cells ≤ R.cells ∧ slots ≤ R.slots)
    (hlen : isC.length = w1.length) (hw' : repl ws isC w1 = ws') (hadr : ws'.map Prod.fst = ws.map Prod.fst)
    (kk : ∀ (H1 : Heap) (locs1 : List Loc), va_P (dC, dI) vwCl ws' H1 → va_D A ws' → va_S A s.heap H1 locs1 → W p l e R s m args below meth c H1 locs1 cells slots Q (F0 m (pc + 3) ls (.long r :: rest))) : W p l e R s m args below meth c H locs cells slots Q (F0 m pc ls st0) := by
  have hPc := k_sub hP isC hC
  have hDc := hD.sub isC hnd hC
  have hFc := va_free (wc := wc) hD hS hA isC hC
  subst hq3
  refine va_calll (va_runV (As := As) (rest := rest) ⟨hx, hb, hml, hown, hts⟩ (hM H.size) cw ⟨kPc_fb, va_recv hK hPc hq1 hq2, fun U hU hW => ⟨rfl, by rw [hU], by rw [hU]; exact hPc, va_K.moved hW.alike hK, hDc.weaken (fun _ _ _ _ => trivial)⟩⟩ rfl hn hl.1 hst0 (lv_room hst) hdg hf) hS (fun q _ h => hFc q h) hFc (fun r' u t H1 locs1 ht hvm hw hB hz1 hk1 hS1 => ?_)
  subst hw
  have hP1 : va_P (dC, dI) vwCl w1 H1 := by rw [← ht]; exact hB
  obtain ⟨hP', hD'⟩ := k_join hP hD isC hC hk1 hP1 hlen hw' hadr
  exact kk H1 locs1 hP' hD' hS1
theorem k_callVv {l : Launch} {y : MethodName} {bytes : ByteArray} {maxL nL n index : Nat} {ret : Option FieldType} {wsy Ts : List Cond} {rm : Room} {own : String} {As st0 : List Value} {lv : List (Nat × Value)} {ws wc w1 ws' : va_W} {C : String} {b : Nat} (hx : p.tables.exec = Jvm.exec) (hb : c.code = cc) (hml : c.maxLocals = nL) (hown : s.vm.findClass own = some m.cls) (hts : ∀ w ∈ Ts, w.before args s = true)
    (hK : va_K (dC, dI) vwCl (tyA kc) s) (hP : va_P (dC, dI) vwCl ws H) (hD : va_D A ws) (hS : va_S A s.heap H locs) (hA : ∀ q : Nat, s.heap.size ≤ q → A q)
    (hM : ∀ sz : Nat, Met l y wsy rm (kPc dC dI kc (.ref b :: As) wc sz) (kQv dC dI w1 (va_A wc sz)) 0 0 (va_A wc sz)) (cw : CallW R s args own C index y bytes maxL ret wsy rm 0 0 n)
    (isC : List Nat) (hC : isC.map (fun i => ws[i]?) = wc.map some) (hnd : va_nd isC = true) (ci : Nat) {q : vw_C} {fs : List Value} (hq1 : vwCl[ci]? = some q) (hq2 : wc[0]? = some (b, .inr (ci, fs))) (hq3 : q.1 = C) (hn : As.length = n) (hl : lv_has ls nL lv) (hst0 : st0 = As.reverse ++ .ref b :: rest) (hst : (rest.map fun v => v.category).sum ≤ 8) (hdg : decode cc pc = .ok (.invokevirtual index, 3)) (hf : cells ≤ R.cells ∧ slots ≤ R.slots)
    (hlen : isC.length = w1.length) (hw' : repl ws isC w1 = ws') (hadr : ws'.map Prod.fst = ws.map Prod.fst)
    (kk : ∀ (H1 : Heap) (locs1 : List Loc), va_P (dC, dI) vwCl ws' H1 → va_D A ws' → va_S A s.heap H1 locs1 → W p l e R s m args below meth c H1 locs1 cells slots Q (F0 m (pc + 3) ls rest)) : W p l e R s m args below meth c H locs cells slots Q (F0 m pc ls st0) := by
  have hPc := k_sub hP isC hC
  have hDc := hD.sub isC hnd hC
  have hFc := va_free (wc := wc) hD hS hA isC hC
  subst hq3
  refine va_callv (va_runV (As := As) (rest := rest) ⟨hx, hb, hml, hown, hts⟩ (hM H.size) cw ⟨kPc_fb, va_recv hK hPc hq1 hq2, fun U hU hW => ⟨rfl, by rw [hU], by rw [hU]; exact hPc, va_K.moved hW.alike hK, hDc.weaken (fun _ _ _ _ => trivial)⟩⟩ rfl hn hl.1 hst0 (lv_room hst) hdg hf) hS (fun q _ h => hFc q h) hFc (fun u t H1 locs1 ht hvm hw hB hz1 hk1 hS1 => ?_)
  have hP1 : va_P (dC, dI) vwCl w1 H1 := by rw [← ht]; exact hB
  obtain ⟨hP', hD'⟩ := k_join hP hD isC hC hk1 hP1 hlen hw' hadr
  exact kk H1 locs1 hP' hD' hS1
theorem k_callVr {l : Launch} {y : MethodName} {bytes : ByteArray} {maxL nL n index : Nat} {ret : Option FieldType} {wsy Ts : List Cond} {rm : Room} {own : String} {As st0 : List Value} {lv : List (Nat × Value)} {ws wc w1 ws' : va_W} {C : String} {b : Nat} {r : Nat} (hx : p.tables.exec = Jvm.exec) (hb : c.code = cc) (hml : c.maxLocals = nL) (hown : s.vm.findClass own = some m.cls) (hts : ∀ w ∈ Ts, w.before args s = true)
    (hK : va_K (dC, dI) vwCl (tyA kc) s) (hP : va_P (dC, dI) vwCl ws H) (hD : va_D A ws) (hS : va_S A s.heap H locs) (hA : ∀ q : Nat, s.heap.size ≤ q → A q)
    (hM : ∀ sz : Nat, Met l y wsy rm (kPc dC dI kc (.ref b :: As) wc sz) (kQr dC dI r w1 (va_A wc sz)) 0 0 (va_A wc sz)) (cw : CallW R s args own C index y bytes maxL ret wsy rm 0 0 n)
    (isC : List Nat) (hC : isC.map (fun i => ws[i]?) = wc.map some) (hnd : va_nd isC = true) (ci : Nat) {q : vw_C} {fs : List Value} (hq1 : vwCl[ci]? = some q) (hq2 : wc[0]? = some (b, .inr (ci, fs))) (hq3 : q.1 = C) (hn : As.length = n) (hl : lv_has ls nL lv) (hst0 : st0 = As.reverse ++ .ref b :: rest) (hst : (rest.map fun v => v.category).sum ≤ 8) (hdg : decode cc pc = .ok (.invokevirtual index, 3)) (hf : cells ≤ R.cells ∧ slots ≤ R.slots)
    (hlen : isC.length = w1.length) (hw' : repl ws isC w1 = ws') (hadr : ws'.map Prod.fst = ws.map Prod.fst)
    (kk : ∀ (H1 : Heap) (locs1 : List Loc), va_P (dC, dI) vwCl ws' H1 → va_D A ws' → va_S A s.heap H1 locs1 → W p l e R s m args below meth c H1 locs1 cells slots Q (F0 m (pc + 3) ls (.ref r :: rest))) : W p l e R s m args below meth c H locs cells slots Q (F0 m pc ls st0) := by
  have hPc := k_sub hP isC hC
  have hDc := hD.sub isC hnd hC
  have hFc := va_free (wc := wc) hD hS hA isC hC
  subst hq3
  refine va_callr (va_runV (As := As) (rest := rest) ⟨hx, hb, hml, hown, hts⟩ (hM H.size) cw ⟨kPc_fb, va_recv hK hPc hq1 hq2, fun U hU hW => ⟨rfl, by rw [hU], by rw [hU]; exact hPc, va_K.moved hW.alike hK, hDc.weaken (fun _ _ _ _ => trivial)⟩⟩ rfl hn hl.1 hst0 (lv_room hst) hdg hf) hS (fun q _ h => hFc q h) hFc (fun u r' t H1 locs1 ht hvm hw hB hz1 hk1 hS1 => ?_)
  obtain ⟨hw2, hB⟩ := hB
  subst hw2
  have hP1 : va_P (dC, dI) vwCl w1 H1 := by rw [← ht]; exact hB
  obtain ⟨hP', hD'⟩ := k_join hP hD isC hC hk1 hP1 hlen hw' hadr
  exact kk H1 locs1 hP' hD' hS1
theorem k_callSi {l : Launch} {y : MethodName} {bytes : ByteArray} {maxL nL n index : Nat} {ret : Option FieldType} {wsy Ts : List Cond} {rm : Room} {own : String} {As st0 : List Value} {lv : List (Nat × Value)} {ws wc w1 ws' : va_W} {r : Int32} (hx : p.tables.exec = Jvm.exec) (hb : c.code = cc) (hml : c.maxLocals = nL) (hown : s.vm.findClass own = some m.cls) (hts : ∀ w ∈ Ts, w.before args s = true)
    (hK : va_K (dC, dI) vwCl (tyA kc) s) (hP : va_P (dC, dI) vwCl ws H) (hD : va_D A ws) (hS : va_S A s.heap H locs) (hA : ∀ q : Nat, s.heap.size ≤ q → A q)
    (hM : ∀ sz : Nat, Met l y wsy rm (kPc dC dI kc As wc sz) (kQi dC dI r w1 (va_A wc sz)) 0 0 (va_A wc sz)) (cw : CallB R s args own index y bytes maxL ret wsy rm 0 0 n ∧ (Cond.static y).before args s = true)
    (isC : List Nat) (hC : isC.map (fun i => ws[i]?) = wc.map some) (hnd : va_nd isC = true) (hn : As.length = n) (hl : lv_has ls nL lv) (hst0 : st0 = As.reverse ++ rest) (hst : (rest.map fun v => v.category).sum ≤ 8) (hdg : decode cc pc = .ok (.invokestatic index, 3)) (hf : cells ≤ R.cells ∧ slots ≤ R.slots)
    (hlen : isC.length = w1.length) (hw' : repl ws isC w1 = ws') (hadr : ws'.map Prod.fst = ws.map Prod.fst)
    (kk : ∀ (H1 : Heap) (locs1 : List Loc), va_P (dC, dI) vwCl ws' H1 → va_D A ws' → va_S A s.heap H1 locs1 → W p l e R s m args below meth c H1 locs1 cells slots Q (F0 m (pc + 3) ls (.int r :: rest))) : W p l e R s m args below meth c H locs cells slots Q (F0 m pc ls st0) := by
  have hPc := k_sub hP isC hC
  have hDc := hD.sub isC hnd hC
  have hFc := va_free (wc := wc) hD hS hA isC hC

  refine va_calli (va_runS (As := As) (rest := rest) ⟨hx, hb, hml, hown, hts⟩ (hM H.size) cw ⟨kPc_fb, fun U hU hW => ⟨rfl, by rw [hU], by rw [hU]; exact hPc, va_K.moved hW.alike hK, hDc.weaken (fun _ _ _ _ => trivial)⟩⟩ rfl hn hl.1 hst0 (lv_room hst) hdg hf) hS (fun q _ h => hFc q h) hFc (fun r' u t H1 locs1 ht hvm hw hB hz1 hk1 hS1 => ?_)
  subst hw
  have hP1 : va_P (dC, dI) vwCl w1 H1 := by rw [← ht]; exact hB
  obtain ⟨hP', hD'⟩ := k_join hP hD isC hC hk1 hP1 hlen hw' hadr
  exact kk H1 locs1 hP' hD' hS1
theorem k_callSl {l : Launch} {y : MethodName} {bytes : ByteArray} {maxL nL n index : Nat} {ret : Option FieldType} {wsy Ts : List Cond} {rm : Room} {own : String} {As st0 : List Value} {lv : List (Nat × Value)} {ws wc w1 ws' : va_W} {r : Int64} (hx : p.tables.exec = Jvm.exec) (hb : c.code = cc) (hml : c.maxLocals = nL) (hown : s.vm.findClass own = some m.cls) (hts : ∀ w ∈ Ts, w.before args s = true)
    (hK : va_K (dC, dI) vwCl (tyA kc) s) (hP : va_P (dC, dI) vwCl ws H) (hD : va_D A ws) (hS : va_S A s.heap H locs) (hA : ∀ q : Nat, s.heap.size ≤ q → A q)
    (hM : ∀ sz : Nat, Met l y wsy rm (kPc dC dI kc As wc sz) (kQl dC dI r w1 (va_A wc sz)) 0 0 (va_A wc sz)) (cw : CallB R s args own index y bytes maxL ret wsy rm 0 0 n ∧ (Cond.static y).before args s = true)
    (isC : List Nat) (hC : isC.map (fun i => ws[i]?) = wc.map some) (hnd : va_nd isC = true) (hn : As.length = n) (hl : lv_has ls nL lv) (hst0 : st0 = As.reverse ++ rest) (hst : (rest.map fun v => v.category).sum ≤ 8) (hdg : decode cc pc = .ok (.invokestatic index, 3)) (hf : cells ≤ R.cells ∧ slots ≤ R.slots)
    (hlen : isC.length = w1.length) (hw' : repl ws isC w1 = ws') (hadr : ws'.map Prod.fst = ws.map Prod.fst)
    (kk : ∀ (H1 : Heap) (locs1 : List Loc), va_P (dC, dI) vwCl ws' H1 → va_D A ws' → va_S A s.heap H1 locs1 → W p l e R s m args below meth c H1 locs1 cells slots Q (F0 m (pc + 3) ls (.long r :: rest))) : W p l e R s m args below meth c H locs cells slots Q (F0 m pc ls st0) := by
  have hPc := k_sub hP isC hC
  have hDc := hD.sub isC hnd hC
  have hFc := va_free (wc := wc) hD hS hA isC hC

  refine va_calll (va_runS (As := As) (rest := rest) ⟨hx, hb, hml, hown, hts⟩ (hM H.size) cw ⟨kPc_fb, fun U hU hW => ⟨rfl, by rw [hU], by rw [hU]; exact hPc, va_K.moved hW.alike hK, hDc.weaken (fun _ _ _ _ => trivial)⟩⟩ rfl hn hl.1 hst0 (lv_room hst) hdg hf) hS (fun q _ h => hFc q h) hFc (fun r' u t H1 locs1 ht hvm hw hB hz1 hk1 hS1 => ?_)
  subst hw
  have hP1 : va_P (dC, dI) vwCl w1 H1 := by rw [← ht]; exact hB
  obtain ⟨hP', hD'⟩ := k_join hP hD isC hC hk1 hP1 hlen hw' hadr
  exact kk H1 locs1 hP' hD' hS1
theorem k_callSv {l : Launch} {y : MethodName} {bytes : ByteArray} {maxL nL n index : Nat} {ret : Option FieldType} {wsy Ts : List Cond} {rm : Room} {own : String} {As st0 : List Value} {lv : List (Nat × Value)} {ws wc w1 ws' : va_W} (hx : p.tables.exec = Jvm.exec) (hb : c.code = cc) (hml : c.maxLocals = nL) (hown : s.vm.findClass own = some m.cls) (hts : ∀ w ∈ Ts, w.before args s = true)
    (hK : va_K (dC, dI) vwCl (tyA kc) s) (hP : va_P (dC, dI) vwCl ws H) (hD : va_D A ws) (hS : va_S A s.heap H locs) (hA : ∀ q : Nat, s.heap.size ≤ q → A q)
    (hM : ∀ sz : Nat, Met l y wsy rm (kPc dC dI kc As wc sz) (kQv dC dI w1 (va_A wc sz)) 0 0 (va_A wc sz)) (cw : CallB R s args own index y bytes maxL ret wsy rm 0 0 n ∧ (Cond.static y).before args s = true)
    (isC : List Nat) (hC : isC.map (fun i => ws[i]?) = wc.map some) (hnd : va_nd isC = true) (hn : As.length = n) (hl : lv_has ls nL lv) (hst0 : st0 = As.reverse ++ rest) (hst : (rest.map fun v => v.category).sum ≤ 8) (hdg : decode cc pc = .ok (.invokestatic index, 3)) (hf : cells ≤ R.cells ∧ slots ≤ R.slots)
    (hlen : isC.length = w1.length) (hw' : repl ws isC w1 = ws') (hadr : ws'.map Prod.fst = ws.map Prod.fst)
    (kk : ∀ (H1 : Heap) (locs1 : List Loc), va_P (dC, dI) vwCl ws' H1 → va_D A ws' → va_S A s.heap H1 locs1 → W p l e R s m args below meth c H1 locs1 cells slots Q (F0 m (pc + 3) ls rest)) : W p l e R s m args below meth c H locs cells slots Q (F0 m pc ls st0) := by
  have hPc := k_sub hP isC hC
  have hDc := hD.sub isC hnd hC
  have hFc := va_free (wc := wc) hD hS hA isC hC

  refine va_callv (va_runS (As := As) (rest := rest) ⟨hx, hb, hml, hown, hts⟩ (hM H.size) cw ⟨kPc_fb, fun U hU hW => ⟨rfl, by rw [hU], by rw [hU]; exact hPc, va_K.moved hW.alike hK, hDc.weaken (fun _ _ _ _ => trivial)⟩⟩ rfl hn hl.1 hst0 (lv_room hst) hdg hf) hS (fun q _ h => hFc q h) hFc (fun u t H1 locs1 ht hvm hw hB hz1 hk1 hS1 => ?_)
  have hP1 : va_P (dC, dI) vwCl w1 H1 := by rw [← ht]; exact hB
  obtain ⟨hP', hD'⟩ := k_join hP hD isC hC hk1 hP1 hlen hw' hadr
  exact kk H1 locs1 hP' hD' hS1
theorem k_callSr {l : Launch} {y : MethodName} {bytes : ByteArray} {maxL nL n index : Nat} {ret : Option FieldType} {wsy Ts : List Cond} {rm : Room} {own : String} {As st0 : List Value} {lv : List (Nat × Value)} {ws wc w1 ws' : va_W} {r : Nat} (hx : p.tables.exec = Jvm.exec) (hb : c.code = cc) (hml : c.maxLocals = nL) (hown : s.vm.findClass own = some m.cls) (hts : ∀ w ∈ Ts, w.before args s = true)
    (hK : va_K (dC, dI) vwCl (tyA kc) s) (hP : va_P (dC, dI) vwCl ws H) (hD : va_D A ws) (hS : va_S A s.heap H locs) (hA : ∀ q : Nat, s.heap.size ≤ q → A q)
    (hM : ∀ sz : Nat, Met l y wsy rm (kPc dC dI kc As wc sz) (kQr dC dI r w1 (va_A wc sz)) 0 0 (va_A wc sz)) (cw : CallB R s args own index y bytes maxL ret wsy rm 0 0 n ∧ (Cond.static y).before args s = true)
    (isC : List Nat) (hC : isC.map (fun i => ws[i]?) = wc.map some) (hnd : va_nd isC = true) (hn : As.length = n) (hl : lv_has ls nL lv) (hst0 : st0 = As.reverse ++ rest) (hst : (rest.map fun v => v.category).sum ≤ 8) (hdg : decode cc pc = .ok (.invokestatic index, 3)) (hf : cells ≤ R.cells ∧ slots ≤ R.slots)
    (hlen : isC.length = w1.length) (hw' : repl ws isC w1 = ws') (hadr : ws'.map Prod.fst = ws.map Prod.fst)
    (kk : ∀ (H1 : Heap) (locs1 : List Loc), va_P (dC, dI) vwCl ws' H1 → va_D A ws' → va_S A s.heap H1 locs1 → W p l e R s m args below meth c H1 locs1 cells slots Q (F0 m (pc + 3) ls (.ref r :: rest))) : W p l e R s m args below meth c H locs cells slots Q (F0 m pc ls st0) := by
  have hPc := k_sub hP isC hC
  have hDc := hD.sub isC hnd hC
  have hFc := va_free (wc := wc) hD hS hA isC hC

  refine va_callr (va_runS (As := As) (rest := rest) ⟨hx, hb, hml, hown, hts⟩ (hM H.size) cw ⟨kPc_fb, fun U hU hW => ⟨rfl, by rw [hU], by rw [hU]; exact hPc, va_K.moved hW.alike hK, hDc.weaken (fun _ _ _ _ => trivial)⟩⟩ rfl hn hl.1 hst0 (lv_room hst) hdg hf) hS (fun q _ h => hFc q h) hFc (fun u r' t H1 locs1 ht hvm hw hB hz1 hk1 hS1 => ?_)
  obtain ⟨hw2, hB⟩ := hB
  subst hw2
  have hP1 : va_P (dC, dI) vwCl w1 H1 := by rw [← ht]; exact hB
  obtain ⟨hP', hD'⟩ := k_join hP hD isC hC hk1 hP1 hlen hw' hadr
  exact kk H1 locs1 hP' hD' hS1
theorem k_callGVi {l : Launch} {y : MethodName} {bytes : ByteArray} {maxL nL n index : Nat} {ret : Option FieldType} {wsy Ts : List Cond} {rm : Room} {own : String} {As st0 : List Value} {lv : List (Nat × Value)} {Gs wcs w1s Gs' : List va_W} {C : String} {b : Nat} {r : Int32} (hx : p.tables.exec = Jvm.exec) (hb : c.code = cc) (hml : c.maxLocals = nL) (hown : s.vm.findClass own = some m.cls) (hts : ∀ w ∈ Ts, w.before args s = true)
    (hK : va_K (dC, dI) vwCl (tyA kc) s) (hP : va_P (dC, dI) vwCl (fl Gs) H) (hD : va_D A (fl Gs)) (hS : va_S A s.heap H locs) (hA : ∀ q : Nat, s.heap.size ≤ q → A q)
    (hM : ∀ sz : Nat, Met l y wsy rm (kPc dC dI kc (.ref b :: As) (fl wcs) sz) (kQi dC dI r (fl w1s) (va_A (fl wcs) sz)) 0 0 (va_A (fl wcs) sz)) (cw : CallW R s args own C index y bytes maxL ret wsy rm 0 0 n)
    (isC : List Nat) (hC : isC.map (fun i => Gs[i]?) = wcs.map some) (hnd : va_nd isC = true) (ci : Nat) {q : vw_C} {fs : List Value} (hq1 : vwCl[ci]? = some q) (hq2 : (fl wcs)[0]? = some (b, .inr (ci, fs))) (hq3 : q.1 = C) (hn : As.length = n) (hl : lv_has ls nL lv) (hst0 : st0 = As.reverse ++ .ref b :: rest) (hst : (rest.map fun v => v.category).sum ≤ 8) (hdg : decode cc pc = .ok (.invokevirtual index, 3)) (hf : cells ≤ R.cells ∧ slots ≤ R.slots)
    (hlen : isC.length = w1s.length) (hw' : repl Gs isC w1s = Gs') (hadr : Gs'.map (fun G => G.map Prod.fst) = Gs.map (fun G => G.map Prod.fst))
    (kk : ∀ (H1 : Heap) (locs1 : List Loc), va_P (dC, dI) vwCl (fl Gs') H1 → va_D A (fl Gs') → va_S A s.heap H1 locs1 → W p l e R s m args below meth c H1 locs1 cells slots Q (F0 m (pc + 3) ls (.int r :: rest))) : W p l e R s m args below meth c H locs cells slots Q (F0 m pc ls st0) := by
  have hPc := sel_P hP isC hC
  have hDc := sel_D hD isC hnd hC
  have hFc := sel_F hD hS hA isC hC
  subst hq3
  refine va_calli (va_runV (As := As) (rest := rest) ⟨hx, hb, hml, hown, hts⟩ (hM H.size) cw ⟨kPc_fb, va_recv hK hPc hq1 hq2, fun U hU hW => ⟨rfl, by rw [hU], by rw [hU]; exact hPc, va_K.moved hW.alike hK, hDc.weaken (fun _ _ _ _ => trivial)⟩⟩ rfl hn hl.1 hst0 (lv_room hst) hdg hf) hS (fun q _ h => hFc q h) hFc (fun r' u t H1 locs1 ht hvm hw hB hz1 hk1 hS1 => ?_)
  subst hw
  have hP1 : va_P (dC, dI) vwCl (fl w1s) H1 := by rw [← ht]; exact hB
  obtain ⟨hP', hD'⟩ := k_joinG hP hD isC hC hk1 hP1 hlen hw' hadr
  exact kk H1 locs1 hP' hD' hS1
theorem k_callGVl {l : Launch} {y : MethodName} {bytes : ByteArray} {maxL nL n index : Nat} {ret : Option FieldType} {wsy Ts : List Cond} {rm : Room} {own : String} {As st0 : List Value} {lv : List (Nat × Value)} {Gs wcs w1s Gs' : List va_W} {C : String} {b : Nat} {r : Int64} (hx : p.tables.exec = Jvm.exec) (hb : c.code = cc) (hml : c.maxLocals = nL) (hown : s.vm.findClass own = some m.cls) (hts : ∀ w ∈ Ts, w.before args s = true)
    (hK : va_K (dC, dI) vwCl (tyA kc) s) (hP : va_P (dC, dI) vwCl (fl Gs) H) (hD : va_D A (fl Gs)) (hS : va_S A s.heap H locs) (hA : ∀ q : Nat, s.heap.size ≤ q → A q)
    (hM : ∀ sz : Nat, Met l y wsy rm (kPc dC dI kc (.ref b :: As) (fl wcs) sz) (kQl dC dI r (fl w1s) (va_A (fl wcs) sz)) 0 0 (va_A (fl wcs) sz)) (cw : CallW R s args own C index y bytes maxL ret wsy rm 0 0 n)
    (isC : List Nat) (hC : isC.map (fun i => Gs[i]?) = wcs.map some) (hnd : va_nd isC = true) (ci : Nat) {q : vw_C} {fs : List Value} (hq1 : vwCl[ci]? = some q) (hq2 : (fl wcs)[0]? = some (b, .inr (ci, fs))) (hq3 : q.1 = C) (hn : As.length = n) (hl : lv_has ls nL lv) (hst0 : st0 = As.reverse ++ .ref b :: rest) (hst : (rest.map fun v => v.category).sum ≤ 8) (hdg : decode cc pc = .ok (.invokevirtual index, 3)) (hf : cells ≤ R.cells ∧ slots ≤ R.slots)
    (hlen : isC.length = w1s.length) (hw' : repl Gs isC w1s = Gs') (hadr : Gs'.map (fun G => G.map Prod.fst) = Gs.map (fun G => G.map Prod.fst))
    (kk : ∀ (H1 : Heap) (locs1 : List Loc), va_P (dC, dI) vwCl (fl Gs') H1 → va_D A (fl Gs') → va_S A s.heap H1 locs1 → W p l e R s m args below meth c H1 locs1 cells slots Q (F0 m (pc + 3) ls (.long r :: rest))) : W p l e R s m args below meth c H locs cells slots Q (F0 m pc ls st0) := by
  have hPc := sel_P hP isC hC
  have hDc := sel_D hD isC hnd hC
  have hFc := sel_F hD hS hA isC hC
  subst hq3
  refine va_calll (va_runV (As := As) (rest := rest) ⟨hx, hb, hml, hown, hts⟩ (hM H.size) cw ⟨kPc_fb, va_recv hK hPc hq1 hq2, fun U hU hW => ⟨rfl, by rw [hU], by rw [hU]; exact hPc, va_K.moved hW.alike hK, hDc.weaken (fun _ _ _ _ => trivial)⟩⟩ rfl hn hl.1 hst0 (lv_room hst) hdg hf) hS (fun q _ h => hFc q h) hFc (fun r' u t H1 locs1 ht hvm hw hB hz1 hk1 hS1 => ?_)
  subst hw
  have hP1 : va_P (dC, dI) vwCl (fl w1s) H1 := by rw [← ht]; exact hB
  obtain ⟨hP', hD'⟩ := k_joinG hP hD isC hC hk1 hP1 hlen hw' hadr
  exact kk H1 locs1 hP' hD' hS1
theorem k_callGVv {l : Launch} {y : MethodName} {bytes : ByteArray} {maxL nL n index : Nat} {ret : Option FieldType} {wsy Ts : List Cond} {rm : Room} {own : String} {As st0 : List Value} {lv : List (Nat × Value)} {Gs wcs w1s Gs' : List va_W} {C : String} {b : Nat} (hx : p.tables.exec = Jvm.exec) (hb : c.code = cc) (hml : c.maxLocals = nL) (hown : s.vm.findClass own = some m.cls) (hts : ∀ w ∈ Ts, w.before args s = true)
    (hK : va_K (dC, dI) vwCl (tyA kc) s) (hP : va_P (dC, dI) vwCl (fl Gs) H) (hD : va_D A (fl Gs)) (hS : va_S A s.heap H locs) (hA : ∀ q : Nat, s.heap.size ≤ q → A q)
    (hM : ∀ sz : Nat, Met l y wsy rm (kPc dC dI kc (.ref b :: As) (fl wcs) sz) (kQv dC dI (fl w1s) (va_A (fl wcs) sz)) 0 0 (va_A (fl wcs) sz)) (cw : CallW R s args own C index y bytes maxL ret wsy rm 0 0 n)
    (isC : List Nat) (hC : isC.map (fun i => Gs[i]?) = wcs.map some) (hnd : va_nd isC = true) (ci : Nat) {q : vw_C} {fs : List Value} (hq1 : vwCl[ci]? = some q) (hq2 : (fl wcs)[0]? = some (b, .inr (ci, fs))) (hq3 : q.1 = C) (hn : As.length = n) (hl : lv_has ls nL lv) (hst0 : st0 = As.reverse ++ .ref b :: rest) (hst : (rest.map fun v => v.category).sum ≤ 8) (hdg : decode cc pc = .ok (.invokevirtual index, 3)) (hf : cells ≤ R.cells ∧ slots ≤ R.slots)
    (hlen : isC.length = w1s.length) (hw' : repl Gs isC w1s = Gs') (hadr : Gs'.map (fun G => G.map Prod.fst) = Gs.map (fun G => G.map Prod.fst))
    (kk : ∀ (H1 : Heap) (locs1 : List Loc), va_P (dC, dI) vwCl (fl Gs') H1 → va_D A (fl Gs') → va_S A s.heap H1 locs1 → W p l e R s m args below meth c H1 locs1 cells slots Q (F0 m (pc + 3) ls rest)) : W p l e R s m args below meth c H locs cells slots Q (F0 m pc ls st0) := by
  have hPc := sel_P hP isC hC
  have hDc := sel_D hD isC hnd hC
  have hFc := sel_F hD hS hA isC hC
  subst hq3
  refine va_callv (va_runV (As := As) (rest := rest) ⟨hx, hb, hml, hown, hts⟩ (hM H.size) cw ⟨kPc_fb, va_recv hK hPc hq1 hq2, fun U hU hW => ⟨rfl, by rw [hU], by rw [hU]; exact hPc, va_K.moved hW.alike hK, hDc.weaken (fun _ _ _ _ => trivial)⟩⟩ rfl hn hl.1 hst0 (lv_room hst) hdg hf) hS (fun q _ h => hFc q h) hFc (fun u t H1 locs1 ht hvm hw hB hz1 hk1 hS1 => ?_)
  have hP1 : va_P (dC, dI) vwCl (fl w1s) H1 := by rw [← ht]; exact hB
  obtain ⟨hP', hD'⟩ := k_joinG hP hD isC hC hk1 hP1 hlen hw' hadr
  exact kk H1 locs1 hP' hD' hS1
theorem k_callGVr {l : Launch} {y : MethodName} {bytes : ByteArray} {maxL nL n index : Nat} {ret : Option FieldType} {wsy Ts : List Cond} {rm : Room} {own : String} {As st0 : List Value} {lv : List (Nat × Value)} {Gs wcs w1s Gs' : List va_W} {C : String} {b : Nat} {r : Nat} (hx : p.tables.exec = Jvm.exec) (hb : c.code = cc) (hml : c.maxLocals = nL) (hown : s.vm.findClass own = some m.cls) (hts : ∀ w ∈ Ts, w.before args s = true)
    (hK : va_K (dC, dI) vwCl (tyA kc) s) (hP : va_P (dC, dI) vwCl (fl Gs) H) (hD : va_D A (fl Gs)) (hS : va_S A s.heap H locs) (hA : ∀ q : Nat, s.heap.size ≤ q → A q)
    (hM : ∀ sz : Nat, Met l y wsy rm (kPc dC dI kc (.ref b :: As) (fl wcs) sz) (kQr dC dI r (fl w1s) (va_A (fl wcs) sz)) 0 0 (va_A (fl wcs) sz)) (cw : CallW R s args own C index y bytes maxL ret wsy rm 0 0 n)
    (isC : List Nat) (hC : isC.map (fun i => Gs[i]?) = wcs.map some) (hnd : va_nd isC = true) (ci : Nat) {q : vw_C} {fs : List Value} (hq1 : vwCl[ci]? = some q) (hq2 : (fl wcs)[0]? = some (b, .inr (ci, fs))) (hq3 : q.1 = C) (hn : As.length = n) (hl : lv_has ls nL lv) (hst0 : st0 = As.reverse ++ .ref b :: rest) (hst : (rest.map fun v => v.category).sum ≤ 8) (hdg : decode cc pc = .ok (.invokevirtual index, 3)) (hf : cells ≤ R.cells ∧ slots ≤ R.slots)
    (hlen : isC.length = w1s.length) (hw' : repl Gs isC w1s = Gs') (hadr : Gs'.map (fun G => G.map Prod.fst) = Gs.map (fun G => G.map Prod.fst))
    (kk : ∀ (H1 : Heap) (locs1 : List Loc), va_P (dC, dI) vwCl (fl Gs') H1 → va_D A (fl Gs') → va_S A s.heap H1 locs1 → W p l e R s m args below meth c H1 locs1 cells slots Q (F0 m (pc + 3) ls (.ref r :: rest))) : W p l e R s m args below meth c H locs cells slots Q (F0 m pc ls st0) := by
  have hPc := sel_P hP isC hC
  have hDc := sel_D hD isC hnd hC
  have hFc := sel_F hD hS hA isC hC
  subst hq3
  refine va_callr (va_runV (As := As) (rest := rest) ⟨hx, hb, hml, hown, hts⟩ (hM H.size) cw ⟨kPc_fb, va_recv hK hPc hq1 hq2, fun U hU hW => ⟨rfl, by rw [hU], by rw [hU]; exact hPc, va_K.moved hW.alike hK, hDc.weaken (fun _ _ _ _ => trivial)⟩⟩ rfl hn hl.1 hst0 (lv_room hst) hdg hf) hS (fun q _ h => hFc q h) hFc (fun u r' t H1 locs1 ht hvm hw hB hz1 hk1 hS1 => ?_)
  obtain ⟨hw2, hB⟩ := hB
  subst hw2
  have hP1 : va_P (dC, dI) vwCl (fl w1s) H1 := by rw [← ht]; exact hB
  obtain ⟨hP', hD'⟩ := k_joinG hP hD isC hC hk1 hP1 hlen hw' hadr
  exact kk H1 locs1 hP' hD' hS1
theorem k_callGSi {l : Launch} {y : MethodName} {bytes : ByteArray} {maxL nL n index : Nat} {ret : Option FieldType} {wsy Ts : List Cond} {rm : Room} {own : String} {As st0 : List Value} {lv : List (Nat × Value)} {Gs wcs w1s Gs' : List va_W} {r : Int32} (hx : p.tables.exec = Jvm.exec) (hb : c.code = cc) (hml : c.maxLocals = nL) (hown : s.vm.findClass own = some m.cls) (hts : ∀ w ∈ Ts, w.before args s = true)
    (hK : va_K (dC, dI) vwCl (tyA kc) s) (hP : va_P (dC, dI) vwCl (fl Gs) H) (hD : va_D A (fl Gs)) (hS : va_S A s.heap H locs) (hA : ∀ q : Nat, s.heap.size ≤ q → A q)
    (hM : ∀ sz : Nat, Met l y wsy rm (kPc dC dI kc As (fl wcs) sz) (kQi dC dI r (fl w1s) (va_A (fl wcs) sz)) 0 0 (va_A (fl wcs) sz)) (cw : CallB R s args own index y bytes maxL ret wsy rm 0 0 n ∧ (Cond.static y).before args s = true)
    (isC : List Nat) (hC : isC.map (fun i => Gs[i]?) = wcs.map some) (hnd : va_nd isC = true) (hn : As.length = n) (hl : lv_has ls nL lv) (hst0 : st0 = As.reverse ++ rest) (hst : (rest.map fun v => v.category).sum ≤ 8) (hdg : decode cc pc = .ok (.invokestatic index, 3)) (hf : cells ≤ R.cells ∧ slots ≤ R.slots)
    (hlen : isC.length = w1s.length) (hw' : repl Gs isC w1s = Gs') (hadr : Gs'.map (fun G => G.map Prod.fst) = Gs.map (fun G => G.map Prod.fst))
    (kk : ∀ (H1 : Heap) (locs1 : List Loc), va_P (dC, dI) vwCl (fl Gs') H1 → va_D A (fl Gs') → va_S A s.heap H1 locs1 → W p l e R s m args below meth c H1 locs1 cells slots Q (F0 m (pc + 3) ls (.int r :: rest))) : W p l e R s m args below meth c H locs cells slots Q (F0 m pc ls st0) := by
  have hPc := sel_P hP isC hC
  have hDc := sel_D hD isC hnd hC
  have hFc := sel_F hD hS hA isC hC

  refine va_calli (va_runS (As := As) (rest := rest) ⟨hx, hb, hml, hown, hts⟩ (hM H.size) cw ⟨kPc_fb, fun U hU hW => ⟨rfl, by rw [hU], by rw [hU]; exact hPc, va_K.moved hW.alike hK, hDc.weaken (fun _ _ _ _ => trivial)⟩⟩ rfl hn hl.1 hst0 (lv_room hst) hdg hf) hS (fun q _ h => hFc q h) hFc (fun r' u t H1 locs1 ht hvm hw hB hz1 hk1 hS1 => ?_)
  subst hw
  have hP1 : va_P (dC, dI) vwCl (fl w1s) H1 := by rw [← ht]; exact hB
  obtain ⟨hP', hD'⟩ := k_joinG hP hD isC hC hk1 hP1 hlen hw' hadr
  exact kk H1 locs1 hP' hD' hS1
theorem k_callGSl {l : Launch} {y : MethodName} {bytes : ByteArray} {maxL nL n index : Nat} {ret : Option FieldType} {wsy Ts : List Cond} {rm : Room} {own : String} {As st0 : List Value} {lv : List (Nat × Value)} {Gs wcs w1s Gs' : List va_W} {r : Int64} (hx : p.tables.exec = Jvm.exec) (hb : c.code = cc) (hml : c.maxLocals = nL) (hown : s.vm.findClass own = some m.cls) (hts : ∀ w ∈ Ts, w.before args s = true)
    (hK : va_K (dC, dI) vwCl (tyA kc) s) (hP : va_P (dC, dI) vwCl (fl Gs) H) (hD : va_D A (fl Gs)) (hS : va_S A s.heap H locs) (hA : ∀ q : Nat, s.heap.size ≤ q → A q)
    (hM : ∀ sz : Nat, Met l y wsy rm (kPc dC dI kc As (fl wcs) sz) (kQl dC dI r (fl w1s) (va_A (fl wcs) sz)) 0 0 (va_A (fl wcs) sz)) (cw : CallB R s args own index y bytes maxL ret wsy rm 0 0 n ∧ (Cond.static y).before args s = true)
    (isC : List Nat) (hC : isC.map (fun i => Gs[i]?) = wcs.map some) (hnd : va_nd isC = true) (hn : As.length = n) (hl : lv_has ls nL lv) (hst0 : st0 = As.reverse ++ rest) (hst : (rest.map fun v => v.category).sum ≤ 8) (hdg : decode cc pc = .ok (.invokestatic index, 3)) (hf : cells ≤ R.cells ∧ slots ≤ R.slots)
    (hlen : isC.length = w1s.length) (hw' : repl Gs isC w1s = Gs') (hadr : Gs'.map (fun G => G.map Prod.fst) = Gs.map (fun G => G.map Prod.fst))
    (kk : ∀ (H1 : Heap) (locs1 : List Loc), va_P (dC, dI) vwCl (fl Gs') H1 → va_D A (fl Gs') → va_S A s.heap H1 locs1 → W p l e R s m args below meth c H1 locs1 cells slots Q (F0 m (pc + 3) ls (.long r :: rest))) : W p l e R s m args below meth c H locs cells slots Q (F0 m pc ls st0) := by
  have hPc := sel_P hP isC hC
  have hDc := sel_D hD isC hnd hC
  have hFc := sel_F hD hS hA isC hC

  refine va_calll (va_runS (As := As) (rest := rest) ⟨hx, hb, hml, hown, hts⟩ (hM H.size) cw ⟨kPc_fb, fun U hU hW => ⟨rfl, by rw [hU], by rw [hU]; exact hPc, va_K.moved hW.alike hK, hDc.weaken (fun _ _ _ _ => trivial)⟩⟩ rfl hn hl.1 hst0 (lv_room hst) hdg hf) hS (fun q _ h => hFc q h) hFc (fun r' u t H1 locs1 ht hvm hw hB hz1 hk1 hS1 => ?_)
  subst hw
  have hP1 : va_P (dC, dI) vwCl (fl w1s) H1 := by rw [← ht]; exact hB
  obtain ⟨hP', hD'⟩ := k_joinG hP hD isC hC hk1 hP1 hlen hw' hadr
  exact kk H1 locs1 hP' hD' hS1
theorem k_callGSv {l : Launch} {y : MethodName} {bytes : ByteArray} {maxL nL n index : Nat} {ret : Option FieldType} {wsy Ts : List Cond} {rm : Room} {own : String} {As st0 : List Value} {lv : List (Nat × Value)} {Gs wcs w1s Gs' : List va_W} (hx : p.tables.exec = Jvm.exec) (hb : c.code = cc) (hml : c.maxLocals = nL) (hown : s.vm.findClass own = some m.cls) (hts : ∀ w ∈ Ts, w.before args s = true)
    (hK : va_K (dC, dI) vwCl (tyA kc) s) (hP : va_P (dC, dI) vwCl (fl Gs) H) (hD : va_D A (fl Gs)) (hS : va_S A s.heap H locs) (hA : ∀ q : Nat, s.heap.size ≤ q → A q)
    (hM : ∀ sz : Nat, Met l y wsy rm (kPc dC dI kc As (fl wcs) sz) (kQv dC dI (fl w1s) (va_A (fl wcs) sz)) 0 0 (va_A (fl wcs) sz)) (cw : CallB R s args own index y bytes maxL ret wsy rm 0 0 n ∧ (Cond.static y).before args s = true)
    (isC : List Nat) (hC : isC.map (fun i => Gs[i]?) = wcs.map some) (hnd : va_nd isC = true) (hn : As.length = n) (hl : lv_has ls nL lv) (hst0 : st0 = As.reverse ++ rest) (hst : (rest.map fun v => v.category).sum ≤ 8) (hdg : decode cc pc = .ok (.invokestatic index, 3)) (hf : cells ≤ R.cells ∧ slots ≤ R.slots)
    (hlen : isC.length = w1s.length) (hw' : repl Gs isC w1s = Gs') (hadr : Gs'.map (fun G => G.map Prod.fst) = Gs.map (fun G => G.map Prod.fst))
    (kk : ∀ (H1 : Heap) (locs1 : List Loc), va_P (dC, dI) vwCl (fl Gs') H1 → va_D A (fl Gs') → va_S A s.heap H1 locs1 → W p l e R s m args below meth c H1 locs1 cells slots Q (F0 m (pc + 3) ls rest)) : W p l e R s m args below meth c H locs cells slots Q (F0 m pc ls st0) := by
  have hPc := sel_P hP isC hC
  have hDc := sel_D hD isC hnd hC
  have hFc := sel_F hD hS hA isC hC

  refine va_callv (va_runS (As := As) (rest := rest) ⟨hx, hb, hml, hown, hts⟩ (hM H.size) cw ⟨kPc_fb, fun U hU hW => ⟨rfl, by rw [hU], by rw [hU]; exact hPc, va_K.moved hW.alike hK, hDc.weaken (fun _ _ _ _ => trivial)⟩⟩ rfl hn hl.1 hst0 (lv_room hst) hdg hf) hS (fun q _ h => hFc q h) hFc (fun u t H1 locs1 ht hvm hw hB hz1 hk1 hS1 => ?_)
  have hP1 : va_P (dC, dI) vwCl (fl w1s) H1 := by rw [← ht]; exact hB
  obtain ⟨hP', hD'⟩ := k_joinG hP hD isC hC hk1 hP1 hlen hw' hadr
  exact kk H1 locs1 hP' hD' hS1
theorem k_callGSr {l : Launch} {y : MethodName} {bytes : ByteArray} {maxL nL n index : Nat} {ret : Option FieldType} {wsy Ts : List Cond} {rm : Room} {own : String} {As st0 : List Value} {lv : List (Nat × Value)} {Gs wcs w1s Gs' : List va_W} {r : Nat} (hx : p.tables.exec = Jvm.exec) (hb : c.code = cc) (hml : c.maxLocals = nL) (hown : s.vm.findClass own = some m.cls) (hts : ∀ w ∈ Ts, w.before args s = true)
    (hK : va_K (dC, dI) vwCl (tyA kc) s) (hP : va_P (dC, dI) vwCl (fl Gs) H) (hD : va_D A (fl Gs)) (hS : va_S A s.heap H locs) (hA : ∀ q : Nat, s.heap.size ≤ q → A q)
    (hM : ∀ sz : Nat, Met l y wsy rm (kPc dC dI kc As (fl wcs) sz) (kQr dC dI r (fl w1s) (va_A (fl wcs) sz)) 0 0 (va_A (fl wcs) sz)) (cw : CallB R s args own index y bytes maxL ret wsy rm 0 0 n ∧ (Cond.static y).before args s = true)
    (isC : List Nat) (hC : isC.map (fun i => Gs[i]?) = wcs.map some) (hnd : va_nd isC = true) (hn : As.length = n) (hl : lv_has ls nL lv) (hst0 : st0 = As.reverse ++ rest) (hst : (rest.map fun v => v.category).sum ≤ 8) (hdg : decode cc pc = .ok (.invokestatic index, 3)) (hf : cells ≤ R.cells ∧ slots ≤ R.slots)
    (hlen : isC.length = w1s.length) (hw' : repl Gs isC w1s = Gs') (hadr : Gs'.map (fun G => G.map Prod.fst) = Gs.map (fun G => G.map Prod.fst))
    (kk : ∀ (H1 : Heap) (locs1 : List Loc), va_P (dC, dI) vwCl (fl Gs') H1 → va_D A (fl Gs') → va_S A s.heap H1 locs1 → W p l e R s m args below meth c H1 locs1 cells slots Q (F0 m (pc + 3) ls (.ref r :: rest))) : W p l e R s m args below meth c H locs cells slots Q (F0 m pc ls st0) := by
  have hPc := sel_P hP isC hC
  have hDc := sel_D hD isC hnd hC
  have hFc := sel_F hD hS hA isC hC

  refine va_callr (va_runS (As := As) (rest := rest) ⟨hx, hb, hml, hown, hts⟩ (hM H.size) cw ⟨kPc_fb, fun U hU hW => ⟨rfl, by rw [hU], by rw [hU]; exact hPc, va_K.moved hW.alike hK, hDc.weaken (fun _ _ _ _ => trivial)⟩⟩ rfl hn hl.1 hst0 (lv_room hst) hdg hf) hS (fun q _ h => hFc q h) hFc (fun u r' t H1 locs1 ht hvm hw hB hz1 hk1 hS1 => ?_)
  obtain ⟨hw2, hB⟩ := hB
  subst hw2
  have hP1 : va_P (dC, dI) vwCl (fl w1s) H1 := by rw [← ht]; exact hB
  obtain ⟨hP', hD'⟩ := k_joinG hP hD isC hC hk1 hP1 hlen hw' hadr
  exact kk H1 locs1 hP' hD' hS1
end KBASE
/-! mirrors: what a method does, as a function -/
def gd {α : Type} (c : Prop) [Decidable c] (k : Option α) : Option α := if c then k else none
theorem gd_e {α : Type} {c : Prop} [Decidable c] {k : Option α} {r : α} (h : gd c k = some r) : c ∧ k = some r := by
  unfold gd at h
  by_cases q : c
  · rw [if_pos q] at h; exact ⟨q, h⟩
  · rw [if_neg q] at h; cases h
theorem it_t {α : Type} {c : Prop} [Decidable c] {a b : Option α} {r : α} (h : c) (e : (if c then a else b) = some r) : a = some r := by rw [if_pos h] at e; exact e
theorem it_f {α : Type} {c : Prop} [Decidable c] {a b : Option α} {r : α} (h : ¬ c) (e : (if c then a else b) = some r) : b = some r := by rw [if_neg h] at e; exact e
abbrev inb (i : Int32) (n : Nat) : Prop := ¬ (i < 0 ∨ n ≤ i.toNatClampNeg)
def onn {α : Type} (x : Option Nat) (a b : Option α) : Option α := match x with
  | none => a
  | some _ => b
abbrev jmax (x y : Int32) : Int32 := if x < y then y else x
abbrev jmin (x y : Int32) : Int32 := if y < x then y else x
abbrev jabs (x : Int32) : Int32 := if 0 ≤ x then x else 0 - x
def bd1 {α0 β : Type} (x : Option (α0)) (k : α0 → Option β) : Option β := match x with
  | none => none
  | some a0 => k a0
theorem bd1_e {α0 β : Type} {x : Option (α0)} {k : α0 → Option β} {r : β} (h : bd1 x k = some r) : ∃ a0, x = some a0 ∧ k a0 = some r := by
  cases x with
  | none => cases h
  | some v => exact ⟨v, rfl, h⟩
def bd2 {α0 α1 β : Type} (x : Option (α0 × α1)) (k : α0 → α1 → Option β) : Option β := match x with
  | none => none
  | some (a0, a1) => k a0 a1
theorem bd2_e {α0 α1 β : Type} {x : Option (α0 × α1)} {k : α0 → α1 → Option β} {r : β} (h : bd2 x k = some r) : ∃ a0 a1, x = some (a0, a1) ∧ k a0 a1 = some r := by
  cases x with
  | none => cases h
  | some v => exact ⟨v.1, v.2, rfl, h⟩
def bd3 {α0 α1 α2 β : Type} (x : Option (α0 × α1 × α2)) (k : α0 → α1 → α2 → Option β) : Option β := match x with
  | none => none
  | some (a0, a1, a2) => k a0 a1 a2
theorem bd3_e {α0 α1 α2 β : Type} {x : Option (α0 × α1 × α2)} {k : α0 → α1 → α2 → Option β} {r : β} (h : bd3 x k = some r) : ∃ a0 a1 a2, x = some (a0, a1, a2) ∧ k a0 a1 a2 = some r := by
  cases x with
  | none => cases h
  | some v => exact ⟨v.1, v.2.1, v.2.2, rfl, h⟩
def bd4 {α0 α1 α2 α3 β : Type} (x : Option (α0 × α1 × α2 × α3)) (k : α0 → α1 → α2 → α3 → Option β) : Option β := match x with
  | none => none
  | some (a0, a1, a2, a3) => k a0 a1 a2 a3
theorem bd4_e {α0 α1 α2 α3 β : Type} {x : Option (α0 × α1 × α2 × α3)} {k : α0 → α1 → α2 → α3 → Option β} {r : β} (h : bd4 x k = some r) : ∃ a0 a1 a2 a3, x = some (a0, a1, a2, a3) ∧ k a0 a1 a2 a3 = some r := by
  cases x with
  | none => cases h
  | some v => exact ⟨v.1, v.2.1, v.2.2.1, v.2.2.2, rfl, h⟩
def bd5 {α0 α1 α2 α3 α4 β : Type} (x : Option (α0 × α1 × α2 × α3 × α4)) (k : α0 → α1 → α2 → α3 → α4 → Option β) : Option β := match x with
  | none => none
  | some (a0, a1, a2, a3, a4) => k a0 a1 a2 a3 a4
theorem bd5_e {α0 α1 α2 α3 α4 β : Type} {x : Option (α0 × α1 × α2 × α3 × α4)} {k : α0 → α1 → α2 → α3 → α4 → Option β} {r : β} (h : bd5 x k = some r) : ∃ a0 a1 a2 a3 a4, x = some (a0, a1, a2, a3, a4) ∧ k a0 a1 a2 a3 a4 = some r := by
  cases x with
  | none => cases h
  | some v => exact ⟨v.1, v.2.1, v.2.2.1, v.2.2.2.1, v.2.2.2.2, rfl, h⟩
def bd6 {α0 α1 α2 α3 α4 α5 β : Type} (x : Option (α0 × α1 × α2 × α3 × α4 × α5)) (k : α0 → α1 → α2 → α3 → α4 → α5 → Option β) : Option β := match x with
  | none => none
  | some (a0, a1, a2, a3, a4, a5) => k a0 a1 a2 a3 a4 a5
theorem bd6_e {α0 α1 α2 α3 α4 α5 β : Type} {x : Option (α0 × α1 × α2 × α3 × α4 × α5)} {k : α0 → α1 → α2 → α3 → α4 → α5 → Option β} {r : β} (h : bd6 x k = some r) : ∃ a0 a1 a2 a3 a4 a5, x = some (a0, a1, a2, a3, a4, a5) ∧ k a0 a1 a2 a3 a4 a5 = some r := by
  cases x with
  | none => cases h
  | some v => exact ⟨v.1, v.2.1, v.2.2.1, v.2.2.2.1, v.2.2.2.2.1, v.2.2.2.2.2, rfl, h⟩
def bd7 {α0 α1 α2 α3 α4 α5 α6 β : Type} (x : Option (α0 × α1 × α2 × α3 × α4 × α5 × α6)) (k : α0 → α1 → α2 → α3 → α4 → α5 → α6 → Option β) : Option β := match x with
  | none => none
  | some (a0, a1, a2, a3, a4, a5, a6) => k a0 a1 a2 a3 a4 a5 a6
theorem bd7_e {α0 α1 α2 α3 α4 α5 α6 β : Type} {x : Option (α0 × α1 × α2 × α3 × α4 × α5 × α6)} {k : α0 → α1 → α2 → α3 → α4 → α5 → α6 → Option β} {r : β} (h : bd7 x k = some r) : ∃ a0 a1 a2 a3 a4 a5 a6, x = some (a0, a1, a2, a3, a4, a5, a6) ∧ k a0 a1 a2 a3 a4 a5 a6 = some r := by
  cases x with
  | none => cases h
  | some v => exact ⟨v.1, v.2.1, v.2.2.1, v.2.2.2.1, v.2.2.2.2.1, v.2.2.2.2.2.1, v.2.2.2.2.2.2, rfl, h⟩
def bd8 {α0 α1 α2 α3 α4 α5 α6 α7 β : Type} (x : Option (α0 × α1 × α2 × α3 × α4 × α5 × α6 × α7)) (k : α0 → α1 → α2 → α3 → α4 → α5 → α6 → α7 → Option β) : Option β := match x with
  | none => none
  | some (a0, a1, a2, a3, a4, a5, a6, a7) => k a0 a1 a2 a3 a4 a5 a6 a7
theorem bd8_e {α0 α1 α2 α3 α4 α5 α6 α7 β : Type} {x : Option (α0 × α1 × α2 × α3 × α4 × α5 × α6 × α7)} {k : α0 → α1 → α2 → α3 → α4 → α5 → α6 → α7 → Option β} {r : β} (h : bd8 x k = some r) : ∃ a0 a1 a2 a3 a4 a5 a6 a7, x = some (a0, a1, a2, a3, a4, a5, a6, a7) ∧ k a0 a1 a2 a3 a4 a5 a6 a7 = some r := by
  cases x with
  | none => cases h
  | some v => exact ⟨v.1, v.2.1, v.2.2.1, v.2.2.2.1, v.2.2.2.2.1, v.2.2.2.2.2.1, v.2.2.2.2.2.2.1, v.2.2.2.2.2.2.2, rfl, h⟩
def bd9 {α0 α1 α2 α3 α4 α5 α6 α7 α8 β : Type} (x : Option (α0 × α1 × α2 × α3 × α4 × α5 × α6 × α7 × α8)) (k : α0 → α1 → α2 → α3 → α4 → α5 → α6 → α7 → α8 → Option β) : Option β := match x with
  | none => none
  | some (a0, a1, a2, a3, a4, a5, a6, a7, a8) => k a0 a1 a2 a3 a4 a5 a6 a7 a8
theorem bd9_e {α0 α1 α2 α3 α4 α5 α6 α7 α8 β : Type} {x : Option (α0 × α1 × α2 × α3 × α4 × α5 × α6 × α7 × α8)} {k : α0 → α1 → α2 → α3 → α4 → α5 → α6 → α7 → α8 → Option β} {r : β} (h : bd9 x k = some r) : ∃ a0 a1 a2 a3 a4 a5 a6 a7 a8, x = some (a0, a1, a2, a3, a4, a5, a6, a7, a8) ∧ k a0 a1 a2 a3 a4 a5 a6 a7 a8 = some r := by
  cases x with
  | none => cases h
  | some v => exact ⟨v.1, v.2.1, v.2.2.1, v.2.2.2.1, v.2.2.2.2.1, v.2.2.2.2.2.1, v.2.2.2.2.2.2.1, v.2.2.2.2.2.2.2.1, v.2.2.2.2.2.2.2.2, rfl, h⟩
def bd10 {α0 α1 α2 α3 α4 α5 α6 α7 α8 α9 β : Type} (x : Option (α0 × α1 × α2 × α3 × α4 × α5 × α6 × α7 × α8 × α9)) (k : α0 → α1 → α2 → α3 → α4 → α5 → α6 → α7 → α8 → α9 → Option β) : Option β := match x with
  | none => none
  | some (a0, a1, a2, a3, a4, a5, a6, a7, a8, a9) => k a0 a1 a2 a3 a4 a5 a6 a7 a8 a9
theorem bd10_e {α0 α1 α2 α3 α4 α5 α6 α7 α8 α9 β : Type} {x : Option (α0 × α1 × α2 × α3 × α4 × α5 × α6 × α7 × α8 × α9)} {k : α0 → α1 → α2 → α3 → α4 → α5 → α6 → α7 → α8 → α9 → Option β} {r : β} (h : bd10 x k = some r) : ∃ a0 a1 a2 a3 a4 a5 a6 a7 a8 a9, x = some (a0, a1, a2, a3, a4, a5, a6, a7, a8, a9) ∧ k a0 a1 a2 a3 a4 a5 a6 a7 a8 a9 = some r := by
  cases x with
  | none => cases h
  | some v => exact ⟨v.1, v.2.1, v.2.2.1, v.2.2.2.1, v.2.2.2.2.1, v.2.2.2.2.2.1, v.2.2.2.2.2.2.1, v.2.2.2.2.2.2.2.1, v.2.2.2.2.2.2.2.2.1, v.2.2.2.2.2.2.2.2.2, rfl, h⟩
def bd11 {α0 α1 α2 α3 α4 α5 α6 α7 α8 α9 α10 β : Type} (x : Option (α0 × α1 × α2 × α3 × α4 × α5 × α6 × α7 × α8 × α9 × α10)) (k : α0 → α1 → α2 → α3 → α4 → α5 → α6 → α7 → α8 → α9 → α10 → Option β) : Option β := match x with
  | none => none
  | some (a0, a1, a2, a3, a4, a5, a6, a7, a8, a9, a10) => k a0 a1 a2 a3 a4 a5 a6 a7 a8 a9 a10
theorem bd11_e {α0 α1 α2 α3 α4 α5 α6 α7 α8 α9 α10 β : Type} {x : Option (α0 × α1 × α2 × α3 × α4 × α5 × α6 × α7 × α8 × α9 × α10)} {k : α0 → α1 → α2 → α3 → α4 → α5 → α6 → α7 → α8 → α9 → α10 → Option β} {r : β} (h : bd11 x k = some r) : ∃ a0 a1 a2 a3 a4 a5 a6 a7 a8 a9 a10, x = some (a0, a1, a2, a3, a4, a5, a6, a7, a8, a9, a10) ∧ k a0 a1 a2 a3 a4 a5 a6 a7 a8 a9 a10 = some r := by
  cases x with
  | none => cases h
  | some v => exact ⟨v.1, v.2.1, v.2.2.1, v.2.2.2.1, v.2.2.2.2.1, v.2.2.2.2.2.1, v.2.2.2.2.2.2.1, v.2.2.2.2.2.2.2.1, v.2.2.2.2.2.2.2.2.1, v.2.2.2.2.2.2.2.2.2.1, v.2.2.2.2.2.2.2.2.2.2, rfl, h⟩
def bd12 {α0 α1 α2 α3 α4 α5 α6 α7 α8 α9 α10 α11 β : Type} (x : Option (α0 × α1 × α2 × α3 × α4 × α5 × α6 × α7 × α8 × α9 × α10 × α11)) (k : α0 → α1 → α2 → α3 → α4 → α5 → α6 → α7 → α8 → α9 → α10 → α11 → Option β) : Option β := match x with
  | none => none
  | some (a0, a1, a2, a3, a4, a5, a6, a7, a8, a9, a10, a11) => k a0 a1 a2 a3 a4 a5 a6 a7 a8 a9 a10 a11
theorem bd12_e {α0 α1 α2 α3 α4 α5 α6 α7 α8 α9 α10 α11 β : Type} {x : Option (α0 × α1 × α2 × α3 × α4 × α5 × α6 × α7 × α8 × α9 × α10 × α11)} {k : α0 → α1 → α2 → α3 → α4 → α5 → α6 → α7 → α8 → α9 → α10 → α11 → Option β} {r : β} (h : bd12 x k = some r) : ∃ a0 a1 a2 a3 a4 a5 a6 a7 a8 a9 a10 a11, x = some (a0, a1, a2, a3, a4, a5, a6, a7, a8, a9, a10, a11) ∧ k a0 a1 a2 a3 a4 a5 a6 a7 a8 a9 a10 a11 = some r := by
  cases x with
  | none => cases h
  | some v => exact ⟨v.1, v.2.1, v.2.2.1, v.2.2.2.1, v.2.2.2.2.1, v.2.2.2.2.2.1, v.2.2.2.2.2.2.1, v.2.2.2.2.2.2.2.1, v.2.2.2.2.2.2.2.2.1, v.2.2.2.2.2.2.2.2.2.1, v.2.2.2.2.2.2.2.2.2.2.1, v.2.2.2.2.2.2.2.2.2.2.2, rfl, h⟩
def bd13 {α0 α1 α2 α3 α4 α5 α6 α7 α8 α9 α10 α11 α12 β : Type} (x : Option (α0 × α1 × α2 × α3 × α4 × α5 × α6 × α7 × α8 × α9 × α10 × α11 × α12)) (k : α0 → α1 → α2 → α3 → α4 → α5 → α6 → α7 → α8 → α9 → α10 → α11 → α12 → Option β) : Option β := match x with
  | none => none
  | some (a0, a1, a2, a3, a4, a5, a6, a7, a8, a9, a10, a11, a12) => k a0 a1 a2 a3 a4 a5 a6 a7 a8 a9 a10 a11 a12
theorem bd13_e {α0 α1 α2 α3 α4 α5 α6 α7 α8 α9 α10 α11 α12 β : Type} {x : Option (α0 × α1 × α2 × α3 × α4 × α5 × α6 × α7 × α8 × α9 × α10 × α11 × α12)} {k : α0 → α1 → α2 → α3 → α4 → α5 → α6 → α7 → α8 → α9 → α10 → α11 → α12 → Option β} {r : β} (h : bd13 x k = some r) : ∃ a0 a1 a2 a3 a4 a5 a6 a7 a8 a9 a10 a11 a12, x = some (a0, a1, a2, a3, a4, a5, a6, a7, a8, a9, a10, a11, a12) ∧ k a0 a1 a2 a3 a4 a5 a6 a7 a8 a9 a10 a11 a12 = some r := by
  cases x with
  | none => cases h
  | some v => exact ⟨v.1, v.2.1, v.2.2.1, v.2.2.2.1, v.2.2.2.2.1, v.2.2.2.2.2.1, v.2.2.2.2.2.2.1, v.2.2.2.2.2.2.2.1, v.2.2.2.2.2.2.2.2.1, v.2.2.2.2.2.2.2.2.2.1, v.2.2.2.2.2.2.2.2.2.2.1, v.2.2.2.2.2.2.2.2.2.2.2.1, v.2.2.2.2.2.2.2.2.2.2.2.2, rfl, h⟩
def bd14 {α0 α1 α2 α3 α4 α5 α6 α7 α8 α9 α10 α11 α12 α13 β : Type} (x : Option (α0 × α1 × α2 × α3 × α4 × α5 × α6 × α7 × α8 × α9 × α10 × α11 × α12 × α13)) (k : α0 → α1 → α2 → α3 → α4 → α5 → α6 → α7 → α8 → α9 → α10 → α11 → α12 → α13 → Option β) : Option β := match x with
  | none => none
  | some (a0, a1, a2, a3, a4, a5, a6, a7, a8, a9, a10, a11, a12, a13) => k a0 a1 a2 a3 a4 a5 a6 a7 a8 a9 a10 a11 a12 a13
theorem bd14_e {α0 α1 α2 α3 α4 α5 α6 α7 α8 α9 α10 α11 α12 α13 β : Type} {x : Option (α0 × α1 × α2 × α3 × α4 × α5 × α6 × α7 × α8 × α9 × α10 × α11 × α12 × α13)} {k : α0 → α1 → α2 → α3 → α4 → α5 → α6 → α7 → α8 → α9 → α10 → α11 → α12 → α13 → Option β} {r : β} (h : bd14 x k = some r) : ∃ a0 a1 a2 a3 a4 a5 a6 a7 a8 a9 a10 a11 a12 a13, x = some (a0, a1, a2, a3, a4, a5, a6, a7, a8, a9, a10, a11, a12, a13) ∧ k a0 a1 a2 a3 a4 a5 a6 a7 a8 a9 a10 a11 a12 a13 = some r := by
  cases x with
  | none => cases h
  | some v => exact ⟨v.1, v.2.1, v.2.2.1, v.2.2.2.1, v.2.2.2.2.1, v.2.2.2.2.2.1, v.2.2.2.2.2.2.1, v.2.2.2.2.2.2.2.1, v.2.2.2.2.2.2.2.2.1, v.2.2.2.2.2.2.2.2.2.1, v.2.2.2.2.2.2.2.2.2.2.1, v.2.2.2.2.2.2.2.2.2.2.2.1, v.2.2.2.2.2.2.2.2.2.2.2.2.1, v.2.2.2.2.2.2.2.2.2.2.2.2.2, rfl, h⟩
def bd15 {α0 α1 α2 α3 α4 α5 α6 α7 α8 α9 α10 α11 α12 α13 α14 β : Type} (x : Option (α0 × α1 × α2 × α3 × α4 × α5 × α6 × α7 × α8 × α9 × α10 × α11 × α12 × α13 × α14)) (k : α0 → α1 → α2 → α3 → α4 → α5 → α6 → α7 → α8 → α9 → α10 → α11 → α12 → α13 → α14 → Option β) : Option β := match x with
  | none => none
  | some (a0, a1, a2, a3, a4, a5, a6, a7, a8, a9, a10, a11, a12, a13, a14) => k a0 a1 a2 a3 a4 a5 a6 a7 a8 a9 a10 a11 a12 a13 a14
theorem bd15_e {α0 α1 α2 α3 α4 α5 α6 α7 α8 α9 α10 α11 α12 α13 α14 β : Type} {x : Option (α0 × α1 × α2 × α3 × α4 × α5 × α6 × α7 × α8 × α9 × α10 × α11 × α12 × α13 × α14)} {k : α0 → α1 → α2 → α3 → α4 → α5 → α6 → α7 → α8 → α9 → α10 → α11 → α12 → α13 → α14 → Option β} {r : β} (h : bd15 x k = some r) : ∃ a0 a1 a2 a3 a4 a5 a6 a7 a8 a9 a10 a11 a12 a13 a14, x = some (a0, a1, a2, a3, a4, a5, a6, a7, a8, a9, a10, a11, a12, a13, a14) ∧ k a0 a1 a2 a3 a4 a5 a6 a7 a8 a9 a10 a11 a12 a13 a14 = some r := by
  cases x with
  | none => cases h
  | some v => exact ⟨v.1, v.2.1, v.2.2.1, v.2.2.2.1, v.2.2.2.2.1, v.2.2.2.2.2.1, v.2.2.2.2.2.2.1, v.2.2.2.2.2.2.2.1, v.2.2.2.2.2.2.2.2.1, v.2.2.2.2.2.2.2.2.2.1, v.2.2.2.2.2.2.2.2.2.2.1, v.2.2.2.2.2.2.2.2.2.2.2.1, v.2.2.2.2.2.2.2.2.2.2.2.2.1, v.2.2.2.2.2.2.2.2.2.2.2.2.2.1, v.2.2.2.2.2.2.2.2.2.2.2.2.2.2, rfl, h⟩
def bd16 {α0 α1 α2 α3 α4 α5 α6 α7 α8 α9 α10 α11 α12 α13 α14 α15 β : Type} (x : Option (α0 × α1 × α2 × α3 × α4 × α5 × α6 × α7 × α8 × α9 × α10 × α11 × α12 × α13 × α14 × α15)) (k : α0 → α1 → α2 → α3 → α4 → α5 → α6 → α7 → α8 → α9 → α10 → α11 → α12 → α13 → α14 → α15 → Option β) : Option β := match x with
  | none => none
  | some (a0, a1, a2, a3, a4, a5, a6, a7, a8, a9, a10, a11, a12, a13, a14, a15) => k a0 a1 a2 a3 a4 a5 a6 a7 a8 a9 a10 a11 a12 a13 a14 a15
theorem bd16_e {α0 α1 α2 α3 α4 α5 α6 α7 α8 α9 α10 α11 α12 α13 α14 α15 β : Type} {x : Option (α0 × α1 × α2 × α3 × α4 × α5 × α6 × α7 × α8 × α9 × α10 × α11 × α12 × α13 × α14 × α15)} {k : α0 → α1 → α2 → α3 → α4 → α5 → α6 → α7 → α8 → α9 → α10 → α11 → α12 → α13 → α14 → α15 → Option β} {r : β} (h : bd16 x k = some r) : ∃ a0 a1 a2 a3 a4 a5 a6 a7 a8 a9 a10 a11 a12 a13 a14 a15, x = some (a0, a1, a2, a3, a4, a5, a6, a7, a8, a9, a10, a11, a12, a13, a14, a15) ∧ k a0 a1 a2 a3 a4 a5 a6 a7 a8 a9 a10 a11 a12 a13 a14 a15 = some r := by
  cases x with
  | none => cases h
  | some v => exact ⟨v.1, v.2.1, v.2.2.1, v.2.2.2.1, v.2.2.2.2.1, v.2.2.2.2.2.1, v.2.2.2.2.2.2.1, v.2.2.2.2.2.2.2.1, v.2.2.2.2.2.2.2.2.1, v.2.2.2.2.2.2.2.2.2.1, v.2.2.2.2.2.2.2.2.2.2.1, v.2.2.2.2.2.2.2.2.2.2.2.1, v.2.2.2.2.2.2.2.2.2.2.2.2.1, v.2.2.2.2.2.2.2.2.2.2.2.2.2.1, v.2.2.2.2.2.2.2.2.2.2.2.2.2.2.1, v.2.2.2.2.2.2.2.2.2.2.2.2.2.2.2, rfl, h⟩
theorem onn_n {α : Type} {x : Option Nat} {a b : Option α} {r : α} (h : x = none) (e : onn x a b = some r) : a = some r := by subst h; exact e
theorem onn_s {α : Type} {x : Option Nat} {a b : Option α} {r : α} {q : Nat} (h : x = some q) (e : onn x a b = some r) : b = some r := by subst h; exact e
section KNULL
variable {p : Program} {l : Launch} {e : Env} {R : Room} {s : State} {m : MethodId} {args : Array Value} {below : List Frame} {meth : Method} {c : Code} {H : Heap} {locs : List Loc} {cells slots : Nat} {Q : State → Prop}
variable {cc : ByteArray} {pc : Nat} {ls : Array Slot} {rest : List Value}
theorem k_ifnonnull {x : Option Nat} (hexec : p.tables.exec = Jvm.exec) (hb : c.code = cc) {off : Int} {tgt : Nat} (hdg : decode cc pc = .ok (.ifnonnull off, 3)) (ht : (pc : Int) + off = (tgt : Int)) (kf : x = none → W p l e R s m args below meth c H locs cells slots Q (F0 m (pc + 3) ls rest)) (kt : ∀ q : Nat, x = some q → W p l e R s m args below meth c H locs cells slots Q (F0 m tgt ls rest)) : W p l e R s m args below meth c H locs cells slots Q (F0 m pc ls (va_rf x :: rest)) := by
  cases x with
  | none => exact lv_ifnonnullN hexec hb hdg (kf rfl)
  | some q => exact lv_ifnonnull hexec hb hdg ht (kt q rfl)
theorem k_ifnull {x : Option Nat} (hexec : p.tables.exec = Jvm.exec) (hb : c.code = cc) {off : Int} {tgt : Nat} (hdg : decode cc pc = .ok (.ifnull off, 3)) (ht : (pc : Int) + off = (tgt : Int)) (kf : x = none → W p l e R s m args below meth c H locs cells slots Q (F0 m tgt ls rest)) (kt : ∀ q : Nat, x = some q → W p l e R s m args below meth c H locs cells slots Q (F0 m (pc + 3) ls rest)) : W p l e R s m args below meth c H locs cells slots Q (F0 m pc ls (va_rf x :: rest)) := by
  cases x with
  | none => exact lv_ifnullN hexec hb hdg ht (kf rfl)
  | some q => exact lv_ifnull hexec hb hdg (kt q rfl)
end KNULL
