section KCTOR
variable {p : Program} {l : Launch} {e : Env} {R : Room} {s : State} {m : MethodId} {args : Array Value} {below : List Frame} {meth : Method} {c : Code} {H : Heap} {locs : List Loc} {cells slots : Nat} {Q : State → Prop}
variable {dC : Nat → ClassId} {dI : Nat → Nat → Nat} {kc : Nat → ClassId} {A : Nat → Prop} {cc : ByteArray} {pc : Nat} {ls : Array Slot} {rest : List Value}
/-- a call of a private constructor of a nest mate, on the newest cell -/
theorem k_ctorX {y : MethodName} {bytes : ByteArray} {maxL nL mc ms index : Nat} {wsy wsy' Ts : List Cond} {rm : Room} {own host : String} {st0 : List Value} {lv : List (Nat × Value)} {Gs : List va_W} {ci : Nat} {fs : List Value} {b : Nat} {S : Type} {w1 : S → List va_W} {X : (Nat → Prop) → State → Heap → Prop} (hx : p.tables.exec = Jvm.exec) (hb : c.code = cc) (hml : c.maxLocals = nL) (hown : s.vm.findClass own = some m.cls) (hts : ∀ w ∈ Ts, w.before args s = true)
    (hK : va_K (dC, dI) vwCl (tyA kc) s) (hP : va_P (dC, dI) vwCl (fl Gs ++ [(b, .inr (ci, fs))]) H) (hD : va_D A (fl Gs ++ [(b, .inr (ci, fs))])) (hS : va_S A s.heap H locs) (hA : ∀ q : Nat, s.heap.size ≤ q → A q) (hok : xok X) (hX : X A s s.heap)
    (hM : ∀ sz : Nat, Met l y wsy rm (kPcX dC dI kc X [.ref b] [(b, .inr (ci, fs))] sz) (va_Qv (fun _ : S => True) (fun u t => va_P (dC, dI) vwCl (fl (w1 u)) t.heap ∧ va_D (va_A [(b, .inr (ci, fs))] sz) (fl (w1 u))) (va_A [(b, .inr (ci, fs))] sz)) mc ms (va_A [(b, .inr (ci, fs))] sz))
    (hG : GoodIn Ts wsy) (hw : wsy = Cond.code y bytes maxL none :: wsy') (hrc : rm.cells = mc) (hrs : rm.slots = ms) (hl : va_Nw (.methodLinkNest own index y host) s) (hini : (Cond.initialized y.cls).before args s = true) (hinst : (Cond.instanceMethod y).before args s = true) (hy1 : y.name = "<init>")
    (hd : y.cls ≠ "java/lang/invoke/MethodHandle" ∧ y.cls ≠ "java/lang/invoke/VarHandle" ∧ (parseMethodDescriptor y.desc).map (fun d => d.parameters.length) = some 0) (hR : rm.frames + 1 ≤ R.frames ∧ 8 + (maxL + 11) + rm.locals ≤ R.locals)
    (hls : lv_has ls nL lv) (hst0 : st0 = .ref b :: rest) (hst : (rest.map fun v => v.category).sum ≤ 8) (hdg : decode cc pc = .ok (.invokespecial index, 3)) (hf : cells + mc ≤ R.cells ∧ slots + ms ≤ R.slots)
    (kk : ∀ (u : S) (H1 : Heap) (locs1 : List Loc), va_P (dC, dI) vwCl (fl (Gs ++ w1 u)) H1 → va_D A (fl (Gs ++ w1 u)) → va_S A s.heap H1 locs1 → W p l e R s m args below meth c H1 locs1 (cells + mc) (slots + ms) Q (F0 m (pc + 3) ls rest)) : W p l e R s m args below meth c H locs cells slots Q (F0 m pc ls st0) := by
  have hPc : va_P (dC, dI) vwCl [(b, .inr (ci, fs))] H := va_P_mem.mpr fun q hq => (va_P_mem.mp hP) q (List.mem_append_right _ hq)
  have hDc : va_D A [(b, .inr (ci, fs))] := pw_va_D (List.pairwise_append.mp (va_D_pw hD)).2.1 (fun q hq => va_D_mem hD (List.mem_append_right _ hq))
  have hFc : ∀ q, va_A [(b, .inr (ci, fs))] H.size q → A q := by
    rintro q (⟨k, e, h⟩ | h)
    · exact va_D_mem hD (List.mem_append_right _ (List.mem_of_getElem? h))
    · exact hA q (Nat.le_trans hS.1 h)
  refine va_callv (va_runIN (As := []) (rest := rest) ⟨hx, hb, hml, hown, hts⟩ (hM H.size) ⟨va_cnB 0 hts hG hw hrc hrs hl hini hd hR, hy1, hinst⟩ ⟨kPcX_fb hok, fun U hU hW => ⟨rfl, by rw [hU], by rw [hU]; exact hPc, va_K.moved hW.alike hK, hDc.weaken (fun _ _ _ _ => trivial), by rw [hU]; exact hok.2.2.2 _ _ _ _ hFc (hok.2.1 _ s _ _ hW (hok.2.2.1 _ _ _ _ (fun a h1 h2 => hS.2.1 a h1 h2) hX))⟩⟩ rfl rfl hls.1 hst0 (lv_room hst) hdg hf) hS (fun q _ h => hFc q h) hFc (fun u t H1 locs1 ht hvm hw hB hz1 hk1 hS1 => ?_)
  obtain ⟨hB1, hB2⟩ := hB
  rw [ht] at hB1
  obtain ⟨hP', hD'⟩ := k_joinI hP hD hk1 hFc hB1 hB2
  exact kk u H1 locs1 hP' hD' hS1
end KCTOR
