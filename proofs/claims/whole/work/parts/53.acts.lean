abbrev wdX0 (kc : Nat → ClassId) (a_o a_trace : Nat) (c_trace : Nat → Int32) (c_ran : Int32) (c_number : Int32) (c_v : Int32) (c_kind : Int32) : va_W := [(a_o, .inr (0, [.ref a_trace, .int c_ran, .int c_number, .int c_v, .int c_kind])), (a_trace, .inl (kc 1, 20, .inl c_trace))]
def fX0_forget (cran : Int32) : Option Int32 := some 0
theorem hinX0_forget_X0 : ∀ w ∈ u_ws RX0 TX0 5, w ∈ wsX0_forget := fun _ h => List.mem_cons_of_mem _ (List.mem_append_right _ h)
abbrev rmX0_forget : Room := { frames := 0, cells := 0, slots := 0, locals := 12 }
set_option maxHeartbeats 4000000 in
set_option maxRecDepth 100000 in
theorem ctX0_forget {l : Launch} {dC : Nat → ClassId} {dI : Nat → Nat → Nat} {kc : Nat → ClassId} {c_o c_trace : Nat} {ctrace : Nat → Int32} {cran : Int32} {cnumber : Int32} {cv : Int32} {ckind : Int32} {cran' : Int32} (hm : fX0_forget cran = some cran') : ∀ sz : Nat, Met l yX0_forget wsX0_forget rmX0_forget (kPc dC dI kc [.ref c_o] (fl [wdX0 kc c_o c_trace ctrace cran cnumber cv ckind]) sz) (kQv dC dI (fl [wdX0 kc c_o c_trace ctrace cran' cnumber cv ckind]) (va_A (fl [wdX0 kc c_o c_trace ctrace cran cnumber cv ckind]) sz)) 0 0 (va_A (fl [wdX0 kc c_o c_trace ctrace cran cnumber cv ckind]) sz) := by
  intro sz
  refine kMet (cc := cX0_forget) (maxL := 1) (ret := none) (Qf := fun A => kQv dC dI (fl [wdX0 kc c_o c_trace ctrace cran' cnumber cv ckind]) A) (by decide) rfl (Nat.le_of_ble_eq_true rfl) ?_
  intro p e s m below meth c A ls hx hb hr hml hts hown hlocks hname hsz hA hP hK hD hl
  have hS : va_S A s.heap s.heap [] := va_S.rf
  have hl : lv_has ls 1 [(0, .ref c_o)] := hl
  unfold fX0_forget at hm
  refine lv_aload_n hx hb dX0_forget_0 rfl (lv_at hl 0 rfl) ?_
  refine lv_iconst (v := 0) hx hb dX0_forget_1 (by decide) ?_
  refine va_put (D := (dC, dI)) (ci := 0) (v := .int 0) (ty := .int) (C := RX0) (T := TX0) (N := 5) hx hb hts hinX0_forget_X0 tyX0 tyX0_ok nmX0 hown hK hP hD hS 0 rfl rfl 1 (by decide) (hts _ (List.mem_of_getElem? (i := 1) rfl)) (fun _ h9 => h9) rfl (by decide +kernel) rfl rfl (Nat.le_of_ble_eq_true rfl) dX0_forget_2 (fun H locs hP hD hS => ?_)
  have hP : va_P (dC, dI) vwCl (fl [wdX0 kc c_o c_trace ctrace 0 cnumber cv ckind]) H := hP
  have hD : va_D A (fl [wdX0 kc c_o c_trace ctrace 0 cnumber cv ckind]) := hD
  cases hm
  exact k_vret hx hb hr hlocks hP hS dX0_forget_5
def fX0_kept (cran : Int32) : Option Int32 := some (jmin cran 20)
theorem hinX0_kept_X0 : ∀ w ∈ u_ws RX0 TX0 5, w ∈ wsX0_kept := fun _ h => List.mem_cons_of_mem _ (List.mem_append_right _ h)
abbrev rmX0_kept : Room := { frames := 1, cells := 0, slots := 0, locals := 13 }
set_option maxHeartbeats 4000000 in
set_option maxRecDepth 100000 in
theorem ctX0_kept {l : Launch} {dC : Nat → ClassId} {dI : Nat → Nat → Nat} {kc : Nat → ClassId} {c_o c_trace : Nat} {ctrace : Nat → Int32} {cran : Int32} {cnumber : Int32} {cv : Int32} {ckind : Int32} {r : Int32} (hm : fX0_kept cran = some r) : ∀ sz : Nat, Met l yX0_kept wsX0_kept rmX0_kept (kPc dC dI kc [.ref c_o] (fl [wdX0 kc c_o c_trace ctrace cran cnumber cv ckind]) sz) (kQi dC dI r (fl [wdX0 kc c_o c_trace ctrace cran cnumber cv ckind]) (va_A (fl [wdX0 kc c_o c_trace ctrace cran cnumber cv ckind]) sz)) 0 0 (va_A (fl [wdX0 kc c_o c_trace ctrace cran cnumber cv ckind]) sz) := by
  intro sz
  refine kMet (cc := cX0_kept) (maxL := 1) (ret := (some .int)) (Qf := fun A => kQi dC dI r (fl [wdX0 kc c_o c_trace ctrace cran cnumber cv ckind]) A) (by decide) rfl (Nat.le_of_ble_eq_true rfl) ?_
  intro p e s m below meth c A ls hx hb hr hml hts hown hlocks hname hsz hA hP hK hD hl
  have hS : va_S A s.heap s.heap [] := va_S.rf
  have hl : lv_has ls 1 [(0, .ref c_o)] := hl
  unfold fX0_kept at hm
  refine lv_aload_n hx hb dX0_kept_0 rfl (lv_at hl 0 rfl) ?_
  refine va_get (D := (dC, dI)) (ci := 0) (v := .int cran) (C := RX0) (T := TX0) (N := 5) hx hb hts hinX0_kept_X0 hown hK hP 0 rfl rfl 1 (by decide) (hts _ (List.mem_of_getElem? (i := 1) rfl)) (fun _ h9 => h9) rfl dX0_kept_1 ?_
  refine lv_bipush (v := 20) hx hb dX0_kept_4 (by decide) ?_
  refine va_mmin hx hb (hml.trans hl.1.symm) hown (hts _ (List.mem_of_getElem? (i := 2) rfl)) (hts _ (List.mem_of_getElem? (i := 3) rfl)) (hts _ (List.mem_of_getElem? (i := 4) rfl)) (hts _ (List.mem_of_getElem? (i := 5) rfl)) (Nat.le_of_ble_eq_true rfl) (Nat.le_of_ble_eq_true rfl) (Nat.zero_le _) (Nat.zero_le _) dX0_kept_6 ?_
  cases hm
  exact k_iret hx hb hr hlocks hP hS dX0_kept_9
def fX0_note (ctrace : Nat → Int32) (cran : Int32) (x1 : Int32) : Option ((Nat → Int32) × Int32) := if 20 ≤ cran then (some (ctrace, cran + 1)) else (gd (inb cran 20) (some (upd ctrace (cran.toNatClampNeg) x1, cran + 1)))
theorem hinX0_note_X0 : ∀ w ∈ u_ws RX0 TX0 5, w ∈ wsX0_note := fun _ h => List.mem_cons_of_mem _ (List.mem_append_right _ h)
abbrev rmX0_note : Room := { frames := 0, cells := 0, slots := 0, locals := 12 }
set_option maxHeartbeats 4000000 in
set_option maxRecDepth 100000 in
theorem ctX0_note {l : Launch} {dC : Nat → ClassId} {dI : Nat → Nat → Nat} {kc : Nat → ClassId} {c_o c_trace : Nat} {ctrace : Nat → Int32} {cran : Int32} {cnumber : Int32} {cv : Int32} {ckind : Int32} {x1 : Int32} {ctrace' : Nat → Int32} {cran' : Int32} (hm : fX0_note ctrace cran x1 = some (ctrace', cran')) : ∀ sz : Nat, Met l yX0_note wsX0_note rmX0_note (kPc dC dI kc [.ref c_o, .int x1] (fl [wdX0 kc c_o c_trace ctrace cran cnumber cv ckind]) sz) (kQv dC dI (fl [wdX0 kc c_o c_trace ctrace' cran' cnumber cv ckind]) (va_A (fl [wdX0 kc c_o c_trace ctrace cran cnumber cv ckind]) sz)) 0 0 (va_A (fl [wdX0 kc c_o c_trace ctrace cran cnumber cv ckind]) sz) := by
  intro sz
  refine kMet (cc := cX0_note) (maxL := 2) (ret := none) (Qf := fun A => kQv dC dI (fl [wdX0 kc c_o c_trace ctrace' cran' cnumber cv ckind]) A) (by decide) rfl (Nat.le_of_ble_eq_true rfl) ?_
  intro p e s m below meth c A ls hx hb hr hml hts hown hlocks hname hsz hA hP hK hD hl
  have hS : va_S A s.heap s.heap [] := va_S.rf
  have hl : lv_has ls 2 [(0, .ref c_o), (1, .int x1)] := hl
  unfold fX0_note at hm
  refine lv_aload_n hx hb dX0_note_0 rfl (lv_at hl 0 rfl) ?_
  refine va_get (D := (dC, dI)) (ci := 0) (v := .int cran) (C := RX0) (T := TX0) (N := 5) hx hb hts hinX0_note_X0 hown hK hP 0 rfl rfl 1 (by decide) (hts _ (List.mem_of_getElem? (i := 1) rfl)) (fun _ h9 => h9) rfl dX0_note_1 ?_
  refine lv_bipush (v := 20) hx hb dX0_note_4 (by decide) ?_
  refine lv_icmp_ge (tgt := 19) hx hb dX0_note_6 (by decide) (fun c6 => ?_) (fun c6 => ?_)
  · replace hm := it_t c6 hm
    refine lv_aload_n hx hb dX0_note_19 rfl (lv_at hl 0 rfl) ?_
    refine lv_dup hx hb dX0_note_20 rfl ?_
    refine va_get (D := (dC, dI)) (ci := 0) (v := .int cran) (C := RX0) (T := TX0) (N := 5) hx hb hts hinX0_note_X0 hown hK hP 0 rfl rfl 1 (by decide) (hts _ (List.mem_of_getElem? (i := 1) rfl)) (fun _ h9 => h9) rfl dX0_note_21 ?_
    refine lv_iconst (v := 1) hx hb dX0_note_24 (by decide) ?_
    refine lv_iadd hx hb dX0_note_25 ?_
    refine va_put (D := (dC, dI)) (ci := 0) (v := .int (cran + 1)) (ty := .int) (C := RX0) (T := TX0) (N := 5) hx hb hts hinX0_note_X0 tyX0 tyX0_ok nmX0 hown hK hP hD hS 0 rfl rfl 1 (by decide) (hts _ (List.mem_of_getElem? (i := 1) rfl)) (fun _ h9 => h9) rfl (by decide +kernel) rfl rfl (Nat.le_of_ble_eq_true rfl) dX0_note_26 (fun H locs hP hD hS => ?_)
    have hP : va_P (dC, dI) vwCl (fl [wdX0 kc c_o c_trace ctrace (cran + 1) cnumber cv ckind]) H := hP
    have hD : va_D A (fl [wdX0 kc c_o c_trace ctrace (cran + 1) cnumber cv ckind]) := hD
    cases hm
    exact k_vret hx hb hr hlocks hP hS dX0_note_29
  · replace hm := it_f c6 hm
    refine lv_aload_n hx hb dX0_note_9 rfl (lv_at hl 0 rfl) ?_
    refine va_get (D := (dC, dI)) (ci := 0) (v := .ref c_trace) (C := RX0) (T := TX0) (N := 5) hx hb hts hinX0_note_X0 hown hK hP 0 rfl rfl 0 (by decide) (hts _ (List.mem_of_getElem? (i := 2) rfl)) (fun _ h9 => h9) rfl dX0_note_10 ?_
    refine lv_aload_n hx hb dX0_note_13 rfl (lv_at hl 0 rfl) ?_
    refine va_get (D := (dC, dI)) (ci := 0) (v := .int cran) (C := RX0) (T := TX0) (N := 5) hx hb hts hinX0_note_X0 hown hK hP 0 rfl rfl 1 (by decide) (hts _ (List.mem_of_getElem? (i := 1) rfl)) (fun _ h9 => h9) rfl dX0_note_14 ?_
    refine lv_iload_n hx hb dX0_note_17 rfl (lv_at hl 1 rfl) ?_
    obtain ⟨hg18, hm⟩ := gd_e hm
    refine k_iast (D := (dC, dI)) hx hb hK hP hD hS 1 1 rfl rfl (k := cran.toNatClampNeg) rfl hg18 dX0_note_18 (fun H locs hP hD hS => ?_)
    have hP : va_P (dC, dI) vwCl (fl [wdX0 kc c_o c_trace (upd ctrace (cran.toNatClampNeg) x1) cran cnumber cv ckind]) H := hP
    have hD : va_D A (fl [wdX0 kc c_o c_trace (upd ctrace (cran.toNatClampNeg) x1) cran cnumber cv ckind]) := hD
    refine lv_aload_n hx hb dX0_note_19 rfl (lv_at hl 0 rfl) ?_
    refine lv_dup hx hb dX0_note_20 rfl ?_
    refine va_get (D := (dC, dI)) (ci := 0) (v := .int cran) (C := RX0) (T := TX0) (N := 5) hx hb hts hinX0_note_X0 hown hK hP 0 rfl rfl 1 (by decide) (hts _ (List.mem_of_getElem? (i := 1) rfl)) (fun _ h9 => h9) rfl dX0_note_21 ?_
    refine lv_iconst (v := 1) hx hb dX0_note_24 (by decide) ?_
    refine lv_iadd hx hb dX0_note_25 ?_
    refine va_put (D := (dC, dI)) (ci := 0) (v := .int (cran + 1)) (ty := .int) (C := RX0) (T := TX0) (N := 5) hx hb hts hinX0_note_X0 tyX0 tyX0_ok nmX0 hown hK hP hD hS 0 rfl rfl 1 (by decide) (hts _ (List.mem_of_getElem? (i := 1) rfl)) (fun _ h9 => h9) rfl (by decide +kernel) rfl rfl (Nat.le_of_ble_eq_true rfl) dX0_note_26 (fun H locs hP hD hS => ?_)
    have hP : va_P (dC, dI) vwCl (fl [wdX0 kc c_o c_trace (upd ctrace (cran.toNatClampNeg) x1) (cran + 1) cnumber cv ckind]) H := hP
    have hD : va_D A (fl [wdX0 kc c_o c_trace (upd ctrace (cran.toNatClampNeg) x1) (cran + 1) cnumber cv ckind]) := hD
    cases hm
    exact k_vret hx hb hr hlocks hP hS dX0_note_29
def LX0_bodyFor_4 (x1 : Int32) : Nat → Int32 → Int32 → Option Int32
  | 0, _, _ => none
  | n4 + 1, l2_4, l3_4 => if 6 < l3_4 then (gd (inb x1 21) (some (tabB (x1.toNatClampNeg)))) else (if l2_4 ≤ 0 then (gd (inb x1 21) (some (tabB (x1.toNatClampNeg)))) else (gd (inb ((l2_4 * 3) + x1) 21) (if (tabB (((l2_4 * 3) + x1).toNatClampNeg)) = 0 then (gd (inb l2_4 7) (LX0_bodyFor_4 x1 n4 (tabK (l2_4.toNatClampNeg)) (l3_4 + 1))) else (gd (inb ((l2_4 * 3) + x1) 21) (some (tabB (((l2_4 * 3) + x1).toNatClampNeg)))))))
def fX0_bodyFor (fu : Nat) (x1 : Int32) (x2 : Int32) : Option Int32 := LX0_bodyFor_4 x1 fu x2 0
abbrev rmX0_bodyFor : Room := { frames := 0, cells := 0, slots := 0, locals := 12 }
set_option maxHeartbeats 4000000 in
set_option maxRecDepth 100000 in
theorem ctX0_bodyFor {l : Launch} {dC : Nat → ClassId} {dI : Nat → Nat → Nat} {kc : Nat → ClassId} {tB tK : Nat} {x1 : Int32} {x2 : Int32} {fu : Nat} {r : Int32} (hm : fX0_bodyFor fu x1 x2 = some r) : ∀ sz : Nat, Met l yX0_bodyFor wsX0_bodyFor rmX0_bodyFor (kPcX dC dI kc (xB tB tK) [.int x1, .int x2] (fl []) sz) (kQi dC dI r (fl []) (va_A (fl []) sz)) 0 0 (va_A (fl []) sz) := by
  intro sz
  refine kMetX (cc := cX0_bodyFor) (maxL := 4) (ret := (some .int)) (Qf := fun A => kQi dC dI r (fl []) A) (by decide) rfl (Nat.le_of_ble_eq_true rfl) ?_
  intro p e s m below meth c A ls hx hb hr hml hts hown hlocks hname hsz hA hP hK hD hX hl
  have hS : va_S A s.heap s.heap [] := va_S.rf
  have hl : lv_has ls 4 [(0, .int x1), (1, .int x2)] := hl
  unfold fX0_bodyFor at hm
  refine lv_iload_n hx hb dX0_bodyFor_0 rfl (lv_at hl 1 rfl) ?_
  refine lv_istore_n (lv' := [(2, .int x2), (0, .int x1), (1, .int x2)]) hx hb dX0_bodyFor_1 rfl hl (by decide) rfl (fun ls hl => ?_)
  refine lv_iconst (v := 0) hx hb dX0_bodyFor_2 (by decide) ?_
  refine lv_istore_n (lv' := [(3, .int 0), (2, .int x2), (0, .int x1), (1, .int x2)]) hx hb dX0_bodyFor_3 rfl hl (by decide) rfl (fun ls hl => ?_)
  have hL4 : ∀ (fn : Nat) (l2_4 : Int32) (l3_4 : Int32), LX0_bodyFor_4 x1 fn l2_4 l3_4 = some r → ∀ (H : Heap) (locs : List Loc), va_P (dC, dI) vwCl (fl []) H → va_D A (fl []) → va_S A s.heap H locs → ∀ ls : Array Slot, lv_has ls 4 [(0, .int x1), (2, .int l2_4), (3, .int l3_4)] → W p l e (headSpec wsX0_bodyFor rmX0_bodyFor).room s m [.int x1, .int x2].toArray below meth c H locs 0 0 (MQ below (kQi dC dI r (fl []) A) [.int x1, .int x2].toArray s 0 0 A) (F0 m 4 ls []) := by
    clear hm hP hD hS hl
    intro n4
    induction n4 with
    | zero => intro l2_4 l3_4 hm; rw [LX0_bodyFor_4] at hm; cases hm
    | succ n4 ih4 =>
      intro l2_4 l3_4 hm H locs hP hD hS ls hl
      rw [LX0_bodyFor_4] at hm
      refine lv_iload_n hx hb dX0_bodyFor_4 rfl (lv_at hl 2 rfl) ?_
      refine lv_bipush (v := 6) hx hb dX0_bodyFor_5 (by decide) ?_
      refine lv_icmp_gt (tgt := 48) hx hb dX0_bodyFor_7 (by decide) (fun c7 => ?_) (fun c7 => ?_)
      · replace hm := it_t c7 hm
        refine va_getsN hx hb hX.1 hS hown (va_Nw.use rfl hX.2.2.2.2.1) (fun _ h9 => h9) dX0_bodyFor_48 ?_
        refine lv_iload_n hx hb dX0_bodyFor_51 rfl (lv_at hl 0 rfl) ?_
        obtain ⟨hg52, hm⟩ := gd_e hm
        refine va_ti hx hb hX.2.1 hS hg52 (v := .int (tabB (x1.toNatClampNeg))) rfl dX0_bodyFor_52 ?_
        cases hm
        exact k_iret hx hb hr hlocks hP hS dX0_bodyFor_53
      · replace hm := it_f c7 hm
        refine lv_iload_n hx hb dX0_bodyFor_10 rfl (lv_at hl 1 rfl) ?_
        refine lv_if_le (tgt := 48) hx hb dX0_bodyFor_11 (by decide) (fun c11 => ?_) (fun c11 => ?_)
        · replace hm := it_t c11 hm
          refine va_getsN hx hb hX.1 hS hown (va_Nw.use rfl hX.2.2.2.2.1) (fun _ h9 => h9) dX0_bodyFor_48 ?_
          refine lv_iload_n hx hb dX0_bodyFor_51 rfl (lv_at hl 0 rfl) ?_
          obtain ⟨hg52, hm⟩ := gd_e hm
          refine va_ti hx hb hX.2.1 hS hg52 (v := .int (tabB (x1.toNatClampNeg))) rfl dX0_bodyFor_52 ?_
          cases hm
          exact k_iret hx hb hr hlocks hP hS dX0_bodyFor_53
        · replace hm := it_f c11 hm
          refine va_getsN hx hb hX.1 hS hown (va_Nw.use rfl hX.2.2.2.2.1) (fun _ h9 => h9) dX0_bodyFor_14 ?_
          refine lv_iload_n hx hb dX0_bodyFor_17 rfl (lv_at hl 1 rfl) ?_
          refine lv_iconst (v := 3) hx hb dX0_bodyFor_18 (by decide) ?_
          refine lv_imul hx hb dX0_bodyFor_19 ?_
          refine lv_iload_n hx hb dX0_bodyFor_20 rfl (lv_at hl 0 rfl) ?_
          refine lv_iadd hx hb dX0_bodyFor_21 ?_
          obtain ⟨hg22, hm⟩ := gd_e hm
          refine va_ti hx hb hX.2.1 hS hg22 (v := .int (tabB (((l2_4 * 3) + x1).toNatClampNeg))) rfl dX0_bodyFor_22 ?_
          refine lv_if_eq (tgt := 36) hx hb dX0_bodyFor_23 (by decide) (fun c23 => ?_) (fun c23 => ?_)
          · replace hm := it_t c23 hm
            refine va_getsN hx hb hX.2.2.1 hS hown (va_Nw.use rfl hX.2.2.2.2.2) (fun _ h9 => h9) dX0_bodyFor_36 ?_
            refine lv_iload_n hx hb dX0_bodyFor_39 rfl (lv_at hl 1 rfl) ?_
            obtain ⟨hg40, hm⟩ := gd_e hm
            refine va_ti hx hb hX.2.2.2.1 hS hg40 (v := .int (tabK (l2_4.toNatClampNeg))) rfl dX0_bodyFor_40 ?_
            refine lv_istore_n (lv' := [(2, .int (tabK (l2_4.toNatClampNeg))), (0, .int x1), (3, .int l3_4)]) hx hb dX0_bodyFor_41 rfl hl (by decide) rfl (fun ls hl => ?_)
            refine lv_iinc (v := l3_4 + 1) (lv' := [(3, .int (l3_4 + 1)), (2, .int (tabK (l2_4.toNatClampNeg))), (0, .int x1)]) hx hb dX0_bodyFor_42 hl (k := 2) rfl rfl (by decide) rfl (fun ls hl => ?_)
            refine lv_goto (tgt := 4) hx hb dX0_bodyFor_45 (by decide) ?_
            exact ih4 (tabK (l2_4.toNatClampNeg)) (l3_4 + 1) hm _ _ hP hD hS _ (lv_sub hl [2, 1, 0] rfl)
          · replace hm := it_f c23 hm
            refine va_getsN hx hb hX.1 hS hown (va_Nw.use rfl hX.2.2.2.2.1) (fun _ h9 => h9) dX0_bodyFor_26 ?_
            refine lv_iload_n hx hb dX0_bodyFor_29 rfl (lv_at hl 1 rfl) ?_
            refine lv_iconst (v := 3) hx hb dX0_bodyFor_30 (by decide) ?_
            refine lv_imul hx hb dX0_bodyFor_31 ?_
            refine lv_iload_n hx hb dX0_bodyFor_32 rfl (lv_at hl 0 rfl) ?_
            refine lv_iadd hx hb dX0_bodyFor_33 ?_
            obtain ⟨hg34, hm⟩ := gd_e hm
            refine va_ti hx hb hX.2.1 hS hg34 (v := .int (tabB (((l2_4 * 3) + x1).toNatClampNeg))) rfl dX0_bodyFor_34 ?_
            cases hm
            exact k_iret hx hb hr hlocks hP hS dX0_bodyFor_35
  exact hL4 _ _ _ hm _ _ hP hD hS _ (lv_sub hl [2, 1, 0] rfl)
abbrev rmX0_perform (n : Nat) : Room := { frames := 40 * n, cells := 0, slots := 0, locals := 1000 * n }
def HFX0_perform (l : Launch) (dC : Nat → ClassId) (dI : Nat → Nat → Nat) (kc : Nat → ClassId) (c_o c_trace : Nat) (tB tK : Nat) (F : (Nat → Int32) → Int32 → Int32 → Int32 → Int32 → Int32 → Int32 → Int32 → Int32 → Option (Int32 × (Nat → Int32) × Int32)) (n : Nat) : Prop := ∀ (ctrace : Nat → Int32) (cran : Int32) (cnumber : Int32) (cv : Int32) (ckind : Int32) (x1 : Int32) (x2 : Int32) (x3 : Int32) (x4 : Int32) (r : Int32) (ctrace' : Nat → Int32) (cran' : Int32), F ctrace cran cnumber cv ckind x1 x2 x3 x4 = some (r, ctrace', cran') → ∀ sz : Nat, Met l yX0_perform wsX0_perform (rmX0_perform n) (kPcX dC dI kc (xB tB tK) [.ref c_o, .int x1, .int x2, .int x3, .int x4] (fl [wdX0 kc c_o c_trace ctrace cran cnumber cv ckind]) sz) (kQi dC dI r (fl [wdX0 kc c_o c_trace ctrace' cran' cnumber cv ckind]) (va_A (fl [wdX0 kc c_o c_trace ctrace cran cnumber cv ckind]) sz)) 0 0 (va_A (fl [wdX0 kc c_o c_trace ctrace cran cnumber cv ckind]) sz)
def gX0_perform (F : (Nat → Int32) → Int32 → Int32 → Int32 → Int32 → Int32 → Int32 → Int32 → Int32 → Option (Int32 × (Nat → Int32) × Int32)) (fu : Nat) (ctrace : Nat → Int32) (cran : Int32) (cnumber : Int32) (cv : Int32) (ckind : Int32) (x1 : Int32) (x2 : Int32) (x3 : Int32) (x4 : Int32) : Option (Int32 × (Nat → Int32) × Int32) := if x4 ≤ 40 then (bd1 (fX0_bodyFor fu x1 x2) (fun r11 => bd2 (fX0_note ctrace cran r11) (fun ctrace_19 cran_19 => if r11 = 11 then (bd3 (F ctrace_19 cran_19 cnumber cv ckind 0 ckind x3 (x4 + 1)) (fun r129 ctrace_129 cran_129 => some (r129 - cv, ctrace_129, cran_129))) else (if r11 = 12 then (bd3 (F ctrace_19 cran_19 cnumber cv ckind 1 ckind x3 (x4 + 1)) (fun r147 ctrace_147 cran_147 => some (r147 * 2, ctrace_147, cran_147))) else (if r11 = 20 then (bd3 (F ctrace_19 cran_19 cnumber cv ckind 1 0 x3 (x4 + 1)) (fun r159 ctrace_159 cran_159 => some (r159 ^^^ 6, ctrace_159, cran_159))) else (if r11 = 30 then (bd3 (F ctrace_19 cran_19 cnumber cv ckind 0 0 (x3 * 3) (x4 + 1)) (fun r174 ctrace_174 cran_174 => some (r174, ctrace_174, cran_174))) else (if r11 = 40 then (bd3 (F ctrace_19 cran_19 cnumber cv ckind 2 0 x3 (x4 + 1)) (fun r184 ctrace_184 cran_184 => bd3 (F ctrace_184 cran_184 cnumber cv ckind 1 ckind 1 (x4 + 1)) (fun r196 ctrace_196 cran_196 => some (r184 + r196, ctrace_196, cran_196)))) else (if r11 = 50 then (bd3 (F ctrace_19 cran_19 cnumber cv ckind 0 1 x3 (x4 + 1)) (fun r207 ctrace_207 cran_207 => some (-r207, ctrace_207, cran_207))) else (if r11 = 51 then (bd3 (F ctrace_19 cran_19 cnumber cv ckind 1 1 (x3 + 1) (x4 + 1)) (fun r220 ctrace_220 cran_220 => some (r220, ctrace_220, cran_220))) else (if r11 = 60 then (bd3 (F ctrace_19 cran_19 cnumber cv ckind 2 2 (x3 - cnumber) (x4 + 1)) (fun r235 ctrace_235 cran_235 => some (r235, ctrace_235, cran_235))) else (if r11 = 70 then (bd3 (F ctrace_19 cran_19 cnumber cv ckind 1 3 x3 (x4 + 1)) (fun r245 ctrace_245 cran_245 => bd3 (F ctrace_245 cran_245 cnumber cv ckind 0 3 2 (x4 + 1)) (fun r254 ctrace_254 cran_254 => some (r245 + r254, ctrace_254, cran_254)))) else (if r11 = 71 then (bd3 (F ctrace_19 cran_19 cnumber cv ckind 0 3 x3 (x4 + 1)) (fun r265 ctrace_265 cran_265 => some (r265 ^^^ cv, ctrace_265, cran_265))) else (some (x3 + cnumber, ctrace_19, cran_19)))))))))))))) else (some ((0 : Int32), ctrace, cran))
theorem hinX0_perform_X0 : ∀ w ∈ u_ws RX0 TX0 5, w ∈ wsX0_perform := fun _ h => List.mem_cons_of_mem _ (List.mem_append_right _ h)
set_option maxHeartbeats 4000000 in
set_option maxRecDepth 100000 in
theorem ctgX0_perform {l : Launch} {dC : Nat → ClassId} {dI : Nat → Nat → Nat} {kc : Nat → ClassId} {c_o c_trace : Nat} {tB tK : Nat} {ctrace : Nat → Int32} {cran : Int32} {cnumber : Int32} {cv : Int32} {ckind : Int32} {x1 : Int32} {x2 : Int32} {x3 : Int32} {x4 : Int32} {fu : Nat} {r : Int32} {ctrace' : Nat → Int32} {cran' : Int32} {F : (Nat → Int32) → Int32 → Int32 → Int32 → Int32 → Int32 → Int32 → Int32 → Int32 → Option (Int32 × (Nat → Int32) × Int32)} {n : Nat} (hF : HFX0_perform l dC dI kc c_o c_trace tB tK F n) (hm : gX0_perform F fu ctrace cran cnumber cv ckind x1 x2 x3 x4 = some (r, ctrace', cran')) : ∀ sz : Nat, Met l yX0_perform wsX0_perform (rmX0_perform (n + 1)) (kPcX dC dI kc (xB tB tK) [.ref c_o, .int x1, .int x2, .int x3, .int x4] (fl [wdX0 kc c_o c_trace ctrace cran cnumber cv ckind]) sz) (kQi dC dI r (fl [wdX0 kc c_o c_trace ctrace' cran' cnumber cv ckind]) (va_A (fl [wdX0 kc c_o c_trace ctrace cran cnumber cv ckind]) sz)) 0 0 (va_A (fl [wdX0 kc c_o c_trace ctrace cran cnumber cv ckind]) sz) := by
  intro sz
  refine kMetX (cc := cX0_perform) (maxL := 7) (ret := (some .int)) (Qf := fun A => kQi dC dI r (fl [wdX0 kc c_o c_trace ctrace' cran' cnumber cv ckind]) A) (by decide) rfl (Nat.le_of_ble_eq_true rfl) ?_
  intro p e s m below meth c A ls hx hb hr hml hts hown hlocks hname hsz hA hP hK hD hX hl
  have hS : va_S A s.heap s.heap [] := va_S.rf
  have hl : lv_has ls 7 [(0, .ref c_o), (1, .int x1), (2, .int x2), (3, .int x3), (4, .int x4)] := hl
  unfold gX0_perform at hm
  refine lv_iload hx hb dX0_perform_0 (lv_at hl 4 rfl) ?_
  refine lv_bipush (v := 40) hx hb dX0_perform_2 (by decide) ?_
  refine lv_icmp_le (tgt := 9) hx hb dX0_perform_4 (by decide) (fun c4 => ?_) (fun c4 => ?_)
  · replace hm := it_t c4 hm
    refine lv_iload_n hx hb dX0_perform_9 rfl (lv_at hl 1 rfl) ?_
    refine lv_iload_n hx hb dX0_perform_10 rfl (lv_at hl 2 rfl) ?_
    obtain ⟨r11, hc11, hm⟩ := bd1_e hm
    refine k_callXGSi (dC := dC) (dI := dI) (kc := kc) (As := [.int x1, .int x2]) (rest := []) (Gs' := [wdX0 kc c_o c_trace ctrace cran cnumber cv ckind]) hx hb hml hown hts hK hP hD hS hA xB_ok hX (ctX0_bodyFor (x1 := x1) (x2 := x2) (tB := tB) (tK := tK) hc11) (va_cwS 2 hts gX0_perform_X0_bodyFor rfl rfl rfl (by decide +kernel) ⟨by dsimp only [headSpec, rmX0_perform, rmX0_bodyFor]; omega, by dsimp only [headSpec, rmX0_perform, rmX0_bodyFor]; omega⟩) [] rfl (by decide) rfl hl rfl (Nat.le_of_ble_eq_true rfl) dX0_perform_11 ⟨Nat.zero_le _, Nat.zero_le _⟩ rfl rfl rfl (fun H locs hP hD hS => ?_)
    refine lv_istore (lv' := [(5, .int r11), (0, .ref c_o), (1, .int x1), (2, .int x2), (3, .int x3), (4, .int x4)]) hx hb dX0_perform_14 hl (by decide) rfl (fun ls hl => ?_)
    refine lv_aload_n hx hb dX0_perform_16 rfl (lv_at hl 1 rfl) ?_
    refine lv_iload hx hb dX0_perform_17 (lv_at hl 0 rfl) ?_
    obtain ⟨ctrace_19, cran_19, hc19, hm⟩ := bd2_e hm
    refine k_callGVv (dC := dC) (dI := dI) (kc := kc) (As := [.int r11]) (rest := []) (Gs' := [wdX0 kc c_o c_trace ctrace_19 cran_19 cnumber cv ckind]) hx hb hml hown hts hK hP hD hS hA (ctX0_note (c_o := c_o) (c_trace := c_trace) (ctrace := ctrace) (cran := cran) (cnumber := cnumber) (cv := cv) (ckind := ckind) (x1 := r11) hc19) (cwV 1 hts gX0_perform_X0_note rfl rfl rfl (by decide +kernel) ⟨by dsimp only [headSpec, rmX0_perform, rmX0_note]; omega, by dsimp only [headSpec, rmX0_perform, rmX0_note]; omega⟩) [0] rfl (by decide) 0 rfl rfl rfl rfl hl rfl (Nat.le_of_ble_eq_true rfl) dX0_perform_19 ⟨Nat.zero_le _, Nat.zero_le _⟩ rfl rfl rfl (fun H locs hP hD hS => ?_)
    refine lv_iload hx hb dX0_perform_22 (lv_at hl 5 rfl) ?_
    refine lv_iconst (v := 1) hx hb dX0_perform_24 (by decide) ?_
    refine lv_iadd hx hb dX0_perform_25 ?_
    refine lv_istore (lv' := [(6, .int (x4 + 1)), (5, .int r11), (0, .ref c_o), (1, .int x1), (2, .int x2), (3, .int x3), (4, .int x4)]) hx hb dX0_perform_26 hl (by decide) rfl (fun ls hl => ?_)
    refine lv_iload hx hb dX0_perform_28 (lv_at hl 1 rfl) ?_
    by_cases cs30_0 : r11 = 11
    · replace hm := it_t cs30_0 hm
      refine lv_lookup (off := 90) (tgt := 120) hx hb dX0_perform_30 (by decide) (by rw [cs30_0]; rfl) (by decide) ?_
      refine lv_aload_n hx hb dX0_perform_120 rfl (lv_at hl 2 rfl) ?_
      refine lv_iconst (v := 0) hx hb dX0_perform_121 (by decide) ?_
      refine lv_aload_n hx hb dX0_perform_122 rfl (lv_at hl 2 rfl) ?_
      refine va_get (D := (dC, dI)) (ci := 0) (v := .int ckind) (C := RX0) (T := TX0) (N := 5) hx hb hts hinX0_perform_X0 hown hK hP 0 rfl rfl 4 (by decide) (hts _ (List.mem_of_getElem? (i := 1) rfl)) (fun _ h9 => h9) rfl dX0_perform_123 ?_
      refine lv_iload_n hx hb dX0_perform_126 rfl (lv_at hl 5 rfl) ?_
      refine lv_iload hx hb dX0_perform_127 (lv_at hl 0 rfl) ?_
      obtain ⟨r129, ctrace_129, cran_129, hc129, hm⟩ := bd3_e hm
      refine k_callXGVi (dC := dC) (dI := dI) (kc := kc) (As := [.int 0, .int ckind, .int x3, .int (x4 + 1)]) (rest := []) (Gs' := [wdX0 kc c_o c_trace ctrace_129 cran_129 cnumber cv ckind]) hx hb hml hown hts hK hP hD hS hA xB_ok hX (hF ctrace_19 cran_19 cnumber cv ckind 0 ckind x3 (x4 + 1) _ _ _ hc129) (cwV 4 hts gX0_perform_X0_perform rfl rfl rfl (by decide +kernel) ⟨by dsimp only [headSpec, rmX0_perform, rmX0_perform]; omega, by dsimp only [headSpec, rmX0_perform, rmX0_perform]; omega⟩) [0] rfl (by decide) (va_recv (q0 := 0) (ci := 0) hK hP rfl rfl) rfl hl rfl (Nat.le_of_ble_eq_true rfl) dX0_perform_129 ⟨Nat.zero_le _, Nat.zero_le _⟩ rfl rfl rfl (fun H locs hP hD hS => ?_)
      refine lv_aload_n hx hb dX0_perform_132 rfl (lv_at hl 2 rfl) ?_
      refine va_get (D := (dC, dI)) (ci := 0) (v := .int cv) (C := RX0) (T := TX0) (N := 5) hx hb hts hinX0_perform_X0 hown hK hP 0 rfl rfl 3 (by decide) (hts _ (List.mem_of_getElem? (i := 2) rfl)) (fun _ h9 => h9) rfl dX0_perform_133 ?_
      refine lv_isub hx hb dX0_perform_136 ?_
      cases hm
      exact k_iret hx hb hr hlocks hP hS dX0_perform_137
    replace hm := it_f cs30_0 hm
    by_cases cs30_1 : r11 = 12
    · replace hm := it_t cs30_1 hm
      refine lv_lookup (off := 108) (tgt := 138) hx hb dX0_perform_30 (by decide) (by rw [cs30_1]; rfl) (by decide) ?_
      refine lv_aload_n hx hb dX0_perform_138 rfl (lv_at hl 2 rfl) ?_
      refine lv_iconst (v := 1) hx hb dX0_perform_139 (by decide) ?_
      refine lv_aload_n hx hb dX0_perform_140 rfl (lv_at hl 2 rfl) ?_
      refine va_get (D := (dC, dI)) (ci := 0) (v := .int ckind) (C := RX0) (T := TX0) (N := 5) hx hb hts hinX0_perform_X0 hown hK hP 0 rfl rfl 4 (by decide) (hts _ (List.mem_of_getElem? (i := 1) rfl)) (fun _ h9 => h9) rfl dX0_perform_141 ?_
      refine lv_iload_n hx hb dX0_perform_144 rfl (lv_at hl 5 rfl) ?_
      refine lv_iload hx hb dX0_perform_145 (lv_at hl 0 rfl) ?_
      obtain ⟨r147, ctrace_147, cran_147, hc147, hm⟩ := bd3_e hm
      refine k_callXGVi (dC := dC) (dI := dI) (kc := kc) (As := [.int 1, .int ckind, .int x3, .int (x4 + 1)]) (rest := []) (Gs' := [wdX0 kc c_o c_trace ctrace_147 cran_147 cnumber cv ckind]) hx hb hml hown hts hK hP hD hS hA xB_ok hX (hF ctrace_19 cran_19 cnumber cv ckind 1 ckind x3 (x4 + 1) _ _ _ hc147) (cwV 4 hts gX0_perform_X0_perform rfl rfl rfl (by decide +kernel) ⟨by dsimp only [headSpec, rmX0_perform, rmX0_perform]; omega, by dsimp only [headSpec, rmX0_perform, rmX0_perform]; omega⟩) [0] rfl (by decide) (va_recv (q0 := 0) (ci := 0) hK hP rfl rfl) rfl hl rfl (Nat.le_of_ble_eq_true rfl) dX0_perform_147 ⟨Nat.zero_le _, Nat.zero_le _⟩ rfl rfl rfl (fun H locs hP hD hS => ?_)
      refine lv_iconst (v := 2) hx hb dX0_perform_150 (by decide) ?_
      refine lv_imul hx hb dX0_perform_151 ?_
      cases hm
      exact k_iret hx hb hr hlocks hP hS dX0_perform_152
    replace hm := it_f cs30_1 hm
    by_cases cs30_2 : r11 = 20
    · replace hm := it_t cs30_2 hm
      refine lv_lookup (off := 123) (tgt := 153) hx hb dX0_perform_30 (by decide) (by rw [cs30_2]; rfl) (by decide) ?_
      refine lv_aload_n hx hb dX0_perform_153 rfl (lv_at hl 2 rfl) ?_
      refine lv_iconst (v := 1) hx hb dX0_perform_154 (by decide) ?_
      refine lv_iconst (v := 0) hx hb dX0_perform_155 (by decide) ?_
      refine lv_iload_n hx hb dX0_perform_156 rfl (lv_at hl 5 rfl) ?_
      refine lv_iload hx hb dX0_perform_157 (lv_at hl 0 rfl) ?_
      obtain ⟨r159, ctrace_159, cran_159, hc159, hm⟩ := bd3_e hm
      refine k_callXGVi (dC := dC) (dI := dI) (kc := kc) (As := [.int 1, .int 0, .int x3, .int (x4 + 1)]) (rest := []) (Gs' := [wdX0 kc c_o c_trace ctrace_159 cran_159 cnumber cv ckind]) hx hb hml hown hts hK hP hD hS hA xB_ok hX (hF ctrace_19 cran_19 cnumber cv ckind 1 0 x3 (x4 + 1) _ _ _ hc159) (cwV 4 hts gX0_perform_X0_perform rfl rfl rfl (by decide +kernel) ⟨by dsimp only [headSpec, rmX0_perform, rmX0_perform]; omega, by dsimp only [headSpec, rmX0_perform, rmX0_perform]; omega⟩) [0] rfl (by decide) (va_recv (q0 := 0) (ci := 0) hK hP rfl rfl) rfl hl rfl (Nat.le_of_ble_eq_true rfl) dX0_perform_159 ⟨Nat.zero_le _, Nat.zero_le _⟩ rfl rfl rfl (fun H locs hP hD hS => ?_)
      refine lv_bipush (v := 6) hx hb dX0_perform_162 (by decide) ?_
      refine lv_ixor hx hb dX0_perform_164 ?_
      cases hm
      exact k_iret hx hb hr hlocks hP hS dX0_perform_165
    replace hm := it_f cs30_2 hm
    by_cases cs30_3 : r11 = 30
    · replace hm := it_t cs30_3 hm
      refine lv_lookup (off := 136) (tgt := 166) hx hb dX0_perform_30 (by decide) (by rw [cs30_3]; rfl) (by decide) ?_
      refine lv_aload_n hx hb dX0_perform_166 rfl (lv_at hl 2 rfl) ?_
      refine lv_iconst (v := 0) hx hb dX0_perform_167 (by decide) ?_
      refine lv_iconst (v := 0) hx hb dX0_perform_168 (by decide) ?_
      refine lv_iload_n hx hb dX0_perform_169 rfl (lv_at hl 5 rfl) ?_
      refine lv_iconst (v := 3) hx hb dX0_perform_170 (by decide) ?_
      refine lv_imul hx hb dX0_perform_171 ?_
      refine lv_iload hx hb dX0_perform_172 (lv_at hl 0 rfl) ?_
      obtain ⟨r174, ctrace_174, cran_174, hc174, hm⟩ := bd3_e hm
      refine k_callXGVi (dC := dC) (dI := dI) (kc := kc) (As := [.int 0, .int 0, .int (x3 * 3), .int (x4 + 1)]) (rest := []) (Gs' := [wdX0 kc c_o c_trace ctrace_174 cran_174 cnumber cv ckind]) hx hb hml hown hts hK hP hD hS hA xB_ok hX (hF ctrace_19 cran_19 cnumber cv ckind 0 0 (x3 * 3) (x4 + 1) _ _ _ hc174) (cwV 4 hts gX0_perform_X0_perform rfl rfl rfl (by decide +kernel) ⟨by dsimp only [headSpec, rmX0_perform, rmX0_perform]; omega, by dsimp only [headSpec, rmX0_perform, rmX0_perform]; omega⟩) [0] rfl (by decide) (va_recv (q0 := 0) (ci := 0) hK hP rfl rfl) rfl hl rfl (Nat.le_of_ble_eq_true rfl) dX0_perform_174 ⟨Nat.zero_le _, Nat.zero_le _⟩ rfl rfl rfl (fun H locs hP hD hS => ?_)
      cases hm
      exact k_iret hx hb hr hlocks hP hS dX0_perform_177
    replace hm := it_f cs30_3 hm
    by_cases cs30_4 : r11 = 40
    · replace hm := it_t cs30_4 hm
      refine lv_lookup (off := 148) (tgt := 178) hx hb dX0_perform_30 (by decide) (by rw [cs30_4]; rfl) (by decide) ?_
      refine lv_aload_n hx hb dX0_perform_178 rfl (lv_at hl 2 rfl) ?_
      refine lv_iconst (v := 2) hx hb dX0_perform_179 (by decide) ?_
      refine lv_iconst (v := 0) hx hb dX0_perform_180 (by decide) ?_
      refine lv_iload_n hx hb dX0_perform_181 rfl (lv_at hl 5 rfl) ?_
      refine lv_iload hx hb dX0_perform_182 (lv_at hl 0 rfl) ?_
      obtain ⟨r184, ctrace_184, cran_184, hc184, hm⟩ := bd3_e hm
      refine k_callXGVi (dC := dC) (dI := dI) (kc := kc) (As := [.int 2, .int 0, .int x3, .int (x4 + 1)]) (rest := []) (Gs' := [wdX0 kc c_o c_trace ctrace_184 cran_184 cnumber cv ckind]) hx hb hml hown hts hK hP hD hS hA xB_ok hX (hF ctrace_19 cran_19 cnumber cv ckind 2 0 x3 (x4 + 1) _ _ _ hc184) (cwV 4 hts gX0_perform_X0_perform rfl rfl rfl (by decide +kernel) ⟨by dsimp only [headSpec, rmX0_perform, rmX0_perform]; omega, by dsimp only [headSpec, rmX0_perform, rmX0_perform]; omega⟩) [0] rfl (by decide) (va_recv (q0 := 0) (ci := 0) hK hP rfl rfl) rfl hl rfl (Nat.le_of_ble_eq_true rfl) dX0_perform_184 ⟨Nat.zero_le _, Nat.zero_le _⟩ rfl rfl rfl (fun H locs hP hD hS => ?_)
      refine lv_aload_n hx hb dX0_perform_187 rfl (lv_at hl 2 rfl) ?_
      refine lv_iconst (v := 1) hx hb dX0_perform_188 (by decide) ?_
      refine lv_aload_n hx hb dX0_perform_189 rfl (lv_at hl 2 rfl) ?_
      refine va_get (D := (dC, dI)) (ci := 0) (v := .int ckind) (C := RX0) (T := TX0) (N := 5) hx hb hts hinX0_perform_X0 hown hK hP 0 rfl rfl 4 (by decide) (hts _ (List.mem_of_getElem? (i := 1) rfl)) (fun _ h9 => h9) rfl dX0_perform_190 ?_
      refine lv_iconst (v := 1) hx hb dX0_perform_193 (by decide) ?_
      refine lv_iload hx hb dX0_perform_194 (lv_at hl 0 rfl) ?_
      obtain ⟨r196, ctrace_196, cran_196, hc196, hm⟩ := bd3_e hm
      refine k_callXGVi (dC := dC) (dI := dI) (kc := kc) (As := [.int 1, .int ckind, .int 1, .int (x4 + 1)]) (rest := [.int r184]) (Gs' := [wdX0 kc c_o c_trace ctrace_196 cran_196 cnumber cv ckind]) hx hb hml hown hts hK hP hD hS hA xB_ok hX (hF ctrace_184 cran_184 cnumber cv ckind 1 ckind 1 (x4 + 1) _ _ _ hc196) (cwV 4 hts gX0_perform_X0_perform rfl rfl rfl (by decide +kernel) ⟨by dsimp only [headSpec, rmX0_perform, rmX0_perform]; omega, by dsimp only [headSpec, rmX0_perform, rmX0_perform]; omega⟩) [0] rfl (by decide) (va_recv (q0 := 0) (ci := 0) hK hP rfl rfl) rfl hl rfl (Nat.le_of_ble_eq_true rfl) dX0_perform_196 ⟨Nat.zero_le _, Nat.zero_le _⟩ rfl rfl rfl (fun H locs hP hD hS => ?_)
      refine lv_iadd hx hb dX0_perform_199 ?_
      cases hm
      exact k_iret hx hb hr hlocks hP hS dX0_perform_200
    replace hm := it_f cs30_4 hm
    by_cases cs30_5 : r11 = 50
    · replace hm := it_t cs30_5 hm
      refine lv_lookup (off := 171) (tgt := 201) hx hb dX0_perform_30 (by decide) (by rw [cs30_5]; rfl) (by decide) ?_
      refine lv_aload_n hx hb dX0_perform_201 rfl (lv_at hl 2 rfl) ?_
      refine lv_iconst (v := 0) hx hb dX0_perform_202 (by decide) ?_
      refine lv_iconst (v := 1) hx hb dX0_perform_203 (by decide) ?_
      refine lv_iload_n hx hb dX0_perform_204 rfl (lv_at hl 5 rfl) ?_
      refine lv_iload hx hb dX0_perform_205 (lv_at hl 0 rfl) ?_
      obtain ⟨r207, ctrace_207, cran_207, hc207, hm⟩ := bd3_e hm
      refine k_callXGVi (dC := dC) (dI := dI) (kc := kc) (As := [.int 0, .int 1, .int x3, .int (x4 + 1)]) (rest := []) (Gs' := [wdX0 kc c_o c_trace ctrace_207 cran_207 cnumber cv ckind]) hx hb hml hown hts hK hP hD hS hA xB_ok hX (hF ctrace_19 cran_19 cnumber cv ckind 0 1 x3 (x4 + 1) _ _ _ hc207) (cwV 4 hts gX0_perform_X0_perform rfl rfl rfl (by decide +kernel) ⟨by dsimp only [headSpec, rmX0_perform, rmX0_perform]; omega, by dsimp only [headSpec, rmX0_perform, rmX0_perform]; omega⟩) [0] rfl (by decide) (va_recv (q0 := 0) (ci := 0) hK hP rfl rfl) rfl hl rfl (Nat.le_of_ble_eq_true rfl) dX0_perform_207 ⟨Nat.zero_le _, Nat.zero_le _⟩ rfl rfl rfl (fun H locs hP hD hS => ?_)
      refine lv_ineg hx hb dX0_perform_210 ?_
      cases hm
      exact k_iret hx hb hr hlocks hP hS dX0_perform_211
    replace hm := it_f cs30_5 hm
    by_cases cs30_6 : r11 = 51
    · replace hm := it_t cs30_6 hm
      refine lv_lookup (off := 182) (tgt := 212) hx hb dX0_perform_30 (by decide) (by rw [cs30_6]; rfl) (by decide) ?_
      refine lv_aload_n hx hb dX0_perform_212 rfl (lv_at hl 2 rfl) ?_
      refine lv_iconst (v := 1) hx hb dX0_perform_213 (by decide) ?_
      refine lv_iconst (v := 1) hx hb dX0_perform_214 (by decide) ?_
      refine lv_iload_n hx hb dX0_perform_215 rfl (lv_at hl 5 rfl) ?_
      refine lv_iconst (v := 1) hx hb dX0_perform_216 (by decide) ?_
      refine lv_iadd hx hb dX0_perform_217 ?_
      refine lv_iload hx hb dX0_perform_218 (lv_at hl 0 rfl) ?_
      obtain ⟨r220, ctrace_220, cran_220, hc220, hm⟩ := bd3_e hm
      refine k_callXGVi (dC := dC) (dI := dI) (kc := kc) (As := [.int 1, .int 1, .int (x3 + 1), .int (x4 + 1)]) (rest := []) (Gs' := [wdX0 kc c_o c_trace ctrace_220 cran_220 cnumber cv ckind]) hx hb hml hown hts hK hP hD hS hA xB_ok hX (hF ctrace_19 cran_19 cnumber cv ckind 1 1 (x3 + 1) (x4 + 1) _ _ _ hc220) (cwV 4 hts gX0_perform_X0_perform rfl rfl rfl (by decide +kernel) ⟨by dsimp only [headSpec, rmX0_perform, rmX0_perform]; omega, by dsimp only [headSpec, rmX0_perform, rmX0_perform]; omega⟩) [0] rfl (by decide) (va_recv (q0 := 0) (ci := 0) hK hP rfl rfl) rfl hl rfl (Nat.le_of_ble_eq_true rfl) dX0_perform_220 ⟨Nat.zero_le _, Nat.zero_le _⟩ rfl rfl rfl (fun H locs hP hD hS => ?_)
      cases hm
      exact k_iret hx hb hr hlocks hP hS dX0_perform_223
    replace hm := it_f cs30_6 hm
    by_cases cs30_7 : r11 = 60
    · replace hm := it_t cs30_7 hm
      refine lv_lookup (off := 194) (tgt := 224) hx hb dX0_perform_30 (by decide) (by rw [cs30_7]; rfl) (by decide) ?_
      refine lv_aload_n hx hb dX0_perform_224 rfl (lv_at hl 2 rfl) ?_
      refine lv_iconst (v := 2) hx hb dX0_perform_225 (by decide) ?_
      refine lv_iconst (v := 2) hx hb dX0_perform_226 (by decide) ?_
      refine lv_iload_n hx hb dX0_perform_227 rfl (lv_at hl 5 rfl) ?_
      refine lv_aload_n hx hb dX0_perform_228 rfl (lv_at hl 2 rfl) ?_
      refine va_get (D := (dC, dI)) (ci := 0) (v := .int cnumber) (C := RX0) (T := TX0) (N := 5) hx hb hts hinX0_perform_X0 hown hK hP 0 rfl rfl 2 (by decide) (hts _ (List.mem_of_getElem? (i := 3) rfl)) (fun _ h9 => h9) rfl dX0_perform_229 ?_
      refine lv_isub hx hb dX0_perform_232 ?_
      refine lv_iload hx hb dX0_perform_233 (lv_at hl 0 rfl) ?_
      obtain ⟨r235, ctrace_235, cran_235, hc235, hm⟩ := bd3_e hm
      refine k_callXGVi (dC := dC) (dI := dI) (kc := kc) (As := [.int 2, .int 2, .int (x3 - cnumber), .int (x4 + 1)]) (rest := []) (Gs' := [wdX0 kc c_o c_trace ctrace_235 cran_235 cnumber cv ckind]) hx hb hml hown hts hK hP hD hS hA xB_ok hX (hF ctrace_19 cran_19 cnumber cv ckind 2 2 (x3 - cnumber) (x4 + 1) _ _ _ hc235) (cwV 4 hts gX0_perform_X0_perform rfl rfl rfl (by decide +kernel) ⟨by dsimp only [headSpec, rmX0_perform, rmX0_perform]; omega, by dsimp only [headSpec, rmX0_perform, rmX0_perform]; omega⟩) [0] rfl (by decide) (va_recv (q0 := 0) (ci := 0) hK hP rfl rfl) rfl hl rfl (Nat.le_of_ble_eq_true rfl) dX0_perform_235 ⟨Nat.zero_le _, Nat.zero_le _⟩ rfl rfl rfl (fun H locs hP hD hS => ?_)
      cases hm
      exact k_iret hx hb hr hlocks hP hS dX0_perform_238
    replace hm := it_f cs30_7 hm
    by_cases cs30_8 : r11 = 70
    · replace hm := it_t cs30_8 hm
      refine lv_lookup (off := 209) (tgt := 239) hx hb dX0_perform_30 (by decide) (by rw [cs30_8]; rfl) (by decide) ?_
      refine lv_aload_n hx hb dX0_perform_239 rfl (lv_at hl 2 rfl) ?_
      refine lv_iconst (v := 1) hx hb dX0_perform_240 (by decide) ?_
      refine lv_iconst (v := 3) hx hb dX0_perform_241 (by decide) ?_
      refine lv_iload_n hx hb dX0_perform_242 rfl (lv_at hl 5 rfl) ?_
      refine lv_iload hx hb dX0_perform_243 (lv_at hl 0 rfl) ?_
      obtain ⟨r245, ctrace_245, cran_245, hc245, hm⟩ := bd3_e hm
      refine k_callXGVi (dC := dC) (dI := dI) (kc := kc) (As := [.int 1, .int 3, .int x3, .int (x4 + 1)]) (rest := []) (Gs' := [wdX0 kc c_o c_trace ctrace_245 cran_245 cnumber cv ckind]) hx hb hml hown hts hK hP hD hS hA xB_ok hX (hF ctrace_19 cran_19 cnumber cv ckind 1 3 x3 (x4 + 1) _ _ _ hc245) (cwV 4 hts gX0_perform_X0_perform rfl rfl rfl (by decide +kernel) ⟨by dsimp only [headSpec, rmX0_perform, rmX0_perform]; omega, by dsimp only [headSpec, rmX0_perform, rmX0_perform]; omega⟩) [0] rfl (by decide) (va_recv (q0 := 0) (ci := 0) hK hP rfl rfl) rfl hl rfl (Nat.le_of_ble_eq_true rfl) dX0_perform_245 ⟨Nat.zero_le _, Nat.zero_le _⟩ rfl rfl rfl (fun H locs hP hD hS => ?_)
      refine lv_aload_n hx hb dX0_perform_248 rfl (lv_at hl 2 rfl) ?_
      refine lv_iconst (v := 0) hx hb dX0_perform_249 (by decide) ?_
      refine lv_iconst (v := 3) hx hb dX0_perform_250 (by decide) ?_
      refine lv_iconst (v := 2) hx hb dX0_perform_251 (by decide) ?_
      refine lv_iload hx hb dX0_perform_252 (lv_at hl 0 rfl) ?_
      obtain ⟨r254, ctrace_254, cran_254, hc254, hm⟩ := bd3_e hm
      refine k_callXGVi (dC := dC) (dI := dI) (kc := kc) (As := [.int 0, .int 3, .int 2, .int (x4 + 1)]) (rest := [.int r245]) (Gs' := [wdX0 kc c_o c_trace ctrace_254 cran_254 cnumber cv ckind]) hx hb hml hown hts hK hP hD hS hA xB_ok hX (hF ctrace_245 cran_245 cnumber cv ckind 0 3 2 (x4 + 1) _ _ _ hc254) (cwV 4 hts gX0_perform_X0_perform rfl rfl rfl (by decide +kernel) ⟨by dsimp only [headSpec, rmX0_perform, rmX0_perform]; omega, by dsimp only [headSpec, rmX0_perform, rmX0_perform]; omega⟩) [0] rfl (by decide) (va_recv (q0 := 0) (ci := 0) hK hP rfl rfl) rfl hl rfl (Nat.le_of_ble_eq_true rfl) dX0_perform_254 ⟨Nat.zero_le _, Nat.zero_le _⟩ rfl rfl rfl (fun H locs hP hD hS => ?_)
      refine lv_iadd hx hb dX0_perform_257 ?_
      cases hm
      exact k_iret hx hb hr hlocks hP hS dX0_perform_258
    replace hm := it_f cs30_8 hm
    by_cases cs30_9 : r11 = 71
    · replace hm := it_t cs30_9 hm
      refine lv_lookup (off := 229) (tgt := 259) hx hb dX0_perform_30 (by decide) (by rw [cs30_9]; rfl) (by decide) ?_
      refine lv_aload_n hx hb dX0_perform_259 rfl (lv_at hl 2 rfl) ?_
      refine lv_iconst (v := 0) hx hb dX0_perform_260 (by decide) ?_
      refine lv_iconst (v := 3) hx hb dX0_perform_261 (by decide) ?_
      refine lv_iload_n hx hb dX0_perform_262 rfl (lv_at hl 5 rfl) ?_
      refine lv_iload hx hb dX0_perform_263 (lv_at hl 0 rfl) ?_
      obtain ⟨r265, ctrace_265, cran_265, hc265, hm⟩ := bd3_e hm
      refine k_callXGVi (dC := dC) (dI := dI) (kc := kc) (As := [.int 0, .int 3, .int x3, .int (x4 + 1)]) (rest := []) (Gs' := [wdX0 kc c_o c_trace ctrace_265 cran_265 cnumber cv ckind]) hx hb hml hown hts hK hP hD hS hA xB_ok hX (hF ctrace_19 cran_19 cnumber cv ckind 0 3 x3 (x4 + 1) _ _ _ hc265) (cwV 4 hts gX0_perform_X0_perform rfl rfl rfl (by decide +kernel) ⟨by dsimp only [headSpec, rmX0_perform, rmX0_perform]; omega, by dsimp only [headSpec, rmX0_perform, rmX0_perform]; omega⟩) [0] rfl (by decide) (va_recv (q0 := 0) (ci := 0) hK hP rfl rfl) rfl hl rfl (Nat.le_of_ble_eq_true rfl) dX0_perform_265 ⟨Nat.zero_le _, Nat.zero_le _⟩ rfl rfl rfl (fun H locs hP hD hS => ?_)
      refine lv_aload_n hx hb dX0_perform_268 rfl (lv_at hl 2 rfl) ?_
      refine va_get (D := (dC, dI)) (ci := 0) (v := .int cv) (C := RX0) (T := TX0) (N := 5) hx hb hts hinX0_perform_X0 hown hK hP 0 rfl rfl 3 (by decide) (hts _ (List.mem_of_getElem? (i := 2) rfl)) (fun _ h9 => h9) rfl dX0_perform_269 ?_
      refine lv_ixor hx hb dX0_perform_272 ?_
      cases hm
      exact k_iret hx hb hr hlocks hP hS dX0_perform_273
    replace hm := it_f cs30_9 hm
    refine lv_lookup (off := 244) (tgt := 274) hx hb dX0_perform_30 (by decide) (by rw [lv_osw cs30_0 (by decide)]; rw [lv_osw cs30_1 (by decide)]; rw [lv_osw cs30_2 (by decide)]; rw [lv_osw cs30_3 (by decide)]; rw [lv_osw cs30_4 (by decide)]; rw [lv_osw cs30_5 (by decide)]; rw [lv_osw cs30_6 (by decide)]; rw [lv_osw cs30_7 (by decide)]; rw [lv_osw cs30_8 (by decide)]; rw [lv_osw cs30_9 (by decide)]; rfl) (by decide) ?_
    refine lv_iload_n hx hb dX0_perform_274 rfl (lv_at hl 5 rfl) ?_
    refine lv_aload_n hx hb dX0_perform_275 rfl (lv_at hl 2 rfl) ?_
    refine va_get (D := (dC, dI)) (ci := 0) (v := .int cnumber) (C := RX0) (T := TX0) (N := 5) hx hb hts hinX0_perform_X0 hown hK hP 0 rfl rfl 2 (by decide) (hts _ (List.mem_of_getElem? (i := 3) rfl)) (fun _ h9 => h9) rfl dX0_perform_276 ?_
    refine lv_iadd hx hb dX0_perform_279 ?_
    cases hm
    exact k_iret hx hb hr hlocks hP hS dX0_perform_280
  · replace hm := it_f c4 hm
    refine lv_iconst (v := 0) hx hb dX0_perform_7 (by decide) ?_
    cases hm
    exact k_iret hx hb hr hlocks hP hS dX0_perform_8
def fX0_perform (fu : Nat) : Nat → (Nat → Int32) → Int32 → Int32 → Int32 → Int32 → Int32 → Int32 → Int32 → Int32 → Option (Int32 × (Nat → Int32) × Int32)
  | 0, _, _, _, _, _, _, _, _, _ => none
  | n + 1, ctrace, cran, cnumber, cv, ckind, x1, x2, x3, x4 => gX0_perform (fX0_perform fu n) fu ctrace cran cnumber cv ckind x1 x2 x3 x4
theorem hFX0_perform {l : Launch} {dC : Nat → ClassId} {dI : Nat → Nat → Nat} {kc : Nat → ClassId} {c_o c_trace : Nat} {tB tK : Nat} {fu : Nat} : ∀ {n : Nat}, HFX0_perform l dC dI kc c_o c_trace tB tK (fX0_perform fu n) n := by
  intro n
  induction n with
  | zero => intro ctrace cran cnumber cv ckind x1 x2 x3 x4 r ctrace' cran' hm; rw [fX0_perform] at hm; cases hm
  | succ n ih => intro ctrace cran cnumber cv ckind x1 x2 x3 x4 r ctrace' cran' hm ; rw [fX0_perform] at hm; exact ctgX0_perform ih hm 
def fX0_start (fu : Nat) (ctrace : Nat → Int32) (cran : Int32) (cnumber : Int32) (cv : Int32) (ckind : Int32) (wkind : Nat → Int32) (wv : Nat → Int32) (x2 : Int32) (x3 : Int32) (x4 : Int32) : Option (Int32 × (Nat → Int32) × Int32 × Int32 × Int32 × Int32) := gd (inb x2 6) (gd (inb x2 6) (bd3 (fX0_perform fu 14 ctrace cran x2 (wv (x2.toNatClampNeg)) (wkind (x2.toNatClampNeg)) x3 (wkind (x2.toNatClampNeg)) x4 0) (fun r34 ctrace_34 cran_34 => some (r34, ctrace_34, cran_34, x2, wv (x2.toNatClampNeg), wkind (x2.toNatClampNeg)))))
theorem hinX0_start_X0 : ∀ w ∈ u_ws RX0 TX0 5, w ∈ wsX0_start := fun _ h => List.mem_cons_of_mem _ (List.mem_append_left _ (List.mem_append_right _ h))
theorem hinX0_start_X2 : ∀ w ∈ u_ws RX2 TX2 14, w ∈ wsX0_start := fun _ h => List.mem_cons_of_mem _ (List.mem_append_right _ h)
abbrev rmX0_start : Room := { frames := 569, cells := 0, slots := 0, locals := 14400 }
set_option maxHeartbeats 4000000 in
set_option maxRecDepth 100000 in
theorem ctX0_start {l : Launch} {dC : Nat → ClassId} {dI : Nat → Nat → Nat} {kc : Nat → ClassId} {c_o c_trace w_o w_kind w_v w_place w_rows w_length w_first w_second w_drifts w_traits : Nat} {tB tK : Nat} {ctrace : Nat → Int32} {cran : Int32} {cnumber : Int32} {cv : Int32} {ckind : Int32} {wpeople : Int32} {wkind : Nat → Int32} {wv : Nat → Int32} {wplace : Nat → Int32} {wrows : Nat → Int32} {wleaves : Int32} {wlength : Nat → Int32} {wfirst : Nat → Int32} {wsecond : Nat → Int32} {wdrops : Int32} {wstep : Int32} {wlibrary : Option Nat} {wdrifts : Nat → Int32} {wtraits : Nat → Int32} {x2 : Int32} {x3 : Int32} {x4 : Int32} {fu : Nat} {r : Int32} {ctrace' : Nat → Int32} {cran' : Int32} {cnumber' : Int32} {cv' : Int32} {ckind' : Int32} (hm : fX0_start fu ctrace cran cnumber cv ckind wkind wv x2 x3 x4 = some (r, ctrace', cran', cnumber', cv', ckind')) : ∀ sz : Nat, Met l yX0_start wsX0_start rmX0_start (kPcX dC dI kc (xB tB tK) [.ref c_o, .ref w_o, .int x2, .int x3, .int x4] (fl [wdX0 kc c_o c_trace ctrace cran cnumber cv ckind, wdX2 kc w_o w_kind w_v w_place w_rows w_length w_first w_second w_drifts w_traits wpeople wkind wv wplace wrows wleaves wlength wfirst wsecond wdrops wstep wlibrary wdrifts wtraits]) sz) (kQi dC dI r (fl [wdX0 kc c_o c_trace ctrace' cran' cnumber' cv' ckind', wdX2 kc w_o w_kind w_v w_place w_rows w_length w_first w_second w_drifts w_traits wpeople wkind wv wplace wrows wleaves wlength wfirst wsecond wdrops wstep wlibrary wdrifts wtraits]) (va_A (fl [wdX0 kc c_o c_trace ctrace cran cnumber cv ckind, wdX2 kc w_o w_kind w_v w_place w_rows w_length w_first w_second w_drifts w_traits wpeople wkind wv wplace wrows wleaves wlength wfirst wsecond wdrops wstep wlibrary wdrifts wtraits]) sz)) 0 0 (va_A (fl [wdX0 kc c_o c_trace ctrace cran cnumber cv ckind, wdX2 kc w_o w_kind w_v w_place w_rows w_length w_first w_second w_drifts w_traits wpeople wkind wv wplace wrows wleaves wlength wfirst wsecond wdrops wstep wlibrary wdrifts wtraits]) sz) := by
  intro sz
  refine kMetX (cc := cX0_start) (maxL := 5) (ret := (some .int)) (Qf := fun A => kQi dC dI r (fl [wdX0 kc c_o c_trace ctrace' cran' cnumber' cv' ckind', wdX2 kc w_o w_kind w_v w_place w_rows w_length w_first w_second w_drifts w_traits wpeople wkind wv wplace wrows wleaves wlength wfirst wsecond wdrops wstep wlibrary wdrifts wtraits]) A) (by decide) rfl (Nat.le_of_ble_eq_true rfl) ?_
  intro p e s m below meth c A ls hx hb hr hml hts hown hlocks hname hsz hA hP hK hD hX hl
  have hS : va_S A s.heap s.heap [] := va_S.rf
  have hl : lv_has ls 5 [(0, .ref c_o), (1, .ref w_o), (2, .int x2), (3, .int x3), (4, .int x4)] := hl
  unfold fX0_start at hm
  refine lv_aload_n hx hb dX0_start_0 rfl (lv_at hl 0 rfl) ?_
  refine lv_iload_n hx hb dX0_start_1 rfl (lv_at hl 2 rfl) ?_
  refine va_put (D := (dC, dI)) (ci := 0) (v := .int x2) (ty := .int) (C := RX0) (T := TX0) (N := 5) hx hb hts hinX0_start_X0 tyX0 tyX0_ok nmX0 hown hK hP hD hS 0 rfl rfl 2 (by decide) (hts _ (List.mem_of_getElem? (i := 1) rfl)) (fun _ h9 => h9) rfl (by decide +kernel) rfl rfl (Nat.le_of_ble_eq_true rfl) dX0_start_2 (fun H locs hP hD hS => ?_)
  have hP : va_P (dC, dI) vwCl (fl [wdX0 kc c_o c_trace ctrace cran x2 cv ckind, wdX2 kc w_o w_kind w_v w_place w_rows w_length w_first w_second w_drifts w_traits wpeople wkind wv wplace wrows wleaves wlength wfirst wsecond wdrops wstep wlibrary wdrifts wtraits]) H := hP
  have hD : va_D A (fl [wdX0 kc c_o c_trace ctrace cran x2 cv ckind, wdX2 kc w_o w_kind w_v w_place w_rows w_length w_first w_second w_drifts w_traits wpeople wkind wv wplace wrows wleaves wlength wfirst wsecond wdrops wstep wlibrary wdrifts wtraits]) := hD
  refine lv_aload_n hx hb dX0_start_5 rfl (lv_at hl 0 rfl) ?_
  refine lv_aload_n hx hb dX0_start_6 rfl (lv_at hl 1 rfl) ?_
  refine va_get (D := (dC, dI)) (ci := 2) (v := .ref w_v) (C := RX2) (T := TX2) (N := 14) hx hb hts hinX0_start_X2 hown hK hP 2 rfl rfl 2 (by decide) (hts _ (List.mem_of_getElem? (i := 2) rfl)) (fun _ h9 => h9) rfl dX0_start_7 ?_
  refine lv_iload_n hx hb dX0_start_10 rfl (lv_at hl 2 rfl) ?_
  obtain ⟨hg11, hm⟩ := gd_e hm
  refine k_iald (D := (dC, dI)) hx hb hK hP 4 1 rfl rfl (k := x2.toNatClampNeg) rfl hg11 dX0_start_11 ?_
  refine va_put (D := (dC, dI)) (ci := 0) (v := .int (wv (x2.toNatClampNeg))) (ty := .int) (C := RX0) (T := TX0) (N := 5) hx hb hts hinX0_start_X0 tyX0 tyX0_ok nmX0 hown hK hP hD hS 0 rfl rfl 3 (by decide) (hts _ (List.mem_of_getElem? (i := 3) rfl)) (fun _ h9 => h9) rfl (by decide +kernel) rfl rfl (Nat.le_of_ble_eq_true rfl) dX0_start_12 (fun H locs hP hD hS => ?_)
  have hP : va_P (dC, dI) vwCl (fl [wdX0 kc c_o c_trace ctrace cran x2 (wv (x2.toNatClampNeg)) ckind, wdX2 kc w_o w_kind w_v w_place w_rows w_length w_first w_second w_drifts w_traits wpeople wkind wv wplace wrows wleaves wlength wfirst wsecond wdrops wstep wlibrary wdrifts wtraits]) H := hP
  have hD : va_D A (fl [wdX0 kc c_o c_trace ctrace cran x2 (wv (x2.toNatClampNeg)) ckind, wdX2 kc w_o w_kind w_v w_place w_rows w_length w_first w_second w_drifts w_traits wpeople wkind wv wplace wrows wleaves wlength wfirst wsecond wdrops wstep wlibrary wdrifts wtraits]) := hD
  refine lv_aload_n hx hb dX0_start_15 rfl (lv_at hl 0 rfl) ?_
  refine lv_aload_n hx hb dX0_start_16 rfl (lv_at hl 1 rfl) ?_
  refine va_get (D := (dC, dI)) (ci := 2) (v := .ref w_kind) (C := RX2) (T := TX2) (N := 14) hx hb hts hinX0_start_X2 hown hK hP 2 rfl rfl 1 (by decide) (hts _ (List.mem_of_getElem? (i := 4) rfl)) (fun _ h9 => h9) rfl dX0_start_17 ?_
  refine lv_iload_n hx hb dX0_start_20 rfl (lv_at hl 2 rfl) ?_
  obtain ⟨hg21, hm⟩ := gd_e hm
  refine k_iald (D := (dC, dI)) hx hb hK hP 3 1 rfl rfl (k := x2.toNatClampNeg) rfl hg21 dX0_start_21 ?_
  refine va_put (D := (dC, dI)) (ci := 0) (v := .int (wkind (x2.toNatClampNeg))) (ty := .int) (C := RX0) (T := TX0) (N := 5) hx hb hts hinX0_start_X0 tyX0 tyX0_ok nmX0 hown hK hP hD hS 0 rfl rfl 4 (by decide) (hts _ (List.mem_of_getElem? (i := 5) rfl)) (fun _ h9 => h9) rfl (by decide +kernel) rfl rfl (Nat.le_of_ble_eq_true rfl) dX0_start_22 (fun H locs hP hD hS => ?_)
  have hP : va_P (dC, dI) vwCl (fl [wdX0 kc c_o c_trace ctrace cran x2 (wv (x2.toNatClampNeg)) (wkind (x2.toNatClampNeg)), wdX2 kc w_o w_kind w_v w_place w_rows w_length w_first w_second w_drifts w_traits wpeople wkind wv wplace wrows wleaves wlength wfirst wsecond wdrops wstep wlibrary wdrifts wtraits]) H := hP
  have hD : va_D A (fl [wdX0 kc c_o c_trace ctrace cran x2 (wv (x2.toNatClampNeg)) (wkind (x2.toNatClampNeg)), wdX2 kc w_o w_kind w_v w_place w_rows w_length w_first w_second w_drifts w_traits wpeople wkind wv wplace wrows wleaves wlength wfirst wsecond wdrops wstep wlibrary wdrifts wtraits]) := hD
  refine lv_aload_n hx hb dX0_start_25 rfl (lv_at hl 0 rfl) ?_
  refine lv_iload_n hx hb dX0_start_26 rfl (lv_at hl 3 rfl) ?_
  refine lv_aload_n hx hb dX0_start_27 rfl (lv_at hl 0 rfl) ?_
  refine va_get (D := (dC, dI)) (ci := 0) (v := .int (wkind (x2.toNatClampNeg))) (C := RX0) (T := TX0) (N := 5) hx hb hts hinX0_start_X0 hown hK hP 0 rfl rfl 4 (by decide) (hts _ (List.mem_of_getElem? (i := 5) rfl)) (fun _ h9 => h9) rfl dX0_start_28 ?_
  refine lv_iload hx hb dX0_start_31 (lv_at hl 4 rfl) ?_
  refine lv_iconst (v := 0) hx hb dX0_start_33 (by decide) ?_
  obtain ⟨r34, ctrace_34, cran_34, hc34, hm⟩ := bd3_e hm
  refine k_callXGVi (dC := dC) (dI := dI) (kc := kc) (As := [.int x3, .int (wkind (x2.toNatClampNeg)), .int x4, .int 0]) (rest := []) (Gs' := [wdX0 kc c_o c_trace ctrace_34 cran_34 x2 (wv (x2.toNatClampNeg)) (wkind (x2.toNatClampNeg)), wdX2 kc w_o w_kind w_v w_place w_rows w_length w_first w_second w_drifts w_traits wpeople wkind wv wplace wrows wleaves wlength wfirst wsecond wdrops wstep wlibrary wdrifts wtraits]) hx hb hml hown hts hK hP hD hS hA xB_ok hX (hFX0_perform (n := 14) (fu := fu) ctrace cran x2 (wv (x2.toNatClampNeg)) (wkind (x2.toNatClampNeg)) x3 (wkind (x2.toNatClampNeg)) x4 0 _ _ _ hc34) (cwV 4 hts gX0_start_X0_perform rfl rfl rfl (by decide +kernel) ⟨Nat.le_of_ble_eq_true rfl, Nat.le_of_ble_eq_true rfl⟩) [0] rfl (by decide) (va_recv (q0 := 0) (ci := 0) hK hP rfl rfl) rfl hl rfl (Nat.le_of_ble_eq_true rfl) dX0_start_34 ⟨Nat.zero_le _, Nat.zero_le _⟩ rfl rfl rfl (fun H locs hP hD hS => ?_)
  cases hm
  exact k_iret hx hb hr hlocks hP hS dX0_start_37
