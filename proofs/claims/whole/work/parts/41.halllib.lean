abbrev wdI6 (kc : Nat → ClassId) (a_o : Nat) (arr : Nat → Int32) : va_W := [(a_o, .inl (kc 1, 6, .inl arr))]
def fX3_empty (bsize : Int32) (bbear : Int32) : Option (Int32 × Int32) := some (0, 6)
theorem hinX3_empty_X3 : ∀ w ∈ u_ws RX3 TX3 5, w ∈ wsX3_empty := fun _ h => List.mem_cons_of_mem _ (List.mem_append_right _ h)
abbrev rmX3_empty : Room := { frames := 0, cells := 0, slots := 0, locals := 12 }
set_option maxHeartbeats 4000000 in
set_option maxRecDepth 100000 in
theorem ctX3_empty {l : Launch} {dC : Nat → ClassId} {dI : Nat → Nat → Nat} {kc : Nat → ClassId} {b_o b_sorts b_letters b_numbers : Nat} {bsorts : Nat → Int32} {bletters : Nat → Int32} {bnumbers : Nat → Int32} {bsize : Int32} {bbear : Int32} {bsize' : Int32} {bbear' : Int32} (hm : fX3_empty bsize bbear = some (bsize', bbear')) : ∀ sz : Nat, Met l yX3_empty wsX3_empty rmX3_empty (kPc dC dI kc [.ref b_o] (fl [wdX3 kc b_o b_sorts b_letters b_numbers bsorts bletters bnumbers bsize bbear]) sz) (kQv dC dI (fl [wdX3 kc b_o b_sorts b_letters b_numbers bsorts bletters bnumbers bsize' bbear']) (va_A (fl [wdX3 kc b_o b_sorts b_letters b_numbers bsorts bletters bnumbers bsize bbear]) sz)) 0 0 (va_A (fl [wdX3 kc b_o b_sorts b_letters b_numbers bsorts bletters bnumbers bsize bbear]) sz) := by
  intro sz
  refine kMet (cc := cX3_empty) (maxL := 1) (ret := none) (Qf := fun A => kQv dC dI (fl [wdX3 kc b_o b_sorts b_letters b_numbers bsorts bletters bnumbers bsize' bbear']) A) (by decide) rfl (Nat.le_of_ble_eq_true rfl) ?_
  intro p e s m below meth c A ls hx hb hr hml hts hown hlocks hname hsz hA hP hK hD hl
  have hS : va_S A s.heap s.heap [] := va_S.rf
  have hl : lv_has ls 1 [(0, .ref b_o)] := hl
  unfold fX3_empty at hm
  refine lv_aload_n hx hb dX3_empty_0 rfl (lv_at hl 0 rfl) ?_
  refine lv_iconst (v := 0) hx hb dX3_empty_1 (by decide) ?_
  refine va_put (D := (dC, dI)) (ci := 3) (v := .int 0) (ty := .int) (C := RX3) (T := TX3) (N := 5) hx hb hts hinX3_empty_X3 tyX3 tyX3_ok nmX3 hown hK hP hD hS 0 rfl rfl 3 (by decide) (hts _ (List.mem_of_getElem? (i := 1) rfl)) (fun _ h9 => h9) rfl (by decide +kernel) rfl rfl (Nat.le_of_ble_eq_true rfl) dX3_empty_2 (fun H locs hP hD hS => ?_)
  have hP : va_P (dC, dI) vwCl (fl [wdX3 kc b_o b_sorts b_letters b_numbers bsorts bletters bnumbers 0 bbear]) H := hP
  have hD : va_D A (fl [wdX3 kc b_o b_sorts b_letters b_numbers bsorts bletters bnumbers 0 bbear]) := hD
  refine lv_aload_n hx hb dX3_empty_5 rfl (lv_at hl 0 rfl) ?_
  refine lv_bipush (v := 6) hx hb dX3_empty_6 (by decide) ?_
  refine va_put (D := (dC, dI)) (ci := 3) (v := .int 6) (ty := .int) (C := RX3) (T := TX3) (N := 5) hx hb hts hinX3_empty_X3 tyX3 tyX3_ok nmX3 hown hK hP hD hS 0 rfl rfl 4 (by decide) (hts _ (List.mem_of_getElem? (i := 2) rfl)) (fun _ h9 => h9) rfl (by decide +kernel) rfl rfl (Nat.le_of_ble_eq_true rfl) dX3_empty_8 (fun H locs hP hD hS => ?_)
  have hP : va_P (dC, dI) vwCl (fl [wdX3 kc b_o b_sorts b_letters b_numbers bsorts bletters bnumbers 0 6]) H := hP
  have hD : va_D A (fl [wdX3 kc b_o b_sorts b_letters b_numbers bsorts bletters bnumbers 0 6]) := hD
  cases hm
  exact k_vret hx hb hr hlocks hP hS dX3_empty_11
def fX3_put (bsorts : Nat → Int32) (bletters : Nat → Int32) (bnumbers : Nat → Int32) (bsize : Int32) (x1 : Int32) (x2 : Int32) (x3 : Int32) : Option ((Nat → Int32) × (Nat → Int32) × (Nat → Int32) × Int32) := if 100 ≤ bsize then (some (bsorts, bletters, bnumbers, bsize)) else (gd (inb bsize 100) (gd (inb bsize 100) (gd (inb bsize 100) (some (upd bsorts (bsize.toNatClampNeg) x1, upd bletters (bsize.toNatClampNeg) x2, upd bnumbers (bsize.toNatClampNeg) x3, bsize + 1)))))
theorem hinX3_put_X3 : ∀ w ∈ u_ws RX3 TX3 5, w ∈ wsX3_put := fun _ h => List.mem_cons_of_mem _ (List.mem_append_right _ h)
abbrev rmX3_put : Room := { frames := 0, cells := 0, slots := 0, locals := 12 }
set_option maxHeartbeats 4000000 in
set_option maxRecDepth 100000 in
theorem ctX3_put {l : Launch} {dC : Nat → ClassId} {dI : Nat → Nat → Nat} {kc : Nat → ClassId} {b_o b_sorts b_letters b_numbers : Nat} {bsorts : Nat → Int32} {bletters : Nat → Int32} {bnumbers : Nat → Int32} {bsize : Int32} {bbear : Int32} {x1 : Int32} {x2 : Int32} {x3 : Int32} {bsorts' : Nat → Int32} {bletters' : Nat → Int32} {bnumbers' : Nat → Int32} {bsize' : Int32} (hm : fX3_put bsorts bletters bnumbers bsize x1 x2 x3 = some (bsorts', bletters', bnumbers', bsize')) : ∀ sz : Nat, Met l yX3_put wsX3_put rmX3_put (kPc dC dI kc [.ref b_o, .int x1, .int x2, .int x3] (fl [wdX3 kc b_o b_sorts b_letters b_numbers bsorts bletters bnumbers bsize bbear]) sz) (kQv dC dI (fl [wdX3 kc b_o b_sorts b_letters b_numbers bsorts' bletters' bnumbers' bsize' bbear]) (va_A (fl [wdX3 kc b_o b_sorts b_letters b_numbers bsorts bletters bnumbers bsize bbear]) sz)) 0 0 (va_A (fl [wdX3 kc b_o b_sorts b_letters b_numbers bsorts bletters bnumbers bsize bbear]) sz) := by
  intro sz
  refine kMet (cc := cX3_put) (maxL := 4) (ret := none) (Qf := fun A => kQv dC dI (fl [wdX3 kc b_o b_sorts b_letters b_numbers bsorts' bletters' bnumbers' bsize' bbear]) A) (by decide) rfl (Nat.le_of_ble_eq_true rfl) ?_
  intro p e s m below meth c A ls hx hb hr hml hts hown hlocks hname hsz hA hP hK hD hl
  have hS : va_S A s.heap s.heap [] := va_S.rf
  have hl : lv_has ls 4 [(0, .ref b_o), (1, .int x1), (2, .int x2), (3, .int x3)] := hl
  unfold fX3_put at hm
  refine lv_aload_n hx hb dX3_put_0 rfl (lv_at hl 0 rfl) ?_
  refine va_get (D := (dC, dI)) (ci := 3) (v := .int bsize) (C := RX3) (T := TX3) (N := 5) hx hb hts hinX3_put_X3 hown hK hP 0 rfl rfl 3 (by decide) (hts _ (List.mem_of_getElem? (i := 1) rfl)) (fun _ h9 => h9) rfl dX3_put_1 ?_
  refine lv_bipush (v := 100) hx hb dX3_put_4 (by decide) ?_
  refine lv_icmp_ge (tgt := 49) hx hb dX3_put_6 (by decide) (fun c6 => ?_) (fun c6 => ?_)
  · replace hm := it_t c6 hm
    cases hm
    exact k_vret hx hb hr hlocks hP hS dX3_put_49
  · replace hm := it_f c6 hm
    refine lv_aload_n hx hb dX3_put_9 rfl (lv_at hl 0 rfl) ?_
    refine va_get (D := (dC, dI)) (ci := 3) (v := .ref b_sorts) (C := RX3) (T := TX3) (N := 5) hx hb hts hinX3_put_X3 hown hK hP 0 rfl rfl 0 (by decide) (hts _ (List.mem_of_getElem? (i := 2) rfl)) (fun _ h9 => h9) rfl dX3_put_10 ?_
    refine lv_aload_n hx hb dX3_put_13 rfl (lv_at hl 0 rfl) ?_
    refine va_get (D := (dC, dI)) (ci := 3) (v := .int bsize) (C := RX3) (T := TX3) (N := 5) hx hb hts hinX3_put_X3 hown hK hP 0 rfl rfl 3 (by decide) (hts _ (List.mem_of_getElem? (i := 1) rfl)) (fun _ h9 => h9) rfl dX3_put_14 ?_
    refine lv_iload_n hx hb dX3_put_17 rfl (lv_at hl 1 rfl) ?_
    obtain ⟨hg18, hm⟩ := gd_e hm
    refine k_iast (D := (dC, dI)) hx hb hK hP hD hS 1 1 rfl rfl (k := bsize.toNatClampNeg) rfl hg18 dX3_put_18 (fun H locs hP hD hS => ?_)
    have hP : va_P (dC, dI) vwCl (fl [wdX3 kc b_o b_sorts b_letters b_numbers (upd bsorts (bsize.toNatClampNeg) x1) bletters bnumbers bsize bbear]) H := hP
    have hD : va_D A (fl [wdX3 kc b_o b_sorts b_letters b_numbers (upd bsorts (bsize.toNatClampNeg) x1) bletters bnumbers bsize bbear]) := hD
    refine lv_aload_n hx hb dX3_put_19 rfl (lv_at hl 0 rfl) ?_
    refine va_get (D := (dC, dI)) (ci := 3) (v := .ref b_letters) (C := RX3) (T := TX3) (N := 5) hx hb hts hinX3_put_X3 hown hK hP 0 rfl rfl 1 (by decide) (hts _ (List.mem_of_getElem? (i := 3) rfl)) (fun _ h9 => h9) rfl dX3_put_20 ?_
    refine lv_aload_n hx hb dX3_put_23 rfl (lv_at hl 0 rfl) ?_
    refine va_get (D := (dC, dI)) (ci := 3) (v := .int bsize) (C := RX3) (T := TX3) (N := 5) hx hb hts hinX3_put_X3 hown hK hP 0 rfl rfl 3 (by decide) (hts _ (List.mem_of_getElem? (i := 1) rfl)) (fun _ h9 => h9) rfl dX3_put_24 ?_
    refine lv_iload_n hx hb dX3_put_27 rfl (lv_at hl 2 rfl) ?_
    obtain ⟨hg28, hm⟩ := gd_e hm
    refine k_iast (D := (dC, dI)) hx hb hK hP hD hS 2 1 rfl rfl (k := bsize.toNatClampNeg) rfl hg28 dX3_put_28 (fun H locs hP hD hS => ?_)
    have hP : va_P (dC, dI) vwCl (fl [wdX3 kc b_o b_sorts b_letters b_numbers (upd bsorts (bsize.toNatClampNeg) x1) (upd bletters (bsize.toNatClampNeg) x2) bnumbers bsize bbear]) H := hP
    have hD : va_D A (fl [wdX3 kc b_o b_sorts b_letters b_numbers (upd bsorts (bsize.toNatClampNeg) x1) (upd bletters (bsize.toNatClampNeg) x2) bnumbers bsize bbear]) := hD
    refine lv_aload_n hx hb dX3_put_29 rfl (lv_at hl 0 rfl) ?_
    refine va_get (D := (dC, dI)) (ci := 3) (v := .ref b_numbers) (C := RX3) (T := TX3) (N := 5) hx hb hts hinX3_put_X3 hown hK hP 0 rfl rfl 2 (by decide) (hts _ (List.mem_of_getElem? (i := 4) rfl)) (fun _ h9 => h9) rfl dX3_put_30 ?_
    refine lv_aload_n hx hb dX3_put_33 rfl (lv_at hl 0 rfl) ?_
    refine va_get (D := (dC, dI)) (ci := 3) (v := .int bsize) (C := RX3) (T := TX3) (N := 5) hx hb hts hinX3_put_X3 hown hK hP 0 rfl rfl 3 (by decide) (hts _ (List.mem_of_getElem? (i := 1) rfl)) (fun _ h9 => h9) rfl dX3_put_34 ?_
    refine lv_iload_n hx hb dX3_put_37 rfl (lv_at hl 3 rfl) ?_
    obtain ⟨hg38, hm⟩ := gd_e hm
    refine k_iast (D := (dC, dI)) hx hb hK hP hD hS 3 1 rfl rfl (k := bsize.toNatClampNeg) rfl hg38 dX3_put_38 (fun H locs hP hD hS => ?_)
    have hP : va_P (dC, dI) vwCl (fl [wdX3 kc b_o b_sorts b_letters b_numbers (upd bsorts (bsize.toNatClampNeg) x1) (upd bletters (bsize.toNatClampNeg) x2) (upd bnumbers (bsize.toNatClampNeg) x3) bsize bbear]) H := hP
    have hD : va_D A (fl [wdX3 kc b_o b_sorts b_letters b_numbers (upd bsorts (bsize.toNatClampNeg) x1) (upd bletters (bsize.toNatClampNeg) x2) (upd bnumbers (bsize.toNatClampNeg) x3) bsize bbear]) := hD
    refine lv_aload_n hx hb dX3_put_39 rfl (lv_at hl 0 rfl) ?_
    refine lv_dup hx hb dX3_put_40 rfl ?_
    refine va_get (D := (dC, dI)) (ci := 3) (v := .int bsize) (C := RX3) (T := TX3) (N := 5) hx hb hts hinX3_put_X3 hown hK hP 0 rfl rfl 3 (by decide) (hts _ (List.mem_of_getElem? (i := 1) rfl)) (fun _ h9 => h9) rfl dX3_put_41 ?_
    refine lv_iconst (v := 1) hx hb dX3_put_44 (by decide) ?_
    refine lv_iadd hx hb dX3_put_45 ?_
    refine va_put (D := (dC, dI)) (ci := 3) (v := .int (bsize + 1)) (ty := .int) (C := RX3) (T := TX3) (N := 5) hx hb hts hinX3_put_X3 tyX3 tyX3_ok nmX3 hown hK hP hD hS 0 rfl rfl 3 (by decide) (hts _ (List.mem_of_getElem? (i := 1) rfl)) (fun _ h9 => h9) rfl (by decide +kernel) rfl rfl (Nat.le_of_ble_eq_true rfl) dX3_put_46 (fun H locs hP hD hS => ?_)
    have hP : va_P (dC, dI) vwCl (fl [wdX3 kc b_o b_sorts b_letters b_numbers (upd bsorts (bsize.toNatClampNeg) x1) (upd bletters (bsize.toNatClampNeg) x2) (upd bnumbers (bsize.toNatClampNeg) x3) (bsize + 1) bbear]) H := hP
    have hD : va_D A (fl [wdX3 kc b_o b_sorts b_letters b_numbers (upd bsorts (bsize.toNatClampNeg) x1) (upd bletters (bsize.toNatClampNeg) x2) (upd bnumbers (bsize.toNatClampNeg) x3) (bsize + 1) bbear]) := hD
    cases hm
    exact k_vret hx hb hr hlocks hP hS dX3_put_49
def LX3_sumFor_7 (bsorts : Nat → Int32) (bletters : Nat → Int32) (bnumbers : Nat → Int32) (bsize : Int32) (qarr : Nat → Int32) : Nat → Int32 → Int32 → Int32 → Option Int32
  | 0, _, _, _ => none
  | n7 + 1, l2_7, l3_7, l4_7 => if bsize ≤ l4_7 then (some l2_7) else (gd (inb l4_7 100) (gd (inb l4_7 100) (gd (inb (bletters (l4_7.toNatClampNeg)) 6) (gd (inb l4_7 100) (if (bsorts (l4_7.toNatClampNeg)) = 0 then (if (bnumbers (l4_7.toNatClampNeg)) ≤ (qarr ((bletters (l4_7.toNatClampNeg)).toNatClampNeg)) then (LX3_sumFor_7 bsorts bletters bnumbers bsize qarr n7 l2_7 ((l3_7 <<< (1 &&& 31)) ||| 0) (l4_7 + 1)) else (LX3_sumFor_7 bsorts bletters bnumbers bsize qarr n7 l2_7 ((l3_7 <<< (1 &&& 31)) ||| 1) (l4_7 + 1))) else (if (bsorts (l4_7.toNatClampNeg)) = 1 then (if (qarr ((bletters (l4_7.toNatClampNeg)).toNatClampNeg)) = (bnumbers (l4_7.toNatClampNeg)) then (LX3_sumFor_7 bsorts bletters bnumbers bsize qarr n7 l2_7 ((l3_7 <<< (1 &&& 31)) ||| 1) (l4_7 + 1)) else (LX3_sumFor_7 bsorts bletters bnumbers bsize qarr n7 l2_7 ((l3_7 <<< (1 &&& 31)) ||| 0) (l4_7 + 1))) else (if (bsorts (l4_7.toNatClampNeg)) = 2 then (if (qarr ((bletters (l4_7.toNatClampNeg)).toNatClampNeg)) ≤ (bnumbers (l4_7.toNatClampNeg)) then (LX3_sumFor_7 bsorts bletters bnumbers bsize qarr n7 l2_7 ((l3_7 <<< (1 &&& 31)) ||| 0) (l4_7 + 1)) else (LX3_sumFor_7 bsorts bletters bnumbers bsize qarr n7 l2_7 ((l3_7 <<< (1 &&& 31)) ||| 1) (l4_7 + 1))) else (if (bsorts (l4_7.toNatClampNeg)) = 3 then (LX3_sumFor_7 bsorts bletters bnumbers bsize qarr n7 l2_7 (l3_7 ^^^ 1) (l4_7 + 1)) else (if (bsorts (l4_7.toNatClampNeg)) = 4 then (LX3_sumFor_7 bsorts bletters bnumbers bsize qarr n7 l2_7 (((l3_7.toUInt32 >>> ((1 : Int32).toUInt32 &&& Int32.toUInt32 31)).toInt32) &&& ((-2) ||| (l3_7 &&& 1))) (l4_7 + 1)) else (if (bsorts (l4_7.toNatClampNeg)) = 5 then (LX3_sumFor_7 bsorts bletters bnumbers bsize qarr n7 l2_7 (((l3_7.toUInt32 >>> ((1 : Int32).toUInt32 &&& Int32.toUInt32 31)).toInt32) ||| (l3_7 &&& 1)) (l4_7 + 1)) else (if (bsorts (l4_7.toNatClampNeg)) = 6 then (LX3_sumFor_7 bsorts bletters bnumbers bsize qarr n7 (l2_7 + ((l3_7 &&& 1) * (bnumbers (l4_7.toNatClampNeg)))) 0 (l4_7 + 1)) else (LX3_sumFor_7 bsorts bletters bnumbers bsize qarr n7 (l2_7 - ((l3_7 &&& 1) * (bnumbers (l4_7.toNatClampNeg)))) 0 (l4_7 + 1)))))))))))))
def fX3_sumFor (fu : Nat) (bsorts : Nat → Int32) (bletters : Nat → Int32) (bnumbers : Nat → Int32) (bsize : Int32) (qarr : Nat → Int32) : Option Int32 := LX3_sumFor_7 bsorts bletters bnumbers bsize qarr fu 0 0 0
theorem hinX3_sumFor_X3 : ∀ w ∈ u_ws RX3 TX3 5, w ∈ wsX3_sumFor := fun _ h => List.mem_cons_of_mem _ (List.mem_append_right _ h)
abbrev rmX3_sumFor : Room := { frames := 0, cells := 0, slots := 0, locals := 12 }
set_option maxHeartbeats 4000000 in
set_option maxRecDepth 100000 in
theorem ctX3_sumFor {l : Launch} {dC : Nat → ClassId} {dI : Nat → Nat → Nat} {kc : Nat → ClassId} {b_o b_sorts b_letters b_numbers q_o : Nat} {bsorts : Nat → Int32} {bletters : Nat → Int32} {bnumbers : Nat → Int32} {bsize : Int32} {bbear : Int32} {qarr : Nat → Int32} {fu : Nat} {r : Int32} (hm : fX3_sumFor fu bsorts bletters bnumbers bsize qarr = some r) : ∀ sz : Nat, Met l yX3_sumFor wsX3_sumFor rmX3_sumFor (kPc dC dI kc [.ref b_o, .ref q_o] (fl [wdX3 kc b_o b_sorts b_letters b_numbers bsorts bletters bnumbers bsize bbear, wdI6 kc q_o qarr]) sz) (kQi dC dI r (fl [wdX3 kc b_o b_sorts b_letters b_numbers bsorts bletters bnumbers bsize bbear, wdI6 kc q_o qarr]) (va_A (fl [wdX3 kc b_o b_sorts b_letters b_numbers bsorts bletters bnumbers bsize bbear, wdI6 kc q_o qarr]) sz)) 0 0 (va_A (fl [wdX3 kc b_o b_sorts b_letters b_numbers bsorts bletters bnumbers bsize bbear, wdI6 kc q_o qarr]) sz) := by
  intro sz
  refine kMet (cc := cX3_sumFor) (maxL := 8) (ret := (some .int)) (Qf := fun A => kQi dC dI r (fl [wdX3 kc b_o b_sorts b_letters b_numbers bsorts bletters bnumbers bsize bbear, wdI6 kc q_o qarr]) A) (by decide) rfl (Nat.le_of_ble_eq_true rfl) ?_
  intro p e s m below meth c A ls hx hb hr hml hts hown hlocks hname hsz hA hP hK hD hl
  have hS : va_S A s.heap s.heap [] := va_S.rf
  have hl : lv_has ls 8 [(0, .ref b_o), (1, .ref q_o)] := hl
  unfold fX3_sumFor at hm
  refine lv_iconst (v := 0) hx hb dX3_sumFor_0 (by decide) ?_
  refine lv_istore_n (lv' := [(2, .int 0), (0, .ref b_o), (1, .ref q_o)]) hx hb dX3_sumFor_1 rfl hl (by decide) rfl (fun ls hl => ?_)
  refine lv_iconst (v := 0) hx hb dX3_sumFor_2 (by decide) ?_
  refine lv_istore_n (lv' := [(3, .int 0), (2, .int 0), (0, .ref b_o), (1, .ref q_o)]) hx hb dX3_sumFor_3 rfl hl (by decide) rfl (fun ls hl => ?_)
  refine lv_iconst (v := 0) hx hb dX3_sumFor_4 (by decide) ?_
  refine lv_istore (lv' := [(4, .int 0), (3, .int 0), (2, .int 0), (0, .ref b_o), (1, .ref q_o)]) hx hb dX3_sumFor_5 hl (by decide) rfl (fun ls hl => ?_)
  have hL7 : ∀ (fn : Nat) (l2_7 : Int32) (l3_7 : Int32) (l4_7 : Int32), LX3_sumFor_7 bsorts bletters bnumbers bsize qarr fn l2_7 l3_7 l4_7 = some r → ∀ (H : Heap) (locs : List Loc), va_P (dC, dI) vwCl (fl [wdX3 kc b_o b_sorts b_letters b_numbers bsorts bletters bnumbers bsize bbear, wdI6 kc q_o qarr]) H → va_D A (fl [wdX3 kc b_o b_sorts b_letters b_numbers bsorts bletters bnumbers bsize bbear, wdI6 kc q_o qarr]) → va_S A s.heap H locs → ∀ ls : Array Slot, lv_has ls 8 [(0, .ref b_o), (1, .ref q_o), (2, .int l2_7), (3, .int l3_7), (4, .int l4_7)] → W p l e (headSpec wsX3_sumFor rmX3_sumFor).room s m [.ref b_o, .ref q_o].toArray below meth c H locs 0 0 (MQ below (kQi dC dI r (fl [wdX3 kc b_o b_sorts b_letters b_numbers bsorts bletters bnumbers bsize bbear, wdI6 kc q_o qarr]) A) [.ref b_o, .ref q_o].toArray s 0 0 A) (F0 m 7 ls []) := by
    clear hm hP hD hS hl
    intro n7
    induction n7 with
    | zero => intro l2_7 l3_7 l4_7 hm; rw [LX3_sumFor_7] at hm; cases hm
    | succ n7 ih7 =>
      intro l2_7 l3_7 l4_7 hm H locs hP hD hS ls hl
      rw [LX3_sumFor_7] at hm
      refine lv_iload hx hb dX3_sumFor_7 (lv_at hl 4 rfl) ?_
      refine lv_aload_n hx hb dX3_sumFor_9 rfl (lv_at hl 0 rfl) ?_
      refine va_get (D := (dC, dI)) (ci := 3) (v := .int bsize) (C := RX3) (T := TX3) (N := 5) hx hb hts hinX3_sumFor_X3 hown hK hP 0 rfl rfl 3 (by decide) (hts _ (List.mem_of_getElem? (i := 1) rfl)) (fun _ h9 => h9) rfl dX3_sumFor_10 ?_
      refine lv_icmp_ge (tgt := 211) hx hb dX3_sumFor_13 (by decide) (fun c13 => ?_) (fun c13 => ?_)
      · replace hm := it_t c13 hm
        refine lv_iload_n hx hb dX3_sumFor_211 rfl (lv_at hl 2 rfl) ?_
        cases hm
        exact k_iret hx hb hr hlocks hP hS dX3_sumFor_212
      · replace hm := it_f c13 hm
        refine lv_aload_n hx hb dX3_sumFor_16 rfl (lv_at hl 0 rfl) ?_
        refine va_get (D := (dC, dI)) (ci := 3) (v := .ref b_numbers) (C := RX3) (T := TX3) (N := 5) hx hb hts hinX3_sumFor_X3 hown hK hP 0 rfl rfl 2 (by decide) (hts _ (List.mem_of_getElem? (i := 2) rfl)) (fun _ h9 => h9) rfl dX3_sumFor_17 ?_
        refine lv_iload hx hb dX3_sumFor_20 (lv_at hl 4 rfl) ?_
        obtain ⟨hg22, hm⟩ := gd_e hm
        refine k_iald (D := (dC, dI)) hx hb hK hP 3 1 rfl rfl (k := l4_7.toNatClampNeg) rfl hg22 dX3_sumFor_22 ?_
        refine lv_istore (lv' := [(5, .int (bnumbers (l4_7.toNatClampNeg))), (0, .ref b_o), (1, .ref q_o), (2, .int l2_7), (3, .int l3_7), (4, .int l4_7)]) hx hb dX3_sumFor_23 hl (by decide) rfl (fun ls hl => ?_)
        refine lv_aload_n hx hb dX3_sumFor_25 rfl (lv_at hl 2 rfl) ?_
        refine lv_aload_n hx hb dX3_sumFor_26 rfl (lv_at hl 1 rfl) ?_
        refine va_get (D := (dC, dI)) (ci := 3) (v := .ref b_letters) (C := RX3) (T := TX3) (N := 5) hx hb hts hinX3_sumFor_X3 hown hK hP 0 rfl rfl 1 (by decide) (hts _ (List.mem_of_getElem? (i := 3) rfl)) (fun _ h9 => h9) rfl dX3_sumFor_27 ?_
        refine lv_iload hx hb dX3_sumFor_30 (lv_at hl 5 rfl) ?_
        obtain ⟨hg32, hm⟩ := gd_e hm
        refine k_iald (D := (dC, dI)) hx hb hK hP 2 1 rfl rfl (k := l4_7.toNatClampNeg) rfl hg32 dX3_sumFor_32 ?_
        obtain ⟨hg33, hm⟩ := gd_e hm
        refine k_iald (D := (dC, dI)) hx hb hK hP 4 1 rfl rfl (k := (bletters (l4_7.toNatClampNeg)).toNatClampNeg) rfl hg33 dX3_sumFor_33 ?_
        refine lv_istore (lv' := [(6, .int (qarr ((bletters (l4_7.toNatClampNeg)).toNatClampNeg))), (5, .int (bnumbers (l4_7.toNatClampNeg))), (0, .ref b_o), (1, .ref q_o), (2, .int l2_7), (3, .int l3_7), (4, .int l4_7)]) hx hb dX3_sumFor_34 hl (by decide) rfl (fun ls hl => ?_)
        refine lv_iload_n hx hb dX3_sumFor_36 rfl (lv_at hl 5 rfl) ?_
        refine lv_iconst (v := 1) hx hb dX3_sumFor_37 (by decide) ?_
        refine lv_iand hx hb dX3_sumFor_38 ?_
        refine lv_istore (lv' := [(7, .int (l3_7 &&& 1)), (6, .int (qarr ((bletters (l4_7.toNatClampNeg)).toNatClampNeg))), (5, .int (bnumbers (l4_7.toNatClampNeg))), (0, .ref b_o), (1, .ref q_o), (2, .int l2_7), (3, .int l3_7), (4, .int l4_7)]) hx hb dX3_sumFor_39 hl (by decide) rfl (fun ls hl => ?_)
        refine lv_aload_n hx hb dX3_sumFor_41 rfl (lv_at hl 3 rfl) ?_
        refine va_get (D := (dC, dI)) (ci := 3) (v := .ref b_sorts) (C := RX3) (T := TX3) (N := 5) hx hb hts hinX3_sumFor_X3 hown hK hP 0 rfl rfl 0 (by decide) (hts _ (List.mem_of_getElem? (i := 4) rfl)) (fun _ h9 => h9) rfl dX3_sumFor_42 ?_
        refine lv_iload hx hb dX3_sumFor_45 (lv_at hl 7 rfl) ?_
        obtain ⟨hg47, hm⟩ := gd_e hm
        refine k_iald (D := (dC, dI)) hx hb hK hP 1 1 rfl rfl (k := l4_7.toNatClampNeg) rfl hg47 dX3_sumFor_47 ?_
        by_cases cs48_0 : (bsorts (l4_7.toNatClampNeg)) = 0
        · replace hm := it_t cs48_0 hm
          refine lv_tableIn (off := 44) (tgt := 92) hx hb dX3_sumFor_48 (by rw [cs48_0]; decide) (by rw [cs48_0]; decide) (by rw [cs48_0]; rfl) (by decide) ?_
          refine lv_iload_n hx hb dX3_sumFor_92 rfl (lv_at hl 6 rfl) ?_
          refine lv_iconst (v := 1) hx hb dX3_sumFor_93 (by decide) ?_
          refine lv_ishl hx hb dX3_sumFor_94 ?_
          refine lv_iload hx hb dX3_sumFor_95 (lv_at hl 1 rfl) ?_
          refine lv_iload hx hb dX3_sumFor_97 (lv_at hl 2 rfl) ?_
          refine lv_icmp_ge (tgt := 106) hx hb dX3_sumFor_99 (by decide) (fun c99 => ?_) (fun c99 => ?_)
          · replace hm := it_t c99 hm
            refine lv_iconst (v := 0) hx hb dX3_sumFor_106 (by decide) ?_
            refine lv_ior hx hb dX3_sumFor_107 ?_
            refine lv_istore_n (lv' := [(3, .int ((l3_7 <<< (1 &&& 31)) ||| 0)), (7, .int (l3_7 &&& 1)), (6, .int (qarr ((bletters (l4_7.toNatClampNeg)).toNatClampNeg))), (5, .int (bnumbers (l4_7.toNatClampNeg))), (0, .ref b_o), (1, .ref q_o), (2, .int l2_7), (4, .int l4_7)]) hx hb dX3_sumFor_108 rfl hl (by decide) rfl (fun ls hl => ?_)
            refine lv_goto (tgt := 205) hx hb dX3_sumFor_109 (by decide) ?_
            refine lv_iinc (v := l4_7 + 1) (lv' := [(4, .int (l4_7 + 1)), (3, .int ((l3_7 <<< (1 &&& 31)) ||| 0)), (7, .int (l3_7 &&& 1)), (6, .int (qarr ((bletters (l4_7.toNatClampNeg)).toNatClampNeg))), (5, .int (bnumbers (l4_7.toNatClampNeg))), (0, .ref b_o), (1, .ref q_o), (2, .int l2_7)]) hx hb dX3_sumFor_205 hl (k := 7) rfl rfl (by decide) rfl (fun ls hl => ?_)
            refine lv_goto (tgt := 7) hx hb dX3_sumFor_208 (by decide) ?_
            exact ih7 l2_7 ((l3_7 <<< (1 &&& 31)) ||| 0) (l4_7 + 1) hm _ _ hP hD hS _ (lv_sub hl [5, 6, 7, 1, 0] rfl)
          · replace hm := it_f c99 hm
            refine lv_iconst (v := 1) hx hb dX3_sumFor_102 (by decide) ?_
            refine lv_goto (tgt := 107) hx hb dX3_sumFor_103 (by decide) ?_
            refine lv_ior hx hb dX3_sumFor_107 ?_
            refine lv_istore_n (lv' := [(3, .int ((l3_7 <<< (1 &&& 31)) ||| 1)), (7, .int (l3_7 &&& 1)), (6, .int (qarr ((bletters (l4_7.toNatClampNeg)).toNatClampNeg))), (5, .int (bnumbers (l4_7.toNatClampNeg))), (0, .ref b_o), (1, .ref q_o), (2, .int l2_7), (4, .int l4_7)]) hx hb dX3_sumFor_108 rfl hl (by decide) rfl (fun ls hl => ?_)
            refine lv_goto (tgt := 205) hx hb dX3_sumFor_109 (by decide) ?_
            refine lv_iinc (v := l4_7 + 1) (lv' := [(4, .int (l4_7 + 1)), (3, .int ((l3_7 <<< (1 &&& 31)) ||| 1)), (7, .int (l3_7 &&& 1)), (6, .int (qarr ((bletters (l4_7.toNatClampNeg)).toNatClampNeg))), (5, .int (bnumbers (l4_7.toNatClampNeg))), (0, .ref b_o), (1, .ref q_o), (2, .int l2_7)]) hx hb dX3_sumFor_205 hl (k := 7) rfl rfl (by decide) rfl (fun ls hl => ?_)
            refine lv_goto (tgt := 7) hx hb dX3_sumFor_208 (by decide) ?_
            exact ih7 l2_7 ((l3_7 <<< (1 &&& 31)) ||| 1) (l4_7 + 1) hm _ _ hP hD hS _ (lv_sub hl [5, 6, 7, 1, 0] rfl)
        replace hm := it_f cs48_0 hm
        by_cases cs48_1 : (bsorts (l4_7.toNatClampNeg)) = 1
        · replace hm := it_t cs48_1 hm
          refine lv_tableIn (off := 64) (tgt := 112) hx hb dX3_sumFor_48 (by rw [cs48_1]; decide) (by rw [cs48_1]; decide) (by rw [cs48_1]; rfl) (by decide) ?_
          refine lv_iload_n hx hb dX3_sumFor_112 rfl (lv_at hl 6 rfl) ?_
          refine lv_iconst (v := 1) hx hb dX3_sumFor_113 (by decide) ?_
          refine lv_ishl hx hb dX3_sumFor_114 ?_
          refine lv_iload hx hb dX3_sumFor_115 (lv_at hl 1 rfl) ?_
          refine lv_iload hx hb dX3_sumFor_117 (lv_at hl 2 rfl) ?_
          refine lv_icmp_ne (tgt := 126) hx hb dX3_sumFor_119 (by decide) (fun c119 => ?_) (fun c119 => ?_)
          · replace hm := it_f c119 hm
            refine lv_iconst (v := 0) hx hb dX3_sumFor_126 (by decide) ?_
            refine lv_ior hx hb dX3_sumFor_127 ?_
            refine lv_istore_n (lv' := [(3, .int ((l3_7 <<< (1 &&& 31)) ||| 0)), (7, .int (l3_7 &&& 1)), (6, .int (qarr ((bletters (l4_7.toNatClampNeg)).toNatClampNeg))), (5, .int (bnumbers (l4_7.toNatClampNeg))), (0, .ref b_o), (1, .ref q_o), (2, .int l2_7), (4, .int l4_7)]) hx hb dX3_sumFor_128 rfl hl (by decide) rfl (fun ls hl => ?_)
            refine lv_goto (tgt := 205) hx hb dX3_sumFor_129 (by decide) ?_
            refine lv_iinc (v := l4_7 + 1) (lv' := [(4, .int (l4_7 + 1)), (3, .int ((l3_7 <<< (1 &&& 31)) ||| 0)), (7, .int (l3_7 &&& 1)), (6, .int (qarr ((bletters (l4_7.toNatClampNeg)).toNatClampNeg))), (5, .int (bnumbers (l4_7.toNatClampNeg))), (0, .ref b_o), (1, .ref q_o), (2, .int l2_7)]) hx hb dX3_sumFor_205 hl (k := 7) rfl rfl (by decide) rfl (fun ls hl => ?_)
            refine lv_goto (tgt := 7) hx hb dX3_sumFor_208 (by decide) ?_
            exact ih7 l2_7 ((l3_7 <<< (1 &&& 31)) ||| 0) (l4_7 + 1) hm _ _ hP hD hS _ (lv_sub hl [5, 6, 7, 1, 0] rfl)
          · replace hm := it_t c119 hm
            refine lv_iconst (v := 1) hx hb dX3_sumFor_122 (by decide) ?_
            refine lv_goto (tgt := 127) hx hb dX3_sumFor_123 (by decide) ?_
            refine lv_ior hx hb dX3_sumFor_127 ?_
            refine lv_istore_n (lv' := [(3, .int ((l3_7 <<< (1 &&& 31)) ||| 1)), (7, .int (l3_7 &&& 1)), (6, .int (qarr ((bletters (l4_7.toNatClampNeg)).toNatClampNeg))), (5, .int (bnumbers (l4_7.toNatClampNeg))), (0, .ref b_o), (1, .ref q_o), (2, .int l2_7), (4, .int l4_7)]) hx hb dX3_sumFor_128 rfl hl (by decide) rfl (fun ls hl => ?_)
            refine lv_goto (tgt := 205) hx hb dX3_sumFor_129 (by decide) ?_
            refine lv_iinc (v := l4_7 + 1) (lv' := [(4, .int (l4_7 + 1)), (3, .int ((l3_7 <<< (1 &&& 31)) ||| 1)), (7, .int (l3_7 &&& 1)), (6, .int (qarr ((bletters (l4_7.toNatClampNeg)).toNatClampNeg))), (5, .int (bnumbers (l4_7.toNatClampNeg))), (0, .ref b_o), (1, .ref q_o), (2, .int l2_7)]) hx hb dX3_sumFor_205 hl (k := 7) rfl rfl (by decide) rfl (fun ls hl => ?_)
            refine lv_goto (tgt := 7) hx hb dX3_sumFor_208 (by decide) ?_
            exact ih7 l2_7 ((l3_7 <<< (1 &&& 31)) ||| 1) (l4_7 + 1) hm _ _ hP hD hS _ (lv_sub hl [5, 6, 7, 1, 0] rfl)
        replace hm := it_f cs48_1 hm
        by_cases cs48_2 : (bsorts (l4_7.toNatClampNeg)) = 2
        · replace hm := it_t cs48_2 hm
          refine lv_tableIn (off := 84) (tgt := 132) hx hb dX3_sumFor_48 (by rw [cs48_2]; decide) (by rw [cs48_2]; decide) (by rw [cs48_2]; rfl) (by decide) ?_
          refine lv_iload_n hx hb dX3_sumFor_132 rfl (lv_at hl 6 rfl) ?_
          refine lv_iconst (v := 1) hx hb dX3_sumFor_133 (by decide) ?_
          refine lv_ishl hx hb dX3_sumFor_134 ?_
          refine lv_iload hx hb dX3_sumFor_135 (lv_at hl 1 rfl) ?_
          refine lv_iload hx hb dX3_sumFor_137 (lv_at hl 2 rfl) ?_
          refine lv_icmp_le (tgt := 146) hx hb dX3_sumFor_139 (by decide) (fun c139 => ?_) (fun c139 => ?_)
          · replace hm := it_t c139 hm
            refine lv_iconst (v := 0) hx hb dX3_sumFor_146 (by decide) ?_
            refine lv_ior hx hb dX3_sumFor_147 ?_
            refine lv_istore_n (lv' := [(3, .int ((l3_7 <<< (1 &&& 31)) ||| 0)), (7, .int (l3_7 &&& 1)), (6, .int (qarr ((bletters (l4_7.toNatClampNeg)).toNatClampNeg))), (5, .int (bnumbers (l4_7.toNatClampNeg))), (0, .ref b_o), (1, .ref q_o), (2, .int l2_7), (4, .int l4_7)]) hx hb dX3_sumFor_148 rfl hl (by decide) rfl (fun ls hl => ?_)
            refine lv_goto (tgt := 205) hx hb dX3_sumFor_149 (by decide) ?_
            refine lv_iinc (v := l4_7 + 1) (lv' := [(4, .int (l4_7 + 1)), (3, .int ((l3_7 <<< (1 &&& 31)) ||| 0)), (7, .int (l3_7 &&& 1)), (6, .int (qarr ((bletters (l4_7.toNatClampNeg)).toNatClampNeg))), (5, .int (bnumbers (l4_7.toNatClampNeg))), (0, .ref b_o), (1, .ref q_o), (2, .int l2_7)]) hx hb dX3_sumFor_205 hl (k := 7) rfl rfl (by decide) rfl (fun ls hl => ?_)
            refine lv_goto (tgt := 7) hx hb dX3_sumFor_208 (by decide) ?_
            exact ih7 l2_7 ((l3_7 <<< (1 &&& 31)) ||| 0) (l4_7 + 1) hm _ _ hP hD hS _ (lv_sub hl [5, 6, 7, 1, 0] rfl)
          · replace hm := it_f c139 hm
            refine lv_iconst (v := 1) hx hb dX3_sumFor_142 (by decide) ?_
            refine lv_goto (tgt := 147) hx hb dX3_sumFor_143 (by decide) ?_
            refine lv_ior hx hb dX3_sumFor_147 ?_
            refine lv_istore_n (lv' := [(3, .int ((l3_7 <<< (1 &&& 31)) ||| 1)), (7, .int (l3_7 &&& 1)), (6, .int (qarr ((bletters (l4_7.toNatClampNeg)).toNatClampNeg))), (5, .int (bnumbers (l4_7.toNatClampNeg))), (0, .ref b_o), (1, .ref q_o), (2, .int l2_7), (4, .int l4_7)]) hx hb dX3_sumFor_148 rfl hl (by decide) rfl (fun ls hl => ?_)
            refine lv_goto (tgt := 205) hx hb dX3_sumFor_149 (by decide) ?_
            refine lv_iinc (v := l4_7 + 1) (lv' := [(4, .int (l4_7 + 1)), (3, .int ((l3_7 <<< (1 &&& 31)) ||| 1)), (7, .int (l3_7 &&& 1)), (6, .int (qarr ((bletters (l4_7.toNatClampNeg)).toNatClampNeg))), (5, .int (bnumbers (l4_7.toNatClampNeg))), (0, .ref b_o), (1, .ref q_o), (2, .int l2_7)]) hx hb dX3_sumFor_205 hl (k := 7) rfl rfl (by decide) rfl (fun ls hl => ?_)
            refine lv_goto (tgt := 7) hx hb dX3_sumFor_208 (by decide) ?_
            exact ih7 l2_7 ((l3_7 <<< (1 &&& 31)) ||| 1) (l4_7 + 1) hm _ _ hP hD hS _ (lv_sub hl [5, 6, 7, 1, 0] rfl)
        replace hm := it_f cs48_2 hm
        by_cases cs48_3 : (bsorts (l4_7.toNatClampNeg)) = 3
        · replace hm := it_t cs48_3 hm
          refine lv_tableIn (off := 104) (tgt := 152) hx hb dX3_sumFor_48 (by rw [cs48_3]; decide) (by rw [cs48_3]; decide) (by rw [cs48_3]; rfl) (by decide) ?_
          refine lv_iload_n hx hb dX3_sumFor_152 rfl (lv_at hl 6 rfl) ?_
          refine lv_iconst (v := 1) hx hb dX3_sumFor_153 (by decide) ?_
          refine lv_ixor hx hb dX3_sumFor_154 ?_
          refine lv_istore_n (lv' := [(3, .int (l3_7 ^^^ 1)), (7, .int (l3_7 &&& 1)), (6, .int (qarr ((bletters (l4_7.toNatClampNeg)).toNatClampNeg))), (5, .int (bnumbers (l4_7.toNatClampNeg))), (0, .ref b_o), (1, .ref q_o), (2, .int l2_7), (4, .int l4_7)]) hx hb dX3_sumFor_155 rfl hl (by decide) rfl (fun ls hl => ?_)
          refine lv_goto (tgt := 205) hx hb dX3_sumFor_156 (by decide) ?_
          refine lv_iinc (v := l4_7 + 1) (lv' := [(4, .int (l4_7 + 1)), (3, .int (l3_7 ^^^ 1)), (7, .int (l3_7 &&& 1)), (6, .int (qarr ((bletters (l4_7.toNatClampNeg)).toNatClampNeg))), (5, .int (bnumbers (l4_7.toNatClampNeg))), (0, .ref b_o), (1, .ref q_o), (2, .int l2_7)]) hx hb dX3_sumFor_205 hl (k := 7) rfl rfl (by decide) rfl (fun ls hl => ?_)
          refine lv_goto (tgt := 7) hx hb dX3_sumFor_208 (by decide) ?_
          exact ih7 l2_7 (l3_7 ^^^ 1) (l4_7 + 1) hm _ _ hP hD hS _ (lv_sub hl [5, 6, 7, 1, 0] rfl)
        replace hm := it_f cs48_3 hm
        by_cases cs48_4 : (bsorts (l4_7.toNatClampNeg)) = 4
        · replace hm := it_t cs48_4 hm
          refine lv_tableIn (off := 111) (tgt := 159) hx hb dX3_sumFor_48 (by rw [cs48_4]; decide) (by rw [cs48_4]; decide) (by rw [cs48_4]; rfl) (by decide) ?_
          refine lv_iload_n hx hb dX3_sumFor_159 rfl (lv_at hl 6 rfl) ?_
          refine lv_iconst (v := 1) hx hb dX3_sumFor_160 (by decide) ?_
          refine lv_iushr hx hb dX3_sumFor_161 rfl ?_
          refine lv_bipush (v := (-2)) hx hb dX3_sumFor_162 (by decide) ?_
          refine lv_iload hx hb dX3_sumFor_164 (lv_at hl 0 rfl) ?_
          refine lv_ior hx hb dX3_sumFor_166 ?_
          refine lv_iand hx hb dX3_sumFor_167 ?_
          refine lv_istore_n (lv' := [(3, .int (((l3_7.toUInt32 >>> ((1 : Int32).toUInt32 &&& Int32.toUInt32 31)).toInt32) &&& ((-2) ||| (l3_7 &&& 1)))), (7, .int (l3_7 &&& 1)), (6, .int (qarr ((bletters (l4_7.toNatClampNeg)).toNatClampNeg))), (5, .int (bnumbers (l4_7.toNatClampNeg))), (0, .ref b_o), (1, .ref q_o), (2, .int l2_7), (4, .int l4_7)]) hx hb dX3_sumFor_168 rfl hl (by decide) rfl (fun ls hl => ?_)
          refine lv_goto (tgt := 205) hx hb dX3_sumFor_169 (by decide) ?_
          refine lv_iinc (v := l4_7 + 1) (lv' := [(4, .int (l4_7 + 1)), (3, .int (((l3_7.toUInt32 >>> ((1 : Int32).toUInt32 &&& Int32.toUInt32 31)).toInt32) &&& ((-2) ||| (l3_7 &&& 1)))), (7, .int (l3_7 &&& 1)), (6, .int (qarr ((bletters (l4_7.toNatClampNeg)).toNatClampNeg))), (5, .int (bnumbers (l4_7.toNatClampNeg))), (0, .ref b_o), (1, .ref q_o), (2, .int l2_7)]) hx hb dX3_sumFor_205 hl (k := 7) rfl rfl (by decide) rfl (fun ls hl => ?_)
          refine lv_goto (tgt := 7) hx hb dX3_sumFor_208 (by decide) ?_
          exact ih7 l2_7 (((l3_7.toUInt32 >>> ((1 : Int32).toUInt32 &&& Int32.toUInt32 31)).toInt32) &&& ((-2) ||| (l3_7 &&& 1))) (l4_7 + 1) hm _ _ hP hD hS _ (lv_sub hl [5, 6, 7, 1, 0] rfl)
        replace hm := it_f cs48_4 hm
        by_cases cs48_5 : (bsorts (l4_7.toNatClampNeg)) = 5
        · replace hm := it_t cs48_5 hm
          refine lv_tableIn (off := 124) (tgt := 172) hx hb dX3_sumFor_48 (by rw [cs48_5]; decide) (by rw [cs48_5]; decide) (by rw [cs48_5]; rfl) (by decide) ?_
          refine lv_iload_n hx hb dX3_sumFor_172 rfl (lv_at hl 6 rfl) ?_
          refine lv_iconst (v := 1) hx hb dX3_sumFor_173 (by decide) ?_
          refine lv_iushr hx hb dX3_sumFor_174 rfl ?_
          refine lv_iload hx hb dX3_sumFor_175 (lv_at hl 0 rfl) ?_
          refine lv_ior hx hb dX3_sumFor_177 ?_
          refine lv_istore_n (lv' := [(3, .int (((l3_7.toUInt32 >>> ((1 : Int32).toUInt32 &&& Int32.toUInt32 31)).toInt32) ||| (l3_7 &&& 1))), (7, .int (l3_7 &&& 1)), (6, .int (qarr ((bletters (l4_7.toNatClampNeg)).toNatClampNeg))), (5, .int (bnumbers (l4_7.toNatClampNeg))), (0, .ref b_o), (1, .ref q_o), (2, .int l2_7), (4, .int l4_7)]) hx hb dX3_sumFor_178 rfl hl (by decide) rfl (fun ls hl => ?_)
          refine lv_goto (tgt := 205) hx hb dX3_sumFor_179 (by decide) ?_
          refine lv_iinc (v := l4_7 + 1) (lv' := [(4, .int (l4_7 + 1)), (3, .int (((l3_7.toUInt32 >>> ((1 : Int32).toUInt32 &&& Int32.toUInt32 31)).toInt32) ||| (l3_7 &&& 1))), (7, .int (l3_7 &&& 1)), (6, .int (qarr ((bletters (l4_7.toNatClampNeg)).toNatClampNeg))), (5, .int (bnumbers (l4_7.toNatClampNeg))), (0, .ref b_o), (1, .ref q_o), (2, .int l2_7)]) hx hb dX3_sumFor_205 hl (k := 7) rfl rfl (by decide) rfl (fun ls hl => ?_)
          refine lv_goto (tgt := 7) hx hb dX3_sumFor_208 (by decide) ?_
          exact ih7 l2_7 (((l3_7.toUInt32 >>> ((1 : Int32).toUInt32 &&& Int32.toUInt32 31)).toInt32) ||| (l3_7 &&& 1)) (l4_7 + 1) hm _ _ hP hD hS _ (lv_sub hl [5, 6, 7, 1, 0] rfl)
        replace hm := it_f cs48_5 hm
        by_cases cs48_6 : (bsorts (l4_7.toNatClampNeg)) = 6
        · replace hm := it_t cs48_6 hm
          refine lv_tableIn (off := 134) (tgt := 182) hx hb dX3_sumFor_48 (by rw [cs48_6]; decide) (by rw [cs48_6]; decide) (by rw [cs48_6]; rfl) (by decide) ?_
          refine lv_iload_n hx hb dX3_sumFor_182 rfl (lv_at hl 5 rfl) ?_
          refine lv_iload hx hb dX3_sumFor_183 (lv_at hl 0 rfl) ?_
          refine lv_iload hx hb dX3_sumFor_185 (lv_at hl 2 rfl) ?_
          refine lv_imul hx hb dX3_sumFor_187 ?_
          refine lv_iadd hx hb dX3_sumFor_188 ?_
          refine lv_istore_n (lv' := [(2, .int (l2_7 + ((l3_7 &&& 1) * (bnumbers (l4_7.toNatClampNeg))))), (7, .int (l3_7 &&& 1)), (6, .int (qarr ((bletters (l4_7.toNatClampNeg)).toNatClampNeg))), (5, .int (bnumbers (l4_7.toNatClampNeg))), (0, .ref b_o), (1, .ref q_o), (3, .int l3_7), (4, .int l4_7)]) hx hb dX3_sumFor_189 rfl hl (by decide) rfl (fun ls hl => ?_)
          refine lv_iconst (v := 0) hx hb dX3_sumFor_190 (by decide) ?_
          refine lv_istore_n (lv' := [(3, .int 0), (2, .int (l2_7 + ((l3_7 &&& 1) * (bnumbers (l4_7.toNatClampNeg))))), (7, .int (l3_7 &&& 1)), (6, .int (qarr ((bletters (l4_7.toNatClampNeg)).toNatClampNeg))), (5, .int (bnumbers (l4_7.toNatClampNeg))), (0, .ref b_o), (1, .ref q_o), (4, .int l4_7)]) hx hb dX3_sumFor_191 rfl hl (by decide) rfl (fun ls hl => ?_)
          refine lv_goto (tgt := 205) hx hb dX3_sumFor_192 (by decide) ?_
          refine lv_iinc (v := l4_7 + 1) (lv' := [(4, .int (l4_7 + 1)), (3, .int 0), (2, .int (l2_7 + ((l3_7 &&& 1) * (bnumbers (l4_7.toNatClampNeg))))), (7, .int (l3_7 &&& 1)), (6, .int (qarr ((bletters (l4_7.toNatClampNeg)).toNatClampNeg))), (5, .int (bnumbers (l4_7.toNatClampNeg))), (0, .ref b_o), (1, .ref q_o)]) hx hb dX3_sumFor_205 hl (k := 7) rfl rfl (by decide) rfl (fun ls hl => ?_)
          refine lv_goto (tgt := 7) hx hb dX3_sumFor_208 (by decide) ?_
          exact ih7 (l2_7 + ((l3_7 &&& 1) * (bnumbers (l4_7.toNatClampNeg)))) 0 (l4_7 + 1) hm _ _ hP hD hS _ (lv_sub hl [6, 7, 2, 1, 0] rfl)
        replace hm := it_f cs48_6 hm
        have nt48_0 := lv_neT (k := 0) (a := 0) cs48_0 (by decide)
        have nt48_1 := lv_neT (k := 1) (a := 1) cs48_1 (by decide)
        have nt48_2 := lv_neT (k := 2) (a := 2) cs48_2 (by decide)
        have nt48_3 := lv_neT (k := 3) (a := 3) cs48_3 (by decide)
        have nt48_4 := lv_neT (k := 4) (a := 4) cs48_4 (by decide)
        have nt48_5 := lv_neT (k := 5) (a := 5) cs48_5 (by decide)
        have nt48_6 := lv_neT (k := 6) (a := 6) cs48_6 (by decide)
        refine lv_tableOut (tgt := 195) hx hb dX3_sumFor_48 (by omega) (by decide) ?_
        refine lv_iload_n hx hb dX3_sumFor_195 rfl (lv_at hl 5 rfl) ?_
        refine lv_iload hx hb dX3_sumFor_196 (lv_at hl 0 rfl) ?_
        refine lv_iload hx hb dX3_sumFor_198 (lv_at hl 2 rfl) ?_
        refine lv_imul hx hb dX3_sumFor_200 ?_
        refine lv_isub hx hb dX3_sumFor_201 ?_
        refine lv_istore_n (lv' := [(2, .int (l2_7 - ((l3_7 &&& 1) * (bnumbers (l4_7.toNatClampNeg))))), (7, .int (l3_7 &&& 1)), (6, .int (qarr ((bletters (l4_7.toNatClampNeg)).toNatClampNeg))), (5, .int (bnumbers (l4_7.toNatClampNeg))), (0, .ref b_o), (1, .ref q_o), (3, .int l3_7), (4, .int l4_7)]) hx hb dX3_sumFor_202 rfl hl (by decide) rfl (fun ls hl => ?_)
        refine lv_iconst (v := 0) hx hb dX3_sumFor_203 (by decide) ?_
        refine lv_istore_n (lv' := [(3, .int 0), (2, .int (l2_7 - ((l3_7 &&& 1) * (bnumbers (l4_7.toNatClampNeg))))), (7, .int (l3_7 &&& 1)), (6, .int (qarr ((bletters (l4_7.toNatClampNeg)).toNatClampNeg))), (5, .int (bnumbers (l4_7.toNatClampNeg))), (0, .ref b_o), (1, .ref q_o), (4, .int l4_7)]) hx hb dX3_sumFor_204 rfl hl (by decide) rfl (fun ls hl => ?_)
        refine lv_iinc (v := l4_7 + 1) (lv' := [(4, .int (l4_7 + 1)), (3, .int 0), (2, .int (l2_7 - ((l3_7 &&& 1) * (bnumbers (l4_7.toNatClampNeg))))), (7, .int (l3_7 &&& 1)), (6, .int (qarr ((bletters (l4_7.toNatClampNeg)).toNatClampNeg))), (5, .int (bnumbers (l4_7.toNatClampNeg))), (0, .ref b_o), (1, .ref q_o)]) hx hb dX3_sumFor_205 hl (k := 7) rfl rfl (by decide) rfl (fun ls hl => ?_)
        refine lv_goto (tgt := 7) hx hb dX3_sumFor_208 (by decide) ?_
        exact ih7 (l2_7 - ((l3_7 &&& 1) * (bnumbers (l4_7.toNatClampNeg)))) 0 (l4_7 + 1) hm _ _ hP hD hS _ (lv_sub hl [6, 7, 2, 1, 0] rfl)
  exact hL7 _ _ _ _ hm _ _ hP hD hS _ (lv_sub hl [3, 4, 2, 1, 0] rfl)
def fX2_bear (wlibrary : Option Nat) (bbear : Int32) : Option Int32 := onn wlibrary (some (6 : Int32)) (some bbear)
theorem hinX2_bear_X2 : ∀ w ∈ u_ws RX2 TX2 14, w ∈ wsX2_bear := fun _ h => List.mem_cons_of_mem _ (List.mem_append_left _ (List.mem_append_right _ h))
theorem hinX2_bear_X3 : ∀ w ∈ u_ws RX3 TX3 5, w ∈ wsX2_bear := fun _ h => List.mem_cons_of_mem _ (List.mem_append_right _ h)
abbrev rmX2_bear : Room := { frames := 0, cells := 0, slots := 0, locals := 12 }
set_option maxHeartbeats 4000000 in
set_option maxRecDepth 100000 in
theorem ctX2_bear {l : Launch} {dC : Nat → ClassId} {dI : Nat → Nat → Nat} {kc : Nat → ClassId} {w_o w_kind w_v w_place w_rows w_length w_first w_second w_drifts w_traits b_o b_sorts b_letters b_numbers : Nat} {wpeople : Int32} {wkind : Nat → Int32} {wv : Nat → Int32} {wplace : Nat → Int32} {wrows : Nat → Int32} {wleaves : Int32} {wlength : Nat → Int32} {wfirst : Nat → Int32} {wsecond : Nat → Int32} {wdrops : Int32} {wstep : Int32} {wlibrary : Option Nat} {wdrifts : Nat → Int32} {wtraits : Nat → Int32} {bsorts : Nat → Int32} {bletters : Nat → Int32} {bnumbers : Nat → Int32} {bsize : Int32} {bbear : Int32} {r : Int32} (hm : fX2_bear wlibrary bbear = some r) (hlowlibrary : ∀ q : Nat, wlibrary = some q → q = b_o) : ∀ sz : Nat, Met l yX2_bear wsX2_bear rmX2_bear (kPc dC dI kc [.ref w_o] (fl [wdX2 kc w_o w_kind w_v w_place w_rows w_length w_first w_second w_drifts w_traits wpeople wkind wv wplace wrows wleaves wlength wfirst wsecond wdrops wstep wlibrary wdrifts wtraits, wdX3 kc b_o b_sorts b_letters b_numbers bsorts bletters bnumbers bsize bbear]) sz) (kQi dC dI r (fl [wdX2 kc w_o w_kind w_v w_place w_rows w_length w_first w_second w_drifts w_traits wpeople wkind wv wplace wrows wleaves wlength wfirst wsecond wdrops wstep wlibrary wdrifts wtraits, wdX3 kc b_o b_sorts b_letters b_numbers bsorts bletters bnumbers bsize bbear]) (va_A (fl [wdX2 kc w_o w_kind w_v w_place w_rows w_length w_first w_second w_drifts w_traits wpeople wkind wv wplace wrows wleaves wlength wfirst wsecond wdrops wstep wlibrary wdrifts wtraits, wdX3 kc b_o b_sorts b_letters b_numbers bsorts bletters bnumbers bsize bbear]) sz)) 0 0 (va_A (fl [wdX2 kc w_o w_kind w_v w_place w_rows w_length w_first w_second w_drifts w_traits wpeople wkind wv wplace wrows wleaves wlength wfirst wsecond wdrops wstep wlibrary wdrifts wtraits, wdX3 kc b_o b_sorts b_letters b_numbers bsorts bletters bnumbers bsize bbear]) sz) := by
  intro sz
  refine kMet (cc := cX2_bear) (maxL := 1) (ret := (some .int)) (Qf := fun A => kQi dC dI r (fl [wdX2 kc w_o w_kind w_v w_place w_rows w_length w_first w_second w_drifts w_traits wpeople wkind wv wplace wrows wleaves wlength wfirst wsecond wdrops wstep wlibrary wdrifts wtraits, wdX3 kc b_o b_sorts b_letters b_numbers bsorts bletters bnumbers bsize bbear]) A) (by decide) rfl (Nat.le_of_ble_eq_true rfl) ?_
  intro p e s m below meth c A ls hx hb hr hml hts hown hlocks hname hsz hA hP hK hD hl
  have hS : va_S A s.heap s.heap [] := va_S.rf
  have hl : lv_has ls 1 [(0, .ref w_o)] := hl
  unfold fX2_bear at hm
  refine lv_aload_n hx hb dX2_bear_0 rfl (lv_at hl 0 rfl) ?_
  refine va_get (D := (dC, dI)) (ci := 2) (v := va_rf wlibrary) (C := RX2) (T := TX2) (N := 14) hx hb hts hinX2_bear_X2 hown hK hP 0 rfl rfl 11 (by decide) (hts _ (List.mem_of_getElem? (i := 1) rfl)) (fun _ h9 => h9) rfl dX2_bear_1 ?_
  refine k_ifnonnull (tgt := 12) hx hb dX2_bear_4 (by decide) (fun hn4 => ?_) (fun q4 hq4 => ?_)
  · replace hm := onn_n hn4 hm
    refine lv_bipush (v := 6) hx hb dX2_bear_7 (by decide) ?_
    refine lv_goto (tgt := 19) hx hb dX2_bear_9 (by decide) ?_
    cases hm
    exact k_iret hx hb hr hlocks hP hS dX2_bear_19
  · replace hm := onn_s hq4 hm
    have hkwlibrary : wlibrary = some b_o := by rw [hq4, hlowlibrary q4 hq4]
    refine lv_aload_n hx hb dX2_bear_12 rfl (lv_at hl 0 rfl) ?_
    refine va_get (D := (dC, dI)) (ci := 2) (v := .ref b_o) (C := RX2) (T := TX2) (N := 14) hx hb hts hinX2_bear_X2 hown hK hP 0 rfl rfl 11 (by decide) (hts _ (List.mem_of_getElem? (i := 1) rfl)) (fun _ h9 => h9) (by show some (va_rf wlibrary) = some (.ref b_o); rw [hkwlibrary]; rfl) dX2_bear_13 ?_
    refine va_get (D := (dC, dI)) (ci := 3) (v := .int bbear) (C := RX3) (T := TX3) (N := 5) hx hb hts hinX2_bear_X3 hown hK hP 10 rfl rfl 4 (by decide) (hts _ (List.mem_of_getElem? (i := 2) rfl)) (fun _ h9 => h9) rfl dX2_bear_16 ?_
    cases hm
    exact k_iret hx hb hr hlocks hP hS dX2_bear_19
def fX2_driftOf (fu : Nat) (wkind : Nat → Int32) (wv : Nat → Int32) (wplace : Nat → Int32) (wrows : Nat → Int32) (wleaves : Int32) (wfirst : Nat → Int32) (wsecond : Nat → Int32) (wstep : Int32) (wlibrary : Option Nat) (wtraits : Nat → Int32) (bsorts : Nat → Int32) (bletters : Nat → Int32) (bnumbers : Nat → Int32) (bsize : Int32) (x1 : Int32) : Option (Int32 × (Nat → Int32)) := bd1 (fX2_holdsHowMany fu wleaves wfirst wsecond x1) (fun r2 => onn wlibrary (if r2 ≤ 0 then (gd (inb x1 6) (if (wkind (x1.toNatClampNeg)) = 1 then (some ((0 : Int32), wtraits)) else (if (wkind (x1.toNatClampNeg)) = 2 then (some ((0 : Int32) / 2, wtraits)) else (if (wkind (x1.toNatClampNeg)) = 3 then (bd1 (fX2_walkerDrift wstep 0) (fun r101 => some (r101, wtraits))) else (if (wkind (x1.toNatClampNeg)) = 4 then (if (wstep - wstep / 2 * 2) = 0 then (some ((0 : Int32), wtraits)) else (some ((0 : Int32), wtraits))) else (if (wkind (x1.toNatClampNeg)) = 5 then (some (((0 : Int32) / 2) + r2, wtraits)) else (if (wkind (x1.toNatClampNeg)) = 6 then (bd1 (fX2_walkerDrift wstep 0) (fun r129 => gd (inb ((x1 * 4) + (wstep - wstep / 4 * 4)) 24) (some ((r129 + (wrows (((x1 * 4) + (wstep - wstep / 4 * 4)).toNatClampNeg))) - 4, wtraits)))) else (some ((0 : Int32), wtraits))))))))) else (gd (inb x1 6) (gd (inb x1 6) (if (wkind (x1.toNatClampNeg)) = 1 then (some (0 + (wv (x1.toNatClampNeg)), wtraits)) else (if (wkind (x1.toNatClampNeg)) = 2 then (some ((0 : Int32) / 2, wtraits)) else (if (wkind (x1.toNatClampNeg)) = 3 then (bd1 (fX2_walkerDrift wstep 0) (fun r101 => some (r101, wtraits))) else (if (wkind (x1.toNatClampNeg)) = 4 then (if (wstep - wstep / 2 * 2) = 0 then (some ((0 : Int32), wtraits)) else (some (0 + (wv (x1.toNatClampNeg)), wtraits))) else (if (wkind (x1.toNatClampNeg)) = 5 then (some (((0 : Int32) / 2) + r2, wtraits)) else (if (wkind (x1.toNatClampNeg)) = 6 then (bd1 (fX2_walkerDrift wstep 0) (fun r129 => gd (inb ((x1 * 4) + (wstep - wstep / 4 * 4)) 24) (some ((r129 + (wrows (((x1 * 4) + (wstep - wstep / 4 * 4)).toNatClampNeg))) - 4, wtraits)))) else (some ((0 : Int32), wtraits))))))))))) (bd1 (fX2_traitsOf wkind wv wplace wstep wtraits x1 r2) (fun wtraits_24 => bd1 (fX3_sumFor fu bsorts bletters bnumbers bsize wtraits_24) (fun r27 => if r2 ≤ 0 then (gd (inb x1 6) (if (wkind (x1.toNatClampNeg)) = 1 then (some (r27, wtraits_24)) else (if (wkind (x1.toNatClampNeg)) = 2 then (some (r27 / 2, wtraits_24)) else (if (wkind (x1.toNatClampNeg)) = 3 then (bd1 (fX2_walkerDrift wstep r27) (fun r101 => some (r101, wtraits_24))) else (if (wkind (x1.toNatClampNeg)) = 4 then (if (wstep - wstep / 2 * 2) = 0 then (some ((0 : Int32), wtraits_24)) else (some (r27, wtraits_24))) else (if (wkind (x1.toNatClampNeg)) = 5 then (some ((r27 / 2) + r2, wtraits_24)) else (if (wkind (x1.toNatClampNeg)) = 6 then (bd1 (fX2_walkerDrift wstep r27) (fun r129 => gd (inb ((x1 * 4) + (wstep - wstep / 4 * 4)) 24) (some ((r129 + (wrows (((x1 * 4) + (wstep - wstep / 4 * 4)).toNatClampNeg))) - 4, wtraits_24)))) else (some (r27, wtraits_24))))))))) else (gd (inb x1 6) (gd (inb x1 6) (if (wkind (x1.toNatClampNeg)) = 1 then (some (r27 + (wv (x1.toNatClampNeg)), wtraits_24)) else (if (wkind (x1.toNatClampNeg)) = 2 then (some (r27 / 2, wtraits_24)) else (if (wkind (x1.toNatClampNeg)) = 3 then (bd1 (fX2_walkerDrift wstep r27) (fun r101 => some (r101, wtraits_24))) else (if (wkind (x1.toNatClampNeg)) = 4 then (if (wstep - wstep / 2 * 2) = 0 then (some ((0 : Int32), wtraits_24)) else (some (r27 + (wv (x1.toNatClampNeg)), wtraits_24))) else (if (wkind (x1.toNatClampNeg)) = 5 then (some ((r27 / 2) + r2, wtraits_24)) else (if (wkind (x1.toNatClampNeg)) = 6 then (bd1 (fX2_walkerDrift wstep r27) (fun r129 => gd (inb ((x1 * 4) + (wstep - wstep / 4 * 4)) 24) (some ((r129 + (wrows (((x1 * 4) + (wstep - wstep / 4 * 4)).toNatClampNeg))) - 4, wtraits_24)))) else (some (r27, wtraits_24))))))))))))))
theorem hinX2_driftOf_X2 : ∀ w ∈ u_ws RX2 TX2 14, w ∈ wsX2_driftOf := fun _ h => List.mem_cons_of_mem _ (List.mem_append_left _ (List.mem_append_right _ h))
abbrev rmX2_driftOf : Room := { frames := 2, cells := 0, slots := 0, locals := 57 }
set_option maxHeartbeats 4000000 in
set_option maxRecDepth 100000 in
theorem ctX2_driftOf {l : Launch} {dC : Nat → ClassId} {dI : Nat → Nat → Nat} {kc : Nat → ClassId} {w_o w_kind w_v w_place w_rows w_length w_first w_second w_drifts w_traits b_o b_sorts b_letters b_numbers : Nat} {wpeople : Int32} {wkind : Nat → Int32} {wv : Nat → Int32} {wplace : Nat → Int32} {wrows : Nat → Int32} {wleaves : Int32} {wlength : Nat → Int32} {wfirst : Nat → Int32} {wsecond : Nat → Int32} {wdrops : Int32} {wstep : Int32} {wlibrary : Option Nat} {wdrifts : Nat → Int32} {wtraits : Nat → Int32} {bsorts : Nat → Int32} {bletters : Nat → Int32} {bnumbers : Nat → Int32} {bsize : Int32} {bbear : Int32} {x1 : Int32} {fu : Nat} {r : Int32} {wtraits' : Nat → Int32} (hm : fX2_driftOf fu wkind wv wplace wrows wleaves wfirst wsecond wstep wlibrary wtraits bsorts bletters bnumbers bsize x1 = some (r, wtraits')) (hlowlibrary : ∀ q : Nat, wlibrary = some q → q = b_o) : ∀ sz : Nat, Met l yX2_driftOf wsX2_driftOf rmX2_driftOf (kPc dC dI kc [.ref w_o, .int x1] (fl [wdX2 kc w_o w_kind w_v w_place w_rows w_length w_first w_second w_drifts w_traits wpeople wkind wv wplace wrows wleaves wlength wfirst wsecond wdrops wstep wlibrary wdrifts wtraits, wdX3 kc b_o b_sorts b_letters b_numbers bsorts bletters bnumbers bsize bbear]) sz) (kQi dC dI r (fl [wdX2 kc w_o w_kind w_v w_place w_rows w_length w_first w_second w_drifts w_traits wpeople wkind wv wplace wrows wleaves wlength wfirst wsecond wdrops wstep wlibrary wdrifts wtraits', wdX3 kc b_o b_sorts b_letters b_numbers bsorts bletters bnumbers bsize bbear]) (va_A (fl [wdX2 kc w_o w_kind w_v w_place w_rows w_length w_first w_second w_drifts w_traits wpeople wkind wv wplace wrows wleaves wlength wfirst wsecond wdrops wstep wlibrary wdrifts wtraits, wdX3 kc b_o b_sorts b_letters b_numbers bsorts bletters bnumbers bsize bbear]) sz)) 0 0 (va_A (fl [wdX2 kc w_o w_kind w_v w_place w_rows w_length w_first w_second w_drifts w_traits wpeople wkind wv wplace wrows wleaves wlength wfirst wsecond wdrops wstep wlibrary wdrifts wtraits, wdX3 kc b_o b_sorts b_letters b_numbers bsorts bletters bnumbers bsize bbear]) sz) := by
  intro sz
  refine kMet (cc := cX2_driftOf) (maxL := 5) (ret := (some .int)) (Qf := fun A => kQi dC dI r (fl [wdX2 kc w_o w_kind w_v w_place w_rows w_length w_first w_second w_drifts w_traits wpeople wkind wv wplace wrows wleaves wlength wfirst wsecond wdrops wstep wlibrary wdrifts wtraits', wdX3 kc b_o b_sorts b_letters b_numbers bsorts bletters bnumbers bsize bbear]) A) (by decide) rfl (Nat.le_of_ble_eq_true rfl) ?_
  intro p e s m below meth c A ls hx hb hr hml hts hown hlocks hname hsz hA hP hK hD hl
  have hS : va_S A s.heap s.heap [] := va_S.rf
  have hl : lv_has ls 5 [(0, .ref w_o), (1, .int x1)] := hl
  unfold fX2_driftOf at hm
  refine lv_aload_n hx hb dX2_driftOf_0 rfl (lv_at hl 0 rfl) ?_
  refine lv_iload_n hx hb dX2_driftOf_1 rfl (lv_at hl 1 rfl) ?_
  obtain ⟨r2, hc2, hm⟩ := bd1_e hm
  refine k_callGVi (dC := dC) (dI := dI) (kc := kc) (As := [.int x1]) (rest := []) (Gs' := [wdX2 kc w_o w_kind w_v w_place w_rows w_length w_first w_second w_drifts w_traits wpeople wkind wv wplace wrows wleaves wlength wfirst wsecond wdrops wstep wlibrary wdrifts wtraits, wdX3 kc b_o b_sorts b_letters b_numbers bsorts bletters bnumbers bsize bbear]) hx hb hml hown hts hK hP hD hS hA (ctX2_holdsHowMany (w_o := w_o) (w_kind := w_kind) (w_v := w_v) (w_place := w_place) (w_rows := w_rows) (w_length := w_length) (w_first := w_first) (w_second := w_second) (w_drifts := w_drifts) (w_traits := w_traits) (wpeople := wpeople) (wkind := wkind) (wv := wv) (wplace := wplace) (wrows := wrows) (wleaves := wleaves) (wlength := wlength) (wfirst := wfirst) (wsecond := wsecond) (wdrops := wdrops) (wstep := wstep) (wlibrary := wlibrary) (wdrifts := wdrifts) (wtraits := wtraits) (x1 := x1) hc2) (cwV 1 hts gX2_driftOf_X2_holdsHowMany rfl rfl rfl (by decide +kernel) ⟨Nat.le_of_ble_eq_true rfl, Nat.le_of_ble_eq_true rfl⟩) [0] rfl (by decide) 2 rfl rfl rfl rfl hl rfl (Nat.le_of_ble_eq_true rfl) dX2_driftOf_2 ⟨Nat.zero_le _, Nat.zero_le _⟩ rfl rfl rfl (fun H locs hP hD hS => ?_)
  refine lv_istore_n (lv' := [(2, .int r2), (0, .ref w_o), (1, .int x1)]) hx hb dX2_driftOf_5 rfl hl (by decide) rfl (fun ls hl => ?_)
  refine lv_aload_n hx hb dX2_driftOf_6 rfl (lv_at hl 1 rfl) ?_
  refine va_get (D := (dC, dI)) (ci := 2) (v := va_rf wlibrary) (C := RX2) (T := TX2) (N := 14) hx hb hts hinX2_driftOf_X2 hown hK hP 0 rfl rfl 11 (by decide) (hts _ (List.mem_of_getElem? (i := 1) rfl)) (fun _ h9 => h9) rfl dX2_driftOf_7 ?_
  refine k_ifnonnull (tgt := 17) hx hb dX2_driftOf_10 (by decide) (fun hn10 => ?_) (fun q10 hq10 => ?_)
  · replace hm := onn_n hn10 hm
    refine lv_iconst (v := 0) hx hb dX2_driftOf_13 (by decide) ?_
    refine lv_goto (tgt := 30) hx hb dX2_driftOf_14 (by decide) ?_
    refine lv_istore_n (lv' := [(3, .int 0), (2, .int r2), (0, .ref w_o), (1, .int x1)]) hx hb dX2_driftOf_30 rfl hl (by decide) rfl (fun ls hl => ?_)
    refine lv_iload_n hx hb dX2_driftOf_31 rfl (lv_at hl 1 rfl) ?_
    refine lv_if_le (tgt := 46) hx hb dX2_driftOf_32 (by decide) (fun c32 => ?_) (fun c32 => ?_)
    · replace hm := it_t c32 hm
      refine lv_iload_n hx hb dX2_driftOf_46 rfl (lv_at hl 0 rfl) ?_
      refine lv_istore (lv' := [(4, .int 0), (3, .int 0), (2, .int r2), (0, .ref w_o), (1, .int x1)]) hx hb dX2_driftOf_47 hl (by decide) rfl (fun ls hl => ?_)
      refine lv_aload_n hx hb dX2_driftOf_49 rfl (lv_at hl 3 rfl) ?_
      refine va_get (D := (dC, dI)) (ci := 2) (v := .ref w_kind) (C := RX2) (T := TX2) (N := 14) hx hb hts hinX2_driftOf_X2 hown hK hP 0 rfl rfl 1 (by decide) (hts _ (List.mem_of_getElem? (i := 3) rfl)) (fun _ h9 => h9) rfl dX2_driftOf_50 ?_
      refine lv_iload_n hx hb dX2_driftOf_53 rfl (lv_at hl 4 rfl) ?_
      obtain ⟨hg54, hm⟩ := gd_e hm
      refine k_iald (D := (dC, dI)) hx hb hK hP 1 1 rfl rfl (k := x1.toNatClampNeg) rfl hg54 dX2_driftOf_54 ?_
      by_cases cs55_0 : (wkind (x1.toNatClampNeg)) = 1
      · replace hm := it_t cs55_0 hm
        refine lv_tableIn (off := 37) (tgt := 92) hx hb dX2_driftOf_55 (by rw [cs55_0]; decide) (by rw [cs55_0]; decide) (by rw [cs55_0]; rfl) (by decide) ?_
        refine lv_iload hx hb dX2_driftOf_92 (lv_at hl 0 rfl) ?_
        cases hm
        exact k_iret hx hb hr hlocks hP hS dX2_driftOf_94
      replace hm := it_f cs55_0 hm
      by_cases cs55_1 : (wkind (x1.toNatClampNeg)) = 2
      · replace hm := it_t cs55_1 hm
        refine lv_tableIn (off := 40) (tgt := 95) hx hb dX2_driftOf_55 (by rw [cs55_1]; decide) (by rw [cs55_1]; decide) (by rw [cs55_1]; rfl) (by decide) ?_
        refine lv_iload_n hx hb dX2_driftOf_95 rfl (lv_at hl 1 rfl) ?_
        refine lv_iconst (v := 2) hx hb dX2_driftOf_96 (by decide) ?_
        refine lv_idiv hx hb dX2_driftOf_97 (by decide) ?_
        cases hm
        exact k_iret hx hb hr hlocks hP hS dX2_driftOf_98
      replace hm := it_f cs55_1 hm
      by_cases cs55_2 : (wkind (x1.toNatClampNeg)) = 3
      · replace hm := it_t cs55_2 hm
        refine lv_tableIn (off := 44) (tgt := 99) hx hb dX2_driftOf_55 (by rw [cs55_2]; decide) (by rw [cs55_2]; decide) (by rw [cs55_2]; rfl) (by decide) ?_
        refine lv_aload_n hx hb dX2_driftOf_99 rfl (lv_at hl 3 rfl) ?_
        refine lv_iload_n hx hb dX2_driftOf_100 rfl (lv_at hl 1 rfl) ?_
        obtain ⟨r101, hc101, hm⟩ := bd1_e hm
        refine k_callGVi (dC := dC) (dI := dI) (kc := kc) (As := [.int 0]) (rest := []) (Gs' := [wdX2 kc w_o w_kind w_v w_place w_rows w_length w_first w_second w_drifts w_traits wpeople wkind wv wplace wrows wleaves wlength wfirst wsecond wdrops wstep wlibrary wdrifts wtraits, wdX3 kc b_o b_sorts b_letters b_numbers bsorts bletters bnumbers bsize bbear]) hx hb hml hown hts hK hP hD hS hA (ctX2_walkerDrift (w_o := w_o) (w_kind := w_kind) (w_v := w_v) (w_place := w_place) (w_rows := w_rows) (w_length := w_length) (w_first := w_first) (w_second := w_second) (w_drifts := w_drifts) (w_traits := w_traits) (wpeople := wpeople) (wkind := wkind) (wv := wv) (wplace := wplace) (wrows := wrows) (wleaves := wleaves) (wlength := wlength) (wfirst := wfirst) (wsecond := wsecond) (wdrops := wdrops) (wstep := wstep) (wlibrary := wlibrary) (wdrifts := wdrifts) (wtraits := wtraits) (x1 := 0) hc101) (cwV 1 hts gX2_driftOf_X2_walkerDrift rfl rfl rfl (by decide +kernel) ⟨Nat.le_of_ble_eq_true rfl, Nat.le_of_ble_eq_true rfl⟩) [0] rfl (by decide) 2 rfl rfl rfl rfl hl rfl (Nat.le_of_ble_eq_true rfl) dX2_driftOf_101 ⟨Nat.zero_le _, Nat.zero_le _⟩ rfl rfl rfl (fun H locs hP hD hS => ?_)
        cases hm
        exact k_iret hx hb hr hlocks hP hS dX2_driftOf_104
      replace hm := it_f cs55_2 hm
      by_cases cs55_3 : (wkind (x1.toNatClampNeg)) = 4
      · replace hm := it_t cs55_3 hm
        refine lv_tableIn (off := 50) (tgt := 105) hx hb dX2_driftOf_55 (by rw [cs55_3]; decide) (by rw [cs55_3]; decide) (by rw [cs55_3]; rfl) (by decide) ?_
        refine lv_aload_n hx hb dX2_driftOf_105 rfl (lv_at hl 3 rfl) ?_
        refine va_get (D := (dC, dI)) (ci := 2) (v := .int wstep) (C := RX2) (T := TX2) (N := 14) hx hb hts hinX2_driftOf_X2 hown hK hP 0 rfl rfl 10 (by decide) (hts _ (List.mem_of_getElem? (i := 4) rfl)) (fun _ h9 => h9) rfl dX2_driftOf_106 ?_
        refine lv_iconst (v := 2) hx hb dX2_driftOf_109 (by decide) ?_
        refine lv_irem hx hb dX2_driftOf_110 (by decide) ?_
        refine lv_if_ne (tgt := 118) hx hb dX2_driftOf_111 (by decide) (fun c111 => ?_) (fun c111 => ?_)
        · replace hm := it_f c111 hm
          refine lv_iload hx hb dX2_driftOf_118 (lv_at hl 0 rfl) ?_
          cases hm
          exact k_iret hx hb hr hlocks hP hS dX2_driftOf_120
        · replace hm := it_t c111 hm
          refine lv_iconst (v := 0) hx hb dX2_driftOf_114 (by decide) ?_
          refine lv_goto (tgt := 120) hx hb dX2_driftOf_115 (by decide) ?_
          cases hm
          exact k_iret hx hb hr hlocks hP hS dX2_driftOf_120
      replace hm := it_f cs55_3 hm
      by_cases cs55_4 : (wkind (x1.toNatClampNeg)) = 5
      · replace hm := it_t cs55_4 hm
        refine lv_tableIn (off := 66) (tgt := 121) hx hb dX2_driftOf_55 (by rw [cs55_4]; decide) (by rw [cs55_4]; decide) (by rw [cs55_4]; rfl) (by decide) ?_
        refine lv_iload_n hx hb dX2_driftOf_121 rfl (lv_at hl 1 rfl) ?_
        refine lv_iconst (v := 2) hx hb dX2_driftOf_122 (by decide) ?_
        refine lv_idiv hx hb dX2_driftOf_123 (by decide) ?_
        refine lv_iload_n hx hb dX2_driftOf_124 rfl (lv_at hl 2 rfl) ?_
        refine lv_iadd hx hb dX2_driftOf_125 ?_
        cases hm
        exact k_iret hx hb hr hlocks hP hS dX2_driftOf_126
      replace hm := it_f cs55_4 hm
      by_cases cs55_5 : (wkind (x1.toNatClampNeg)) = 6
      · replace hm := it_t cs55_5 hm
        refine lv_tableIn (off := 72) (tgt := 127) hx hb dX2_driftOf_55 (by rw [cs55_5]; decide) (by rw [cs55_5]; decide) (by rw [cs55_5]; rfl) (by decide) ?_
        refine lv_aload_n hx hb dX2_driftOf_127 rfl (lv_at hl 3 rfl) ?_
        refine lv_iload_n hx hb dX2_driftOf_128 rfl (lv_at hl 1 rfl) ?_
        obtain ⟨r129, hc129, hm⟩ := bd1_e hm
        refine k_callGVi (dC := dC) (dI := dI) (kc := kc) (As := [.int 0]) (rest := []) (Gs' := [wdX2 kc w_o w_kind w_v w_place w_rows w_length w_first w_second w_drifts w_traits wpeople wkind wv wplace wrows wleaves wlength wfirst wsecond wdrops wstep wlibrary wdrifts wtraits, wdX3 kc b_o b_sorts b_letters b_numbers bsorts bletters bnumbers bsize bbear]) hx hb hml hown hts hK hP hD hS hA (ctX2_walkerDrift (w_o := w_o) (w_kind := w_kind) (w_v := w_v) (w_place := w_place) (w_rows := w_rows) (w_length := w_length) (w_first := w_first) (w_second := w_second) (w_drifts := w_drifts) (w_traits := w_traits) (wpeople := wpeople) (wkind := wkind) (wv := wv) (wplace := wplace) (wrows := wrows) (wleaves := wleaves) (wlength := wlength) (wfirst := wfirst) (wsecond := wsecond) (wdrops := wdrops) (wstep := wstep) (wlibrary := wlibrary) (wdrifts := wdrifts) (wtraits := wtraits) (x1 := 0) hc129) (cwV 1 hts gX2_driftOf_X2_walkerDrift rfl rfl rfl (by decide +kernel) ⟨Nat.le_of_ble_eq_true rfl, Nat.le_of_ble_eq_true rfl⟩) [0] rfl (by decide) 2 rfl rfl rfl rfl hl rfl (Nat.le_of_ble_eq_true rfl) dX2_driftOf_129 ⟨Nat.zero_le _, Nat.zero_le _⟩ rfl rfl rfl (fun H locs hP hD hS => ?_)
        refine lv_aload_n hx hb dX2_driftOf_132 rfl (lv_at hl 3 rfl) ?_
        refine va_get (D := (dC, dI)) (ci := 2) (v := .ref w_rows) (C := RX2) (T := TX2) (N := 14) hx hb hts hinX2_driftOf_X2 hown hK hP 0 rfl rfl 4 (by decide) (hts _ (List.mem_of_getElem? (i := 5) rfl)) (fun _ h9 => h9) rfl dX2_driftOf_133 ?_
        refine lv_iload_n hx hb dX2_driftOf_136 rfl (lv_at hl 4 rfl) ?_
        refine lv_iconst (v := 4) hx hb dX2_driftOf_137 (by decide) ?_
        refine lv_imul hx hb dX2_driftOf_138 ?_
        refine lv_aload_n hx hb dX2_driftOf_139 rfl (lv_at hl 3 rfl) ?_
        refine va_get (D := (dC, dI)) (ci := 2) (v := .int wstep) (C := RX2) (T := TX2) (N := 14) hx hb hts hinX2_driftOf_X2 hown hK hP 0 rfl rfl 10 (by decide) (hts _ (List.mem_of_getElem? (i := 4) rfl)) (fun _ h9 => h9) rfl dX2_driftOf_140 ?_
        refine lv_iconst (v := 4) hx hb dX2_driftOf_143 (by decide) ?_
        refine lv_irem hx hb dX2_driftOf_144 (by decide) ?_
        refine lv_iadd hx hb dX2_driftOf_145 ?_
        obtain ⟨hg146, hm⟩ := gd_e hm
        refine k_iald (D := (dC, dI)) hx hb hK hP 4 1 rfl rfl (k := ((x1 * 4) + (wstep - wstep / 4 * 4)).toNatClampNeg) rfl hg146 dX2_driftOf_146 ?_
        refine lv_iadd hx hb dX2_driftOf_147 ?_
        refine lv_iconst (v := 4) hx hb dX2_driftOf_148 (by decide) ?_
        refine lv_isub hx hb dX2_driftOf_149 ?_
        cases hm
        exact k_iret hx hb hr hlocks hP hS dX2_driftOf_150
      replace hm := it_f cs55_5 hm
      have nt55_0 := lv_neT (k := 1) (a := 1) cs55_0 (by decide)
      have nt55_1 := lv_neT (k := 2) (a := 2) cs55_1 (by decide)
      have nt55_2 := lv_neT (k := 3) (a := 3) cs55_2 (by decide)
      have nt55_3 := lv_neT (k := 4) (a := 4) cs55_3 (by decide)
      have nt55_4 := lv_neT (k := 5) (a := 5) cs55_4 (by decide)
      have nt55_5 := lv_neT (k := 6) (a := 6) cs55_5 (by decide)
      refine lv_tableOut (tgt := 151) hx hb dX2_driftOf_55 (by omega) (by decide) ?_
      refine lv_iload_n hx hb dX2_driftOf_151 rfl (lv_at hl 1 rfl) ?_
      cases hm
      exact k_iret hx hb hr hlocks hP hS dX2_driftOf_152
    · replace hm := it_f c32 hm
      refine lv_iload_n hx hb dX2_driftOf_35 rfl (lv_at hl 0 rfl) ?_
      refine lv_aload_n hx hb dX2_driftOf_36 rfl (lv_at hl 2 rfl) ?_
      refine va_get (D := (dC, dI)) (ci := 2) (v := .ref w_v) (C := RX2) (T := TX2) (N := 14) hx hb hts hinX2_driftOf_X2 hown hK hP 0 rfl rfl 2 (by decide) (hts _ (List.mem_of_getElem? (i := 2) rfl)) (fun _ h9 => h9) rfl dX2_driftOf_37 ?_
      refine lv_iload_n hx hb dX2_driftOf_40 rfl (lv_at hl 3 rfl) ?_
      obtain ⟨hg41, hm⟩ := gd_e hm
      refine k_iald (D := (dC, dI)) hx hb hK hP 2 1 rfl rfl (k := x1.toNatClampNeg) rfl hg41 dX2_driftOf_41 ?_
      refine lv_iadd hx hb dX2_driftOf_42 ?_
      refine lv_goto (tgt := 47) hx hb dX2_driftOf_43 (by decide) ?_
      refine lv_istore (lv' := [(4, .int (0 + (wv (x1.toNatClampNeg)))), (3, .int 0), (2, .int r2), (0, .ref w_o), (1, .int x1)]) hx hb dX2_driftOf_47 hl (by decide) rfl (fun ls hl => ?_)
      refine lv_aload_n hx hb dX2_driftOf_49 rfl (lv_at hl 3 rfl) ?_
      refine va_get (D := (dC, dI)) (ci := 2) (v := .ref w_kind) (C := RX2) (T := TX2) (N := 14) hx hb hts hinX2_driftOf_X2 hown hK hP 0 rfl rfl 1 (by decide) (hts _ (List.mem_of_getElem? (i := 3) rfl)) (fun _ h9 => h9) rfl dX2_driftOf_50 ?_
      refine lv_iload_n hx hb dX2_driftOf_53 rfl (lv_at hl 4 rfl) ?_
      obtain ⟨hg54, hm⟩ := gd_e hm
      refine k_iald (D := (dC, dI)) hx hb hK hP 1 1 rfl rfl (k := x1.toNatClampNeg) rfl hg54 dX2_driftOf_54 ?_
      by_cases cs55_0 : (wkind (x1.toNatClampNeg)) = 1
      · replace hm := it_t cs55_0 hm
        refine lv_tableIn (off := 37) (tgt := 92) hx hb dX2_driftOf_55 (by rw [cs55_0]; decide) (by rw [cs55_0]; decide) (by rw [cs55_0]; rfl) (by decide) ?_
        refine lv_iload hx hb dX2_driftOf_92 (lv_at hl 0 rfl) ?_
        cases hm
        exact k_iret hx hb hr hlocks hP hS dX2_driftOf_94
      replace hm := it_f cs55_0 hm
      by_cases cs55_1 : (wkind (x1.toNatClampNeg)) = 2
      · replace hm := it_t cs55_1 hm
        refine lv_tableIn (off := 40) (tgt := 95) hx hb dX2_driftOf_55 (by rw [cs55_1]; decide) (by rw [cs55_1]; decide) (by rw [cs55_1]; rfl) (by decide) ?_
        refine lv_iload_n hx hb dX2_driftOf_95 rfl (lv_at hl 1 rfl) ?_
        refine lv_iconst (v := 2) hx hb dX2_driftOf_96 (by decide) ?_
        refine lv_idiv hx hb dX2_driftOf_97 (by decide) ?_
        cases hm
        exact k_iret hx hb hr hlocks hP hS dX2_driftOf_98
      replace hm := it_f cs55_1 hm
      by_cases cs55_2 : (wkind (x1.toNatClampNeg)) = 3
      · replace hm := it_t cs55_2 hm
        refine lv_tableIn (off := 44) (tgt := 99) hx hb dX2_driftOf_55 (by rw [cs55_2]; decide) (by rw [cs55_2]; decide) (by rw [cs55_2]; rfl) (by decide) ?_
        refine lv_aload_n hx hb dX2_driftOf_99 rfl (lv_at hl 3 rfl) ?_
        refine lv_iload_n hx hb dX2_driftOf_100 rfl (lv_at hl 1 rfl) ?_
        obtain ⟨r101, hc101, hm⟩ := bd1_e hm
        refine k_callGVi (dC := dC) (dI := dI) (kc := kc) (As := [.int 0]) (rest := []) (Gs' := [wdX2 kc w_o w_kind w_v w_place w_rows w_length w_first w_second w_drifts w_traits wpeople wkind wv wplace wrows wleaves wlength wfirst wsecond wdrops wstep wlibrary wdrifts wtraits, wdX3 kc b_o b_sorts b_letters b_numbers bsorts bletters bnumbers bsize bbear]) hx hb hml hown hts hK hP hD hS hA (ctX2_walkerDrift (w_o := w_o) (w_kind := w_kind) (w_v := w_v) (w_place := w_place) (w_rows := w_rows) (w_length := w_length) (w_first := w_first) (w_second := w_second) (w_drifts := w_drifts) (w_traits := w_traits) (wpeople := wpeople) (wkind := wkind) (wv := wv) (wplace := wplace) (wrows := wrows) (wleaves := wleaves) (wlength := wlength) (wfirst := wfirst) (wsecond := wsecond) (wdrops := wdrops) (wstep := wstep) (wlibrary := wlibrary) (wdrifts := wdrifts) (wtraits := wtraits) (x1 := 0) hc101) (cwV 1 hts gX2_driftOf_X2_walkerDrift rfl rfl rfl (by decide +kernel) ⟨Nat.le_of_ble_eq_true rfl, Nat.le_of_ble_eq_true rfl⟩) [0] rfl (by decide) 2 rfl rfl rfl rfl hl rfl (Nat.le_of_ble_eq_true rfl) dX2_driftOf_101 ⟨Nat.zero_le _, Nat.zero_le _⟩ rfl rfl rfl (fun H locs hP hD hS => ?_)
        cases hm
        exact k_iret hx hb hr hlocks hP hS dX2_driftOf_104
      replace hm := it_f cs55_2 hm
      by_cases cs55_3 : (wkind (x1.toNatClampNeg)) = 4
      · replace hm := it_t cs55_3 hm
        refine lv_tableIn (off := 50) (tgt := 105) hx hb dX2_driftOf_55 (by rw [cs55_3]; decide) (by rw [cs55_3]; decide) (by rw [cs55_3]; rfl) (by decide) ?_
        refine lv_aload_n hx hb dX2_driftOf_105 rfl (lv_at hl 3 rfl) ?_
        refine va_get (D := (dC, dI)) (ci := 2) (v := .int wstep) (C := RX2) (T := TX2) (N := 14) hx hb hts hinX2_driftOf_X2 hown hK hP 0 rfl rfl 10 (by decide) (hts _ (List.mem_of_getElem? (i := 4) rfl)) (fun _ h9 => h9) rfl dX2_driftOf_106 ?_
        refine lv_iconst (v := 2) hx hb dX2_driftOf_109 (by decide) ?_
        refine lv_irem hx hb dX2_driftOf_110 (by decide) ?_
        refine lv_if_ne (tgt := 118) hx hb dX2_driftOf_111 (by decide) (fun c111 => ?_) (fun c111 => ?_)
        · replace hm := it_f c111 hm
          refine lv_iload hx hb dX2_driftOf_118 (lv_at hl 0 rfl) ?_
          cases hm
          exact k_iret hx hb hr hlocks hP hS dX2_driftOf_120
        · replace hm := it_t c111 hm
          refine lv_iconst (v := 0) hx hb dX2_driftOf_114 (by decide) ?_
          refine lv_goto (tgt := 120) hx hb dX2_driftOf_115 (by decide) ?_
          cases hm
          exact k_iret hx hb hr hlocks hP hS dX2_driftOf_120
      replace hm := it_f cs55_3 hm
      by_cases cs55_4 : (wkind (x1.toNatClampNeg)) = 5
      · replace hm := it_t cs55_4 hm
        refine lv_tableIn (off := 66) (tgt := 121) hx hb dX2_driftOf_55 (by rw [cs55_4]; decide) (by rw [cs55_4]; decide) (by rw [cs55_4]; rfl) (by decide) ?_
        refine lv_iload_n hx hb dX2_driftOf_121 rfl (lv_at hl 1 rfl) ?_
        refine lv_iconst (v := 2) hx hb dX2_driftOf_122 (by decide) ?_
        refine lv_idiv hx hb dX2_driftOf_123 (by decide) ?_
        refine lv_iload_n hx hb dX2_driftOf_124 rfl (lv_at hl 2 rfl) ?_
        refine lv_iadd hx hb dX2_driftOf_125 ?_
        cases hm
        exact k_iret hx hb hr hlocks hP hS dX2_driftOf_126
      replace hm := it_f cs55_4 hm
      by_cases cs55_5 : (wkind (x1.toNatClampNeg)) = 6
      · replace hm := it_t cs55_5 hm
        refine lv_tableIn (off := 72) (tgt := 127) hx hb dX2_driftOf_55 (by rw [cs55_5]; decide) (by rw [cs55_5]; decide) (by rw [cs55_5]; rfl) (by decide) ?_
        refine lv_aload_n hx hb dX2_driftOf_127 rfl (lv_at hl 3 rfl) ?_
        refine lv_iload_n hx hb dX2_driftOf_128 rfl (lv_at hl 1 rfl) ?_
        obtain ⟨r129, hc129, hm⟩ := bd1_e hm
        refine k_callGVi (dC := dC) (dI := dI) (kc := kc) (As := [.int 0]) (rest := []) (Gs' := [wdX2 kc w_o w_kind w_v w_place w_rows w_length w_first w_second w_drifts w_traits wpeople wkind wv wplace wrows wleaves wlength wfirst wsecond wdrops wstep wlibrary wdrifts wtraits, wdX3 kc b_o b_sorts b_letters b_numbers bsorts bletters bnumbers bsize bbear]) hx hb hml hown hts hK hP hD hS hA (ctX2_walkerDrift (w_o := w_o) (w_kind := w_kind) (w_v := w_v) (w_place := w_place) (w_rows := w_rows) (w_length := w_length) (w_first := w_first) (w_second := w_second) (w_drifts := w_drifts) (w_traits := w_traits) (wpeople := wpeople) (wkind := wkind) (wv := wv) (wplace := wplace) (wrows := wrows) (wleaves := wleaves) (wlength := wlength) (wfirst := wfirst) (wsecond := wsecond) (wdrops := wdrops) (wstep := wstep) (wlibrary := wlibrary) (wdrifts := wdrifts) (wtraits := wtraits) (x1 := 0) hc129) (cwV 1 hts gX2_driftOf_X2_walkerDrift rfl rfl rfl (by decide +kernel) ⟨Nat.le_of_ble_eq_true rfl, Nat.le_of_ble_eq_true rfl⟩) [0] rfl (by decide) 2 rfl rfl rfl rfl hl rfl (Nat.le_of_ble_eq_true rfl) dX2_driftOf_129 ⟨Nat.zero_le _, Nat.zero_le _⟩ rfl rfl rfl (fun H locs hP hD hS => ?_)
        refine lv_aload_n hx hb dX2_driftOf_132 rfl (lv_at hl 3 rfl) ?_
        refine va_get (D := (dC, dI)) (ci := 2) (v := .ref w_rows) (C := RX2) (T := TX2) (N := 14) hx hb hts hinX2_driftOf_X2 hown hK hP 0 rfl rfl 4 (by decide) (hts _ (List.mem_of_getElem? (i := 5) rfl)) (fun _ h9 => h9) rfl dX2_driftOf_133 ?_
        refine lv_iload_n hx hb dX2_driftOf_136 rfl (lv_at hl 4 rfl) ?_
        refine lv_iconst (v := 4) hx hb dX2_driftOf_137 (by decide) ?_
        refine lv_imul hx hb dX2_driftOf_138 ?_
        refine lv_aload_n hx hb dX2_driftOf_139 rfl (lv_at hl 3 rfl) ?_
        refine va_get (D := (dC, dI)) (ci := 2) (v := .int wstep) (C := RX2) (T := TX2) (N := 14) hx hb hts hinX2_driftOf_X2 hown hK hP 0 rfl rfl 10 (by decide) (hts _ (List.mem_of_getElem? (i := 4) rfl)) (fun _ h9 => h9) rfl dX2_driftOf_140 ?_
        refine lv_iconst (v := 4) hx hb dX2_driftOf_143 (by decide) ?_
        refine lv_irem hx hb dX2_driftOf_144 (by decide) ?_
        refine lv_iadd hx hb dX2_driftOf_145 ?_
        obtain ⟨hg146, hm⟩ := gd_e hm
        refine k_iald (D := (dC, dI)) hx hb hK hP 4 1 rfl rfl (k := ((x1 * 4) + (wstep - wstep / 4 * 4)).toNatClampNeg) rfl hg146 dX2_driftOf_146 ?_
        refine lv_iadd hx hb dX2_driftOf_147 ?_
        refine lv_iconst (v := 4) hx hb dX2_driftOf_148 (by decide) ?_
        refine lv_isub hx hb dX2_driftOf_149 ?_
        cases hm
        exact k_iret hx hb hr hlocks hP hS dX2_driftOf_150
      replace hm := it_f cs55_5 hm
      have nt55_0 := lv_neT (k := 1) (a := 1) cs55_0 (by decide)
      have nt55_1 := lv_neT (k := 2) (a := 2) cs55_1 (by decide)
      have nt55_2 := lv_neT (k := 3) (a := 3) cs55_2 (by decide)
      have nt55_3 := lv_neT (k := 4) (a := 4) cs55_3 (by decide)
      have nt55_4 := lv_neT (k := 5) (a := 5) cs55_4 (by decide)
      have nt55_5 := lv_neT (k := 6) (a := 6) cs55_5 (by decide)
      refine lv_tableOut (tgt := 151) hx hb dX2_driftOf_55 (by omega) (by decide) ?_
      refine lv_iload_n hx hb dX2_driftOf_151 rfl (lv_at hl 1 rfl) ?_
      cases hm
      exact k_iret hx hb hr hlocks hP hS dX2_driftOf_152
  · replace hm := onn_s hq10 hm
    have hkwlibrary : wlibrary = some b_o := by rw [hq10, hlowlibrary q10 hq10]
    refine lv_aload_n hx hb dX2_driftOf_17 rfl (lv_at hl 1 rfl) ?_
    refine va_get (D := (dC, dI)) (ci := 2) (v := .ref b_o) (C := RX2) (T := TX2) (N := 14) hx hb hts hinX2_driftOf_X2 hown hK hP 0 rfl rfl 11 (by decide) (hts _ (List.mem_of_getElem? (i := 1) rfl)) (fun _ h9 => h9) (by show some (va_rf wlibrary) = some (.ref b_o); rw [hkwlibrary]; rfl) dX2_driftOf_18 ?_
    refine lv_aload_n hx hb dX2_driftOf_21 rfl (lv_at hl 1 rfl) ?_
    refine lv_iload_n hx hb dX2_driftOf_22 rfl (lv_at hl 2 rfl) ?_
    refine lv_iload_n hx hb dX2_driftOf_23 rfl (lv_at hl 0 rfl) ?_
    obtain ⟨wtraits_24, hc24, hm⟩ := bd1_e hm
    refine k_callGVr (dC := dC) (dI := dI) (kc := kc) (As := [.int x1, .int r2]) (rest := [.ref b_o]) (Gs' := [wdX2 kc w_o w_kind w_v w_place w_rows w_length w_first w_second w_drifts w_traits wpeople wkind wv wplace wrows wleaves wlength wfirst wsecond wdrops wstep wlibrary wdrifts wtraits_24, wdX3 kc b_o b_sorts b_letters b_numbers bsorts bletters bnumbers bsize bbear]) hx hb hml hown hts hK hP hD hS hA (ctX2_traitsOf (w_o := w_o) (w_kind := w_kind) (w_v := w_v) (w_place := w_place) (w_rows := w_rows) (w_length := w_length) (w_first := w_first) (w_second := w_second) (w_drifts := w_drifts) (w_traits := w_traits) (wpeople := wpeople) (wkind := wkind) (wv := wv) (wplace := wplace) (wrows := wrows) (wleaves := wleaves) (wlength := wlength) (wfirst := wfirst) (wsecond := wsecond) (wdrops := wdrops) (wstep := wstep) (wlibrary := wlibrary) (wdrifts := wdrifts) (wtraits := wtraits) (x1 := x1) (x2 := r2) hc24) (cwV 2 hts gX2_driftOf_X2_traitsOf rfl rfl rfl (by decide +kernel) ⟨Nat.le_of_ble_eq_true rfl, Nat.le_of_ble_eq_true rfl⟩) [0] rfl (by decide) 2 rfl rfl rfl rfl hl rfl (Nat.le_of_ble_eq_true rfl) dX2_driftOf_24 ⟨Nat.zero_le _, Nat.zero_le _⟩ rfl rfl rfl (fun H locs hP hD hS => ?_)
    obtain ⟨r27, hc27, hm⟩ := bd1_e hm
    refine k_callVi (dC := dC) (dI := dI) (kc := kc) (As := [.ref w_traits]) (rest := []) (ws' := fl [wdX2 kc w_o w_kind w_v w_place w_rows w_length w_first w_second w_drifts w_traits wpeople wkind wv wplace wrows wleaves wlength wfirst wsecond wdrops wstep wlibrary wdrifts wtraits_24, wdX3 kc b_o b_sorts b_letters b_numbers bsorts bletters bnumbers bsize bbear]) hx hb hml hown hts hK hP hD hS hA (ctX3_sumFor (b_o := b_o) (b_sorts := b_sorts) (b_letters := b_letters) (b_numbers := b_numbers) (q_o := w_traits) (bsorts := bsorts) (bletters := bletters) (bnumbers := bnumbers) (bsize := bsize) (bbear := bbear) (qarr := wtraits_24) hc27) (cwV 1 hts gX2_driftOf_X3_sumFor rfl rfl rfl (by decide +kernel) ⟨Nat.le_of_ble_eq_true rfl, Nat.le_of_ble_eq_true rfl⟩) [10, 11, 12, 13, 9] rfl (by decide) 3 rfl rfl rfl rfl hl rfl (Nat.le_of_ble_eq_true rfl) dX2_driftOf_27 ⟨Nat.zero_le _, Nat.zero_le _⟩ rfl rfl rfl (fun H locs hP hD hS => ?_)
    refine lv_istore_n (lv' := [(3, .int r27), (2, .int r2), (0, .ref w_o), (1, .int x1)]) hx hb dX2_driftOf_30 rfl hl (by decide) rfl (fun ls hl => ?_)
    refine lv_iload_n hx hb dX2_driftOf_31 rfl (lv_at hl 1 rfl) ?_
    refine lv_if_le (tgt := 46) hx hb dX2_driftOf_32 (by decide) (fun c32 => ?_) (fun c32 => ?_)
    · replace hm := it_t c32 hm
      refine lv_iload_n hx hb dX2_driftOf_46 rfl (lv_at hl 0 rfl) ?_
      refine lv_istore (lv' := [(4, .int r27), (3, .int r27), (2, .int r2), (0, .ref w_o), (1, .int x1)]) hx hb dX2_driftOf_47 hl (by decide) rfl (fun ls hl => ?_)
      refine lv_aload_n hx hb dX2_driftOf_49 rfl (lv_at hl 3 rfl) ?_
      refine va_get (D := (dC, dI)) (ci := 2) (v := .ref w_kind) (C := RX2) (T := TX2) (N := 14) hx hb hts hinX2_driftOf_X2 hown hK hP 0 rfl rfl 1 (by decide) (hts _ (List.mem_of_getElem? (i := 3) rfl)) (fun _ h9 => h9) rfl dX2_driftOf_50 ?_
      refine lv_iload_n hx hb dX2_driftOf_53 rfl (lv_at hl 4 rfl) ?_
      obtain ⟨hg54, hm⟩ := gd_e hm
      refine k_iald (D := (dC, dI)) hx hb hK hP 1 1 rfl rfl (k := x1.toNatClampNeg) rfl hg54 dX2_driftOf_54 ?_
      by_cases cs55_0 : (wkind (x1.toNatClampNeg)) = 1
      · replace hm := it_t cs55_0 hm
        refine lv_tableIn (off := 37) (tgt := 92) hx hb dX2_driftOf_55 (by rw [cs55_0]; decide) (by rw [cs55_0]; decide) (by rw [cs55_0]; rfl) (by decide) ?_
        refine lv_iload hx hb dX2_driftOf_92 (lv_at hl 0 rfl) ?_
        cases hm
        exact k_iret hx hb hr hlocks hP hS dX2_driftOf_94
      replace hm := it_f cs55_0 hm
      by_cases cs55_1 : (wkind (x1.toNatClampNeg)) = 2
      · replace hm := it_t cs55_1 hm
        refine lv_tableIn (off := 40) (tgt := 95) hx hb dX2_driftOf_55 (by rw [cs55_1]; decide) (by rw [cs55_1]; decide) (by rw [cs55_1]; rfl) (by decide) ?_
        refine lv_iload_n hx hb dX2_driftOf_95 rfl (lv_at hl 1 rfl) ?_
        refine lv_iconst (v := 2) hx hb dX2_driftOf_96 (by decide) ?_
        refine lv_idiv hx hb dX2_driftOf_97 (by decide) ?_
        cases hm
        exact k_iret hx hb hr hlocks hP hS dX2_driftOf_98
      replace hm := it_f cs55_1 hm
      by_cases cs55_2 : (wkind (x1.toNatClampNeg)) = 3
      · replace hm := it_t cs55_2 hm
        refine lv_tableIn (off := 44) (tgt := 99) hx hb dX2_driftOf_55 (by rw [cs55_2]; decide) (by rw [cs55_2]; decide) (by rw [cs55_2]; rfl) (by decide) ?_
        refine lv_aload_n hx hb dX2_driftOf_99 rfl (lv_at hl 3 rfl) ?_
        refine lv_iload_n hx hb dX2_driftOf_100 rfl (lv_at hl 1 rfl) ?_
        obtain ⟨r101, hc101, hm⟩ := bd1_e hm
        refine k_callGVi (dC := dC) (dI := dI) (kc := kc) (As := [.int r27]) (rest := []) (Gs' := [wdX2 kc w_o w_kind w_v w_place w_rows w_length w_first w_second w_drifts w_traits wpeople wkind wv wplace wrows wleaves wlength wfirst wsecond wdrops wstep wlibrary wdrifts wtraits_24, wdX3 kc b_o b_sorts b_letters b_numbers bsorts bletters bnumbers bsize bbear]) hx hb hml hown hts hK hP hD hS hA (ctX2_walkerDrift (w_o := w_o) (w_kind := w_kind) (w_v := w_v) (w_place := w_place) (w_rows := w_rows) (w_length := w_length) (w_first := w_first) (w_second := w_second) (w_drifts := w_drifts) (w_traits := w_traits) (wpeople := wpeople) (wkind := wkind) (wv := wv) (wplace := wplace) (wrows := wrows) (wleaves := wleaves) (wlength := wlength) (wfirst := wfirst) (wsecond := wsecond) (wdrops := wdrops) (wstep := wstep) (wlibrary := wlibrary) (wdrifts := wdrifts) (wtraits := wtraits_24) (x1 := r27) hc101) (cwV 1 hts gX2_driftOf_X2_walkerDrift rfl rfl rfl (by decide +kernel) ⟨Nat.le_of_ble_eq_true rfl, Nat.le_of_ble_eq_true rfl⟩) [0] rfl (by decide) 2 rfl rfl rfl rfl hl rfl (Nat.le_of_ble_eq_true rfl) dX2_driftOf_101 ⟨Nat.zero_le _, Nat.zero_le _⟩ rfl rfl rfl (fun H locs hP hD hS => ?_)
        cases hm
        exact k_iret hx hb hr hlocks hP hS dX2_driftOf_104
      replace hm := it_f cs55_2 hm
      by_cases cs55_3 : (wkind (x1.toNatClampNeg)) = 4
      · replace hm := it_t cs55_3 hm
        refine lv_tableIn (off := 50) (tgt := 105) hx hb dX2_driftOf_55 (by rw [cs55_3]; decide) (by rw [cs55_3]; decide) (by rw [cs55_3]; rfl) (by decide) ?_
        refine lv_aload_n hx hb dX2_driftOf_105 rfl (lv_at hl 3 rfl) ?_
        refine va_get (D := (dC, dI)) (ci := 2) (v := .int wstep) (C := RX2) (T := TX2) (N := 14) hx hb hts hinX2_driftOf_X2 hown hK hP 0 rfl rfl 10 (by decide) (hts _ (List.mem_of_getElem? (i := 4) rfl)) (fun _ h9 => h9) rfl dX2_driftOf_106 ?_
        refine lv_iconst (v := 2) hx hb dX2_driftOf_109 (by decide) ?_
        refine lv_irem hx hb dX2_driftOf_110 (by decide) ?_
        refine lv_if_ne (tgt := 118) hx hb dX2_driftOf_111 (by decide) (fun c111 => ?_) (fun c111 => ?_)
        · replace hm := it_f c111 hm
          refine lv_iload hx hb dX2_driftOf_118 (lv_at hl 0 rfl) ?_
          cases hm
          exact k_iret hx hb hr hlocks hP hS dX2_driftOf_120
        · replace hm := it_t c111 hm
          refine lv_iconst (v := 0) hx hb dX2_driftOf_114 (by decide) ?_
          refine lv_goto (tgt := 120) hx hb dX2_driftOf_115 (by decide) ?_
          cases hm
          exact k_iret hx hb hr hlocks hP hS dX2_driftOf_120
      replace hm := it_f cs55_3 hm
      by_cases cs55_4 : (wkind (x1.toNatClampNeg)) = 5
      · replace hm := it_t cs55_4 hm
        refine lv_tableIn (off := 66) (tgt := 121) hx hb dX2_driftOf_55 (by rw [cs55_4]; decide) (by rw [cs55_4]; decide) (by rw [cs55_4]; rfl) (by decide) ?_
        refine lv_iload_n hx hb dX2_driftOf_121 rfl (lv_at hl 1 rfl) ?_
        refine lv_iconst (v := 2) hx hb dX2_driftOf_122 (by decide) ?_
        refine lv_idiv hx hb dX2_driftOf_123 (by decide) ?_
        refine lv_iload_n hx hb dX2_driftOf_124 rfl (lv_at hl 2 rfl) ?_
        refine lv_iadd hx hb dX2_driftOf_125 ?_
        cases hm
        exact k_iret hx hb hr hlocks hP hS dX2_driftOf_126
      replace hm := it_f cs55_4 hm
      by_cases cs55_5 : (wkind (x1.toNatClampNeg)) = 6
      · replace hm := it_t cs55_5 hm
        refine lv_tableIn (off := 72) (tgt := 127) hx hb dX2_driftOf_55 (by rw [cs55_5]; decide) (by rw [cs55_5]; decide) (by rw [cs55_5]; rfl) (by decide) ?_
        refine lv_aload_n hx hb dX2_driftOf_127 rfl (lv_at hl 3 rfl) ?_
        refine lv_iload_n hx hb dX2_driftOf_128 rfl (lv_at hl 1 rfl) ?_
        obtain ⟨r129, hc129, hm⟩ := bd1_e hm
        refine k_callGVi (dC := dC) (dI := dI) (kc := kc) (As := [.int r27]) (rest := []) (Gs' := [wdX2 kc w_o w_kind w_v w_place w_rows w_length w_first w_second w_drifts w_traits wpeople wkind wv wplace wrows wleaves wlength wfirst wsecond wdrops wstep wlibrary wdrifts wtraits_24, wdX3 kc b_o b_sorts b_letters b_numbers bsorts bletters bnumbers bsize bbear]) hx hb hml hown hts hK hP hD hS hA (ctX2_walkerDrift (w_o := w_o) (w_kind := w_kind) (w_v := w_v) (w_place := w_place) (w_rows := w_rows) (w_length := w_length) (w_first := w_first) (w_second := w_second) (w_drifts := w_drifts) (w_traits := w_traits) (wpeople := wpeople) (wkind := wkind) (wv := wv) (wplace := wplace) (wrows := wrows) (wleaves := wleaves) (wlength := wlength) (wfirst := wfirst) (wsecond := wsecond) (wdrops := wdrops) (wstep := wstep) (wlibrary := wlibrary) (wdrifts := wdrifts) (wtraits := wtraits_24) (x1 := r27) hc129) (cwV 1 hts gX2_driftOf_X2_walkerDrift rfl rfl rfl (by decide +kernel) ⟨Nat.le_of_ble_eq_true rfl, Nat.le_of_ble_eq_true rfl⟩) [0] rfl (by decide) 2 rfl rfl rfl rfl hl rfl (Nat.le_of_ble_eq_true rfl) dX2_driftOf_129 ⟨Nat.zero_le _, Nat.zero_le _⟩ rfl rfl rfl (fun H locs hP hD hS => ?_)
        refine lv_aload_n hx hb dX2_driftOf_132 rfl (lv_at hl 3 rfl) ?_
        refine va_get (D := (dC, dI)) (ci := 2) (v := .ref w_rows) (C := RX2) (T := TX2) (N := 14) hx hb hts hinX2_driftOf_X2 hown hK hP 0 rfl rfl 4 (by decide) (hts _ (List.mem_of_getElem? (i := 5) rfl)) (fun _ h9 => h9) rfl dX2_driftOf_133 ?_
        refine lv_iload_n hx hb dX2_driftOf_136 rfl (lv_at hl 4 rfl) ?_
        refine lv_iconst (v := 4) hx hb dX2_driftOf_137 (by decide) ?_
        refine lv_imul hx hb dX2_driftOf_138 ?_
        refine lv_aload_n hx hb dX2_driftOf_139 rfl (lv_at hl 3 rfl) ?_
        refine va_get (D := (dC, dI)) (ci := 2) (v := .int wstep) (C := RX2) (T := TX2) (N := 14) hx hb hts hinX2_driftOf_X2 hown hK hP 0 rfl rfl 10 (by decide) (hts _ (List.mem_of_getElem? (i := 4) rfl)) (fun _ h9 => h9) rfl dX2_driftOf_140 ?_
        refine lv_iconst (v := 4) hx hb dX2_driftOf_143 (by decide) ?_
        refine lv_irem hx hb dX2_driftOf_144 (by decide) ?_
        refine lv_iadd hx hb dX2_driftOf_145 ?_
        obtain ⟨hg146, hm⟩ := gd_e hm
        refine k_iald (D := (dC, dI)) hx hb hK hP 4 1 rfl rfl (k := ((x1 * 4) + (wstep - wstep / 4 * 4)).toNatClampNeg) rfl hg146 dX2_driftOf_146 ?_
        refine lv_iadd hx hb dX2_driftOf_147 ?_
        refine lv_iconst (v := 4) hx hb dX2_driftOf_148 (by decide) ?_
        refine lv_isub hx hb dX2_driftOf_149 ?_
        cases hm
        exact k_iret hx hb hr hlocks hP hS dX2_driftOf_150
      replace hm := it_f cs55_5 hm
      have nt55_0 := lv_neT (k := 1) (a := 1) cs55_0 (by decide)
      have nt55_1 := lv_neT (k := 2) (a := 2) cs55_1 (by decide)
      have nt55_2 := lv_neT (k := 3) (a := 3) cs55_2 (by decide)
      have nt55_3 := lv_neT (k := 4) (a := 4) cs55_3 (by decide)
      have nt55_4 := lv_neT (k := 5) (a := 5) cs55_4 (by decide)
      have nt55_5 := lv_neT (k := 6) (a := 6) cs55_5 (by decide)
      refine lv_tableOut (tgt := 151) hx hb dX2_driftOf_55 (by omega) (by decide) ?_
      refine lv_iload_n hx hb dX2_driftOf_151 rfl (lv_at hl 1 rfl) ?_
      cases hm
      exact k_iret hx hb hr hlocks hP hS dX2_driftOf_152
    · replace hm := it_f c32 hm
      refine lv_iload_n hx hb dX2_driftOf_35 rfl (lv_at hl 0 rfl) ?_
      refine lv_aload_n hx hb dX2_driftOf_36 rfl (lv_at hl 2 rfl) ?_
      refine va_get (D := (dC, dI)) (ci := 2) (v := .ref w_v) (C := RX2) (T := TX2) (N := 14) hx hb hts hinX2_driftOf_X2 hown hK hP 0 rfl rfl 2 (by decide) (hts _ (List.mem_of_getElem? (i := 2) rfl)) (fun _ h9 => h9) rfl dX2_driftOf_37 ?_
      refine lv_iload_n hx hb dX2_driftOf_40 rfl (lv_at hl 3 rfl) ?_
      obtain ⟨hg41, hm⟩ := gd_e hm
      refine k_iald (D := (dC, dI)) hx hb hK hP 2 1 rfl rfl (k := x1.toNatClampNeg) rfl hg41 dX2_driftOf_41 ?_
      refine lv_iadd hx hb dX2_driftOf_42 ?_
      refine lv_goto (tgt := 47) hx hb dX2_driftOf_43 (by decide) ?_
      refine lv_istore (lv' := [(4, .int (r27 + (wv (x1.toNatClampNeg)))), (3, .int r27), (2, .int r2), (0, .ref w_o), (1, .int x1)]) hx hb dX2_driftOf_47 hl (by decide) rfl (fun ls hl => ?_)
      refine lv_aload_n hx hb dX2_driftOf_49 rfl (lv_at hl 3 rfl) ?_
      refine va_get (D := (dC, dI)) (ci := 2) (v := .ref w_kind) (C := RX2) (T := TX2) (N := 14) hx hb hts hinX2_driftOf_X2 hown hK hP 0 rfl rfl 1 (by decide) (hts _ (List.mem_of_getElem? (i := 3) rfl)) (fun _ h9 => h9) rfl dX2_driftOf_50 ?_
      refine lv_iload_n hx hb dX2_driftOf_53 rfl (lv_at hl 4 rfl) ?_
      obtain ⟨hg54, hm⟩ := gd_e hm
      refine k_iald (D := (dC, dI)) hx hb hK hP 1 1 rfl rfl (k := x1.toNatClampNeg) rfl hg54 dX2_driftOf_54 ?_
      by_cases cs55_0 : (wkind (x1.toNatClampNeg)) = 1
      · replace hm := it_t cs55_0 hm
        refine lv_tableIn (off := 37) (tgt := 92) hx hb dX2_driftOf_55 (by rw [cs55_0]; decide) (by rw [cs55_0]; decide) (by rw [cs55_0]; rfl) (by decide) ?_
        refine lv_iload hx hb dX2_driftOf_92 (lv_at hl 0 rfl) ?_
        cases hm
        exact k_iret hx hb hr hlocks hP hS dX2_driftOf_94
      replace hm := it_f cs55_0 hm
      by_cases cs55_1 : (wkind (x1.toNatClampNeg)) = 2
      · replace hm := it_t cs55_1 hm
        refine lv_tableIn (off := 40) (tgt := 95) hx hb dX2_driftOf_55 (by rw [cs55_1]; decide) (by rw [cs55_1]; decide) (by rw [cs55_1]; rfl) (by decide) ?_
        refine lv_iload_n hx hb dX2_driftOf_95 rfl (lv_at hl 1 rfl) ?_
        refine lv_iconst (v := 2) hx hb dX2_driftOf_96 (by decide) ?_
        refine lv_idiv hx hb dX2_driftOf_97 (by decide) ?_
        cases hm
        exact k_iret hx hb hr hlocks hP hS dX2_driftOf_98
      replace hm := it_f cs55_1 hm
      by_cases cs55_2 : (wkind (x1.toNatClampNeg)) = 3
      · replace hm := it_t cs55_2 hm
        refine lv_tableIn (off := 44) (tgt := 99) hx hb dX2_driftOf_55 (by rw [cs55_2]; decide) (by rw [cs55_2]; decide) (by rw [cs55_2]; rfl) (by decide) ?_
        refine lv_aload_n hx hb dX2_driftOf_99 rfl (lv_at hl 3 rfl) ?_
        refine lv_iload_n hx hb dX2_driftOf_100 rfl (lv_at hl 1 rfl) ?_
        obtain ⟨r101, hc101, hm⟩ := bd1_e hm
        refine k_callGVi (dC := dC) (dI := dI) (kc := kc) (As := [.int r27]) (rest := []) (Gs' := [wdX2 kc w_o w_kind w_v w_place w_rows w_length w_first w_second w_drifts w_traits wpeople wkind wv wplace wrows wleaves wlength wfirst wsecond wdrops wstep wlibrary wdrifts wtraits_24, wdX3 kc b_o b_sorts b_letters b_numbers bsorts bletters bnumbers bsize bbear]) hx hb hml hown hts hK hP hD hS hA (ctX2_walkerDrift (w_o := w_o) (w_kind := w_kind) (w_v := w_v) (w_place := w_place) (w_rows := w_rows) (w_length := w_length) (w_first := w_first) (w_second := w_second) (w_drifts := w_drifts) (w_traits := w_traits) (wpeople := wpeople) (wkind := wkind) (wv := wv) (wplace := wplace) (wrows := wrows) (wleaves := wleaves) (wlength := wlength) (wfirst := wfirst) (wsecond := wsecond) (wdrops := wdrops) (wstep := wstep) (wlibrary := wlibrary) (wdrifts := wdrifts) (wtraits := wtraits_24) (x1 := r27) hc101) (cwV 1 hts gX2_driftOf_X2_walkerDrift rfl rfl rfl (by decide +kernel) ⟨Nat.le_of_ble_eq_true rfl, Nat.le_of_ble_eq_true rfl⟩) [0] rfl (by decide) 2 rfl rfl rfl rfl hl rfl (Nat.le_of_ble_eq_true rfl) dX2_driftOf_101 ⟨Nat.zero_le _, Nat.zero_le _⟩ rfl rfl rfl (fun H locs hP hD hS => ?_)
        cases hm
        exact k_iret hx hb hr hlocks hP hS dX2_driftOf_104
      replace hm := it_f cs55_2 hm
      by_cases cs55_3 : (wkind (x1.toNatClampNeg)) = 4
      · replace hm := it_t cs55_3 hm
        refine lv_tableIn (off := 50) (tgt := 105) hx hb dX2_driftOf_55 (by rw [cs55_3]; decide) (by rw [cs55_3]; decide) (by rw [cs55_3]; rfl) (by decide) ?_
        refine lv_aload_n hx hb dX2_driftOf_105 rfl (lv_at hl 3 rfl) ?_
        refine va_get (D := (dC, dI)) (ci := 2) (v := .int wstep) (C := RX2) (T := TX2) (N := 14) hx hb hts hinX2_driftOf_X2 hown hK hP 0 rfl rfl 10 (by decide) (hts _ (List.mem_of_getElem? (i := 4) rfl)) (fun _ h9 => h9) rfl dX2_driftOf_106 ?_
        refine lv_iconst (v := 2) hx hb dX2_driftOf_109 (by decide) ?_
        refine lv_irem hx hb dX2_driftOf_110 (by decide) ?_
        refine lv_if_ne (tgt := 118) hx hb dX2_driftOf_111 (by decide) (fun c111 => ?_) (fun c111 => ?_)
        · replace hm := it_f c111 hm
          refine lv_iload hx hb dX2_driftOf_118 (lv_at hl 0 rfl) ?_
          cases hm
          exact k_iret hx hb hr hlocks hP hS dX2_driftOf_120
        · replace hm := it_t c111 hm
          refine lv_iconst (v := 0) hx hb dX2_driftOf_114 (by decide) ?_
          refine lv_goto (tgt := 120) hx hb dX2_driftOf_115 (by decide) ?_
          cases hm
          exact k_iret hx hb hr hlocks hP hS dX2_driftOf_120
      replace hm := it_f cs55_3 hm
      by_cases cs55_4 : (wkind (x1.toNatClampNeg)) = 5
      · replace hm := it_t cs55_4 hm
        refine lv_tableIn (off := 66) (tgt := 121) hx hb dX2_driftOf_55 (by rw [cs55_4]; decide) (by rw [cs55_4]; decide) (by rw [cs55_4]; rfl) (by decide) ?_
        refine lv_iload_n hx hb dX2_driftOf_121 rfl (lv_at hl 1 rfl) ?_
        refine lv_iconst (v := 2) hx hb dX2_driftOf_122 (by decide) ?_
        refine lv_idiv hx hb dX2_driftOf_123 (by decide) ?_
        refine lv_iload_n hx hb dX2_driftOf_124 rfl (lv_at hl 2 rfl) ?_
        refine lv_iadd hx hb dX2_driftOf_125 ?_
        cases hm
        exact k_iret hx hb hr hlocks hP hS dX2_driftOf_126
      replace hm := it_f cs55_4 hm
      by_cases cs55_5 : (wkind (x1.toNatClampNeg)) = 6
      · replace hm := it_t cs55_5 hm
        refine lv_tableIn (off := 72) (tgt := 127) hx hb dX2_driftOf_55 (by rw [cs55_5]; decide) (by rw [cs55_5]; decide) (by rw [cs55_5]; rfl) (by decide) ?_
        refine lv_aload_n hx hb dX2_driftOf_127 rfl (lv_at hl 3 rfl) ?_
        refine lv_iload_n hx hb dX2_driftOf_128 rfl (lv_at hl 1 rfl) ?_
        obtain ⟨r129, hc129, hm⟩ := bd1_e hm
        refine k_callGVi (dC := dC) (dI := dI) (kc := kc) (As := [.int r27]) (rest := []) (Gs' := [wdX2 kc w_o w_kind w_v w_place w_rows w_length w_first w_second w_drifts w_traits wpeople wkind wv wplace wrows wleaves wlength wfirst wsecond wdrops wstep wlibrary wdrifts wtraits_24, wdX3 kc b_o b_sorts b_letters b_numbers bsorts bletters bnumbers bsize bbear]) hx hb hml hown hts hK hP hD hS hA (ctX2_walkerDrift (w_o := w_o) (w_kind := w_kind) (w_v := w_v) (w_place := w_place) (w_rows := w_rows) (w_length := w_length) (w_first := w_first) (w_second := w_second) (w_drifts := w_drifts) (w_traits := w_traits) (wpeople := wpeople) (wkind := wkind) (wv := wv) (wplace := wplace) (wrows := wrows) (wleaves := wleaves) (wlength := wlength) (wfirst := wfirst) (wsecond := wsecond) (wdrops := wdrops) (wstep := wstep) (wlibrary := wlibrary) (wdrifts := wdrifts) (wtraits := wtraits_24) (x1 := r27) hc129) (cwV 1 hts gX2_driftOf_X2_walkerDrift rfl rfl rfl (by decide +kernel) ⟨Nat.le_of_ble_eq_true rfl, Nat.le_of_ble_eq_true rfl⟩) [0] rfl (by decide) 2 rfl rfl rfl rfl hl rfl (Nat.le_of_ble_eq_true rfl) dX2_driftOf_129 ⟨Nat.zero_le _, Nat.zero_le _⟩ rfl rfl rfl (fun H locs hP hD hS => ?_)
        refine lv_aload_n hx hb dX2_driftOf_132 rfl (lv_at hl 3 rfl) ?_
        refine va_get (D := (dC, dI)) (ci := 2) (v := .ref w_rows) (C := RX2) (T := TX2) (N := 14) hx hb hts hinX2_driftOf_X2 hown hK hP 0 rfl rfl 4 (by decide) (hts _ (List.mem_of_getElem? (i := 5) rfl)) (fun _ h9 => h9) rfl dX2_driftOf_133 ?_
        refine lv_iload_n hx hb dX2_driftOf_136 rfl (lv_at hl 4 rfl) ?_
        refine lv_iconst (v := 4) hx hb dX2_driftOf_137 (by decide) ?_
        refine lv_imul hx hb dX2_driftOf_138 ?_
        refine lv_aload_n hx hb dX2_driftOf_139 rfl (lv_at hl 3 rfl) ?_
        refine va_get (D := (dC, dI)) (ci := 2) (v := .int wstep) (C := RX2) (T := TX2) (N := 14) hx hb hts hinX2_driftOf_X2 hown hK hP 0 rfl rfl 10 (by decide) (hts _ (List.mem_of_getElem? (i := 4) rfl)) (fun _ h9 => h9) rfl dX2_driftOf_140 ?_
        refine lv_iconst (v := 4) hx hb dX2_driftOf_143 (by decide) ?_
        refine lv_irem hx hb dX2_driftOf_144 (by decide) ?_
        refine lv_iadd hx hb dX2_driftOf_145 ?_
        obtain ⟨hg146, hm⟩ := gd_e hm
        refine k_iald (D := (dC, dI)) hx hb hK hP 4 1 rfl rfl (k := ((x1 * 4) + (wstep - wstep / 4 * 4)).toNatClampNeg) rfl hg146 dX2_driftOf_146 ?_
        refine lv_iadd hx hb dX2_driftOf_147 ?_
        refine lv_iconst (v := 4) hx hb dX2_driftOf_148 (by decide) ?_
        refine lv_isub hx hb dX2_driftOf_149 ?_
        cases hm
        exact k_iret hx hb hr hlocks hP hS dX2_driftOf_150
      replace hm := it_f cs55_5 hm
      have nt55_0 := lv_neT (k := 1) (a := 1) cs55_0 (by decide)
      have nt55_1 := lv_neT (k := 2) (a := 2) cs55_1 (by decide)
      have nt55_2 := lv_neT (k := 3) (a := 3) cs55_2 (by decide)
      have nt55_3 := lv_neT (k := 4) (a := 4) cs55_3 (by decide)
      have nt55_4 := lv_neT (k := 5) (a := 5) cs55_4 (by decide)
      have nt55_5 := lv_neT (k := 6) (a := 6) cs55_5 (by decide)
      refine lv_tableOut (tgt := 151) hx hb dX2_driftOf_55 (by omega) (by decide) ?_
      refine lv_iload_n hx hb dX2_driftOf_151 rfl (lv_at hl 1 rfl) ?_
      cases hm
      exact k_iret hx hb hr hlocks hP hS dX2_driftOf_152
def fX2_strain (wplace : Nat → Int32) (wlength : Nat → Int32) (wfirst : Nat → Int32) (wsecond : Nat → Int32) (wdrops : Int32) (wlibrary : Option Nat) (bbear : Int32) (x1 : Int32) : Option ((Nat → Int32) × (Nat → Int32) × (Nat → Int32) × Int32) := bd1 (fX2_gapOf wplace wlength wfirst wsecond x1) (fun r2 => bd1 (fX2_bear wlibrary bbear) (fun r6 => if r2 ≤ r6 then (gd (inb x1 4) (gd (inb (wfirst (x1.toNatClampNeg)) 6) (gd (inb x1 4) (gd (inb (wsecond (x1.toNatClampNeg)) 6) (if (wplace ((wsecond (x1.toNatClampNeg)).toNatClampNeg)) ≤ (wplace ((wfirst (x1.toNatClampNeg)).toNatClampNeg)) then (gd (inb x1 4) (gd (inb (wfirst (x1.toNatClampNeg)) 6) (gd (inb (wfirst (x1.toNatClampNeg)) 6) (gd (inb x1 4) (gd (inb (wsecond (x1.toNatClampNeg)) 6) (gd (inb (wsecond (x1.toNatClampNeg)) 6) (some (upd (upd wplace ((wfirst (x1.toNatClampNeg)).toNatClampNeg) ((wplace ((wfirst (x1.toNatClampNeg)).toNatClampNeg)) + (-1))) ((wsecond (x1.toNatClampNeg)).toNatClampNeg) (((upd wplace ((wfirst (x1.toNatClampNeg)).toNatClampNeg) ((wplace ((wfirst (x1.toNatClampNeg)).toNatClampNeg)) + (-1))) ((wsecond (x1.toNatClampNeg)).toNatClampNeg)) - (-1)), wfirst, wsecond, wdrops)))))))) else (gd (inb x1 4) (gd (inb (wfirst (x1.toNatClampNeg)) 6) (gd (inb (wfirst (x1.toNatClampNeg)) 6) (gd (inb x1 4) (gd (inb (wsecond (x1.toNatClampNeg)) 6) (gd (inb (wsecond (x1.toNatClampNeg)) 6) (some (upd (upd wplace ((wfirst (x1.toNatClampNeg)).toNatClampNeg) ((wplace ((wfirst (x1.toNatClampNeg)).toNatClampNeg)) + 1)) ((wsecond (x1.toNatClampNeg)).toNatClampNeg) (((upd wplace ((wfirst (x1.toNatClampNeg)).toNatClampNeg) ((wplace ((wfirst (x1.toNatClampNeg)).toNatClampNeg)) + 1)) ((wsecond (x1.toNatClampNeg)).toNatClampNeg)) - 1), wfirst, wsecond, wdrops))))))))))))) else (bd2 (fX2_letGo wfirst wsecond x1) (fun wfirst_14 wsecond_14 => some (wplace, wfirst_14, wsecond_14, wdrops + 1)))))
theorem hinX2_strain_X2 : ∀ w ∈ u_ws RX2 TX2 14, w ∈ wsX2_strain := fun _ h => List.mem_cons_of_mem _ (List.mem_append_left _ (List.mem_append_right _ h))
abbrev rmX2_strain : Room := { frames := 2, cells := 0, slots := 0, locals := 56 }
set_option maxHeartbeats 4000000 in
set_option maxRecDepth 100000 in
theorem ctX2_strain {l : Launch} {dC : Nat → ClassId} {dI : Nat → Nat → Nat} {kc : Nat → ClassId} {w_o w_kind w_v w_place w_rows w_length w_first w_second w_drifts w_traits b_o b_sorts b_letters b_numbers : Nat} {wpeople : Int32} {wkind : Nat → Int32} {wv : Nat → Int32} {wplace : Nat → Int32} {wrows : Nat → Int32} {wleaves : Int32} {wlength : Nat → Int32} {wfirst : Nat → Int32} {wsecond : Nat → Int32} {wdrops : Int32} {wstep : Int32} {wlibrary : Option Nat} {wdrifts : Nat → Int32} {wtraits : Nat → Int32} {bsorts : Nat → Int32} {bletters : Nat → Int32} {bnumbers : Nat → Int32} {bsize : Int32} {bbear : Int32} {x1 : Int32} {wplace' : Nat → Int32} {wfirst' : Nat → Int32} {wsecond' : Nat → Int32} {wdrops' : Int32} (hm : fX2_strain wplace wlength wfirst wsecond wdrops wlibrary bbear x1 = some (wplace', wfirst', wsecond', wdrops')) (hlowlibrary : ∀ q : Nat, wlibrary = some q → q = b_o) : ∀ sz : Nat, Met l yX2_strain wsX2_strain rmX2_strain (kPc dC dI kc [.ref w_o, .int x1] (fl [wdX2 kc w_o w_kind w_v w_place w_rows w_length w_first w_second w_drifts w_traits wpeople wkind wv wplace wrows wleaves wlength wfirst wsecond wdrops wstep wlibrary wdrifts wtraits, wdX3 kc b_o b_sorts b_letters b_numbers bsorts bletters bnumbers bsize bbear]) sz) (kQv dC dI (fl [wdX2 kc w_o w_kind w_v w_place w_rows w_length w_first w_second w_drifts w_traits wpeople wkind wv wplace' wrows wleaves wlength wfirst' wsecond' wdrops' wstep wlibrary wdrifts wtraits, wdX3 kc b_o b_sorts b_letters b_numbers bsorts bletters bnumbers bsize bbear]) (va_A (fl [wdX2 kc w_o w_kind w_v w_place w_rows w_length w_first w_second w_drifts w_traits wpeople wkind wv wplace wrows wleaves wlength wfirst wsecond wdrops wstep wlibrary wdrifts wtraits, wdX3 kc b_o b_sorts b_letters b_numbers bsorts bletters bnumbers bsize bbear]) sz)) 0 0 (va_A (fl [wdX2 kc w_o w_kind w_v w_place w_rows w_length w_first w_second w_drifts w_traits wpeople wkind wv wplace wrows wleaves wlength wfirst wsecond wdrops wstep wlibrary wdrifts wtraits, wdX3 kc b_o b_sorts b_letters b_numbers bsorts bletters bnumbers bsize bbear]) sz) := by
  intro sz
  refine kMet (cc := cX2_strain) (maxL := 3) (ret := none) (Qf := fun A => kQv dC dI (fl [wdX2 kc w_o w_kind w_v w_place w_rows w_length w_first w_second w_drifts w_traits wpeople wkind wv wplace' wrows wleaves wlength wfirst' wsecond' wdrops' wstep wlibrary wdrifts wtraits, wdX3 kc b_o b_sorts b_letters b_numbers bsorts bletters bnumbers bsize bbear]) A) (by decide) rfl (Nat.le_of_ble_eq_true rfl) ?_
  intro p e s m below meth c A ls hx hb hr hml hts hown hlocks hname hsz hA hP hK hD hl
  have hS : va_S A s.heap s.heap [] := va_S.rf
  have hl : lv_has ls 3 [(0, .ref w_o), (1, .int x1)] := hl
  unfold fX2_strain at hm
  refine lv_aload_n hx hb dX2_strain_0 rfl (lv_at hl 0 rfl) ?_
  refine lv_iload_n hx hb dX2_strain_1 rfl (lv_at hl 1 rfl) ?_
  obtain ⟨r2, hc2, hm⟩ := bd1_e hm
  refine k_callGVi (dC := dC) (dI := dI) (kc := kc) (As := [.int x1]) (rest := []) (Gs' := [wdX2 kc w_o w_kind w_v w_place w_rows w_length w_first w_second w_drifts w_traits wpeople wkind wv wplace wrows wleaves wlength wfirst wsecond wdrops wstep wlibrary wdrifts wtraits, wdX3 kc b_o b_sorts b_letters b_numbers bsorts bletters bnumbers bsize bbear]) hx hb hml hown hts hK hP hD hS hA (ctX2_gapOf (w_o := w_o) (w_kind := w_kind) (w_v := w_v) (w_place := w_place) (w_rows := w_rows) (w_length := w_length) (w_first := w_first) (w_second := w_second) (w_drifts := w_drifts) (w_traits := w_traits) (wpeople := wpeople) (wkind := wkind) (wv := wv) (wplace := wplace) (wrows := wrows) (wleaves := wleaves) (wlength := wlength) (wfirst := wfirst) (wsecond := wsecond) (wdrops := wdrops) (wstep := wstep) (wlibrary := wlibrary) (wdrifts := wdrifts) (wtraits := wtraits) (x1 := x1) hc2) (cwV 1 hts gX2_strain_X2_gapOf rfl rfl rfl (by decide +kernel) ⟨Nat.le_of_ble_eq_true rfl, Nat.le_of_ble_eq_true rfl⟩) [0] rfl (by decide) 2 rfl rfl rfl rfl hl rfl (Nat.le_of_ble_eq_true rfl) dX2_strain_2 ⟨Nat.zero_le _, Nat.zero_le _⟩ rfl rfl rfl (fun H locs hP hD hS => ?_)
  refine lv_aload_n hx hb dX2_strain_5 rfl (lv_at hl 0 rfl) ?_
  obtain ⟨r6, hc6, hm⟩ := bd1_e hm
  refine k_callGVi (dC := dC) (dI := dI) (kc := kc) (As := []) (rest := [.int r2]) (Gs' := [wdX2 kc w_o w_kind w_v w_place w_rows w_length w_first w_second w_drifts w_traits wpeople wkind wv wplace wrows wleaves wlength wfirst wsecond wdrops wstep wlibrary wdrifts wtraits, wdX3 kc b_o b_sorts b_letters b_numbers bsorts bletters bnumbers bsize bbear]) hx hb hml hown hts hK hP hD hS hA (ctX2_bear (w_o := w_o) (w_kind := w_kind) (w_v := w_v) (w_place := w_place) (w_rows := w_rows) (w_length := w_length) (w_first := w_first) (w_second := w_second) (w_drifts := w_drifts) (w_traits := w_traits) (b_o := b_o) (b_sorts := b_sorts) (b_letters := b_letters) (b_numbers := b_numbers) (wpeople := wpeople) (wkind := wkind) (wv := wv) (wplace := wplace) (wrows := wrows) (wleaves := wleaves) (wlength := wlength) (wfirst := wfirst) (wsecond := wsecond) (wdrops := wdrops) (wstep := wstep) (wlibrary := wlibrary) (wdrifts := wdrifts) (wtraits := wtraits) (bsorts := bsorts) (bletters := bletters) (bnumbers := bnumbers) (bsize := bsize) (bbear := bbear) hc6 hlowlibrary) (cwV 0 hts gX2_strain_X2_bear rfl rfl rfl (by decide +kernel) ⟨Nat.le_of_ble_eq_true rfl, Nat.le_of_ble_eq_true rfl⟩) [0, 1] rfl (by decide) 2 rfl rfl rfl rfl hl rfl (Nat.le_of_ble_eq_true rfl) dX2_strain_6 ⟨Nat.zero_le _, Nat.zero_le _⟩ rfl rfl rfl (fun H locs hP hD hS => ?_)
  refine lv_icmp_le (tgt := 28) hx hb dX2_strain_9 (by decide) (fun c9 => ?_) (fun c9 => ?_)
  · replace hm := it_t c9 hm
    refine lv_aload_n hx hb dX2_strain_28 rfl (lv_at hl 0 rfl) ?_
    refine va_get (D := (dC, dI)) (ci := 2) (v := .ref w_place) (C := RX2) (T := TX2) (N := 14) hx hb hts hinX2_strain_X2 hown hK hP 0 rfl rfl 3 (by decide) (hts _ (List.mem_of_getElem? (i := 2) rfl)) (fun _ h9 => h9) rfl dX2_strain_29 ?_
    refine lv_aload_n hx hb dX2_strain_32 rfl (lv_at hl 0 rfl) ?_
    refine va_get (D := (dC, dI)) (ci := 2) (v := .ref w_first) (C := RX2) (T := TX2) (N := 14) hx hb hts hinX2_strain_X2 hown hK hP 0 rfl rfl 7 (by decide) (hts _ (List.mem_of_getElem? (i := 3) rfl)) (fun _ h9 => h9) rfl dX2_strain_33 ?_
    refine lv_iload_n hx hb dX2_strain_36 rfl (lv_at hl 1 rfl) ?_
    obtain ⟨hg37, hm⟩ := gd_e hm
    refine k_iald (D := (dC, dI)) hx hb hK hP 6 1 rfl rfl (k := x1.toNatClampNeg) rfl hg37 dX2_strain_37 ?_
    obtain ⟨hg38, hm⟩ := gd_e hm
    refine k_iald (D := (dC, dI)) hx hb hK hP 3 1 rfl rfl (k := (wfirst (x1.toNatClampNeg)).toNatClampNeg) rfl hg38 dX2_strain_38 ?_
    refine lv_aload_n hx hb dX2_strain_39 rfl (lv_at hl 0 rfl) ?_
    refine va_get (D := (dC, dI)) (ci := 2) (v := .ref w_place) (C := RX2) (T := TX2) (N := 14) hx hb hts hinX2_strain_X2 hown hK hP 0 rfl rfl 3 (by decide) (hts _ (List.mem_of_getElem? (i := 2) rfl)) (fun _ h9 => h9) rfl dX2_strain_40 ?_
    refine lv_aload_n hx hb dX2_strain_43 rfl (lv_at hl 0 rfl) ?_
    refine va_get (D := (dC, dI)) (ci := 2) (v := .ref w_second) (C := RX2) (T := TX2) (N := 14) hx hb hts hinX2_strain_X2 hown hK hP 0 rfl rfl 8 (by decide) (hts _ (List.mem_of_getElem? (i := 4) rfl)) (fun _ h9 => h9) rfl dX2_strain_44 ?_
    refine lv_iload_n hx hb dX2_strain_47 rfl (lv_at hl 1 rfl) ?_
    obtain ⟨hg48, hm⟩ := gd_e hm
    refine k_iald (D := (dC, dI)) hx hb hK hP 7 1 rfl rfl (k := x1.toNatClampNeg) rfl hg48 dX2_strain_48 ?_
    obtain ⟨hg49, hm⟩ := gd_e hm
    refine k_iald (D := (dC, dI)) hx hb hK hP 3 1 rfl rfl (k := (wsecond (x1.toNatClampNeg)).toNatClampNeg) rfl hg49 dX2_strain_49 ?_
    refine lv_icmp_ge (tgt := 57) hx hb dX2_strain_50 (by decide) (fun c50 => ?_) (fun c50 => ?_)
    · replace hm := it_t c50 hm
      refine lv_iconst (v := (-1)) hx hb dX2_strain_57 (by decide) ?_
      refine lv_istore_n (lv' := [(2, .int (-1)), (0, .ref w_o), (1, .int x1)]) hx hb dX2_strain_58 rfl hl (by decide) rfl (fun ls hl => ?_)
      refine lv_aload_n hx hb dX2_strain_59 rfl (lv_at hl 1 rfl) ?_
      refine va_get (D := (dC, dI)) (ci := 2) (v := .ref w_place) (C := RX2) (T := TX2) (N := 14) hx hb hts hinX2_strain_X2 hown hK hP 0 rfl rfl 3 (by decide) (hts _ (List.mem_of_getElem? (i := 2) rfl)) (fun _ h9 => h9) rfl dX2_strain_60 ?_
      refine lv_aload_n hx hb dX2_strain_63 rfl (lv_at hl 1 rfl) ?_
      refine va_get (D := (dC, dI)) (ci := 2) (v := .ref w_first) (C := RX2) (T := TX2) (N := 14) hx hb hts hinX2_strain_X2 hown hK hP 0 rfl rfl 7 (by decide) (hts _ (List.mem_of_getElem? (i := 3) rfl)) (fun _ h9 => h9) rfl dX2_strain_64 ?_
      refine lv_iload_n hx hb dX2_strain_67 rfl (lv_at hl 2 rfl) ?_
      obtain ⟨hg68, hm⟩ := gd_e hm
      refine k_iald (D := (dC, dI)) hx hb hK hP 6 1 rfl rfl (k := x1.toNatClampNeg) rfl hg68 dX2_strain_68 ?_
      refine lv_dup2_11 hx hb dX2_strain_69 rfl rfl ?_
      obtain ⟨hg70, hm⟩ := gd_e hm
      refine k_iald (D := (dC, dI)) hx hb hK hP 3 1 rfl rfl (k := (wfirst (x1.toNatClampNeg)).toNatClampNeg) rfl hg70 dX2_strain_70 ?_
      refine lv_iload_n hx hb dX2_strain_71 rfl (lv_at hl 0 rfl) ?_
      refine lv_iadd hx hb dX2_strain_72 ?_
      obtain ⟨hg73, hm⟩ := gd_e hm
      refine k_iast (D := (dC, dI)) hx hb hK hP hD hS 3 1 rfl rfl (k := (wfirst (x1.toNatClampNeg)).toNatClampNeg) rfl hg73 dX2_strain_73 (fun H locs hP hD hS => ?_)
      have hP : va_P (dC, dI) vwCl (fl [wdX2 kc w_o w_kind w_v w_place w_rows w_length w_first w_second w_drifts w_traits wpeople wkind wv (upd wplace ((wfirst (x1.toNatClampNeg)).toNatClampNeg) ((wplace ((wfirst (x1.toNatClampNeg)).toNatClampNeg)) + (-1))) wrows wleaves wlength wfirst wsecond wdrops wstep wlibrary wdrifts wtraits, wdX3 kc b_o b_sorts b_letters b_numbers bsorts bletters bnumbers bsize bbear]) H := hP
      have hD : va_D A (fl [wdX2 kc w_o w_kind w_v w_place w_rows w_length w_first w_second w_drifts w_traits wpeople wkind wv (upd wplace ((wfirst (x1.toNatClampNeg)).toNatClampNeg) ((wplace ((wfirst (x1.toNatClampNeg)).toNatClampNeg)) + (-1))) wrows wleaves wlength wfirst wsecond wdrops wstep wlibrary wdrifts wtraits, wdX3 kc b_o b_sorts b_letters b_numbers bsorts bletters bnumbers bsize bbear]) := hD
      refine lv_aload_n hx hb dX2_strain_74 rfl (lv_at hl 1 rfl) ?_
      refine va_get (D := (dC, dI)) (ci := 2) (v := .ref w_place) (C := RX2) (T := TX2) (N := 14) hx hb hts hinX2_strain_X2 hown hK hP 0 rfl rfl 3 (by decide) (hts _ (List.mem_of_getElem? (i := 2) rfl)) (fun _ h9 => h9) rfl dX2_strain_75 ?_
      refine lv_aload_n hx hb dX2_strain_78 rfl (lv_at hl 1 rfl) ?_
      refine va_get (D := (dC, dI)) (ci := 2) (v := .ref w_second) (C := RX2) (T := TX2) (N := 14) hx hb hts hinX2_strain_X2 hown hK hP 0 rfl rfl 8 (by decide) (hts _ (List.mem_of_getElem? (i := 4) rfl)) (fun _ h9 => h9) rfl dX2_strain_79 ?_
      refine lv_iload_n hx hb dX2_strain_82 rfl (lv_at hl 2 rfl) ?_
      obtain ⟨hg83, hm⟩ := gd_e hm
      refine k_iald (D := (dC, dI)) hx hb hK hP 7 1 rfl rfl (k := x1.toNatClampNeg) rfl hg83 dX2_strain_83 ?_
      refine lv_dup2_11 hx hb dX2_strain_84 rfl rfl ?_
      obtain ⟨hg85, hm⟩ := gd_e hm
      refine k_iald (D := (dC, dI)) hx hb hK hP 3 1 rfl rfl (k := (wsecond (x1.toNatClampNeg)).toNatClampNeg) rfl hg85 dX2_strain_85 ?_
      refine lv_iload_n hx hb dX2_strain_86 rfl (lv_at hl 0 rfl) ?_
      refine lv_isub hx hb dX2_strain_87 ?_
      obtain ⟨hg88, hm⟩ := gd_e hm
      refine k_iast (D := (dC, dI)) hx hb hK hP hD hS 3 1 rfl rfl (k := (wsecond (x1.toNatClampNeg)).toNatClampNeg) rfl hg88 dX2_strain_88 (fun H locs hP hD hS => ?_)
      have hP : va_P (dC, dI) vwCl (fl [wdX2 kc w_o w_kind w_v w_place w_rows w_length w_first w_second w_drifts w_traits wpeople wkind wv (upd (upd wplace ((wfirst (x1.toNatClampNeg)).toNatClampNeg) ((wplace ((wfirst (x1.toNatClampNeg)).toNatClampNeg)) + (-1))) ((wsecond (x1.toNatClampNeg)).toNatClampNeg) (((upd wplace ((wfirst (x1.toNatClampNeg)).toNatClampNeg) ((wplace ((wfirst (x1.toNatClampNeg)).toNatClampNeg)) + (-1))) ((wsecond (x1.toNatClampNeg)).toNatClampNeg)) - (-1))) wrows wleaves wlength wfirst wsecond wdrops wstep wlibrary wdrifts wtraits, wdX3 kc b_o b_sorts b_letters b_numbers bsorts bletters bnumbers bsize bbear]) H := hP
      have hD : va_D A (fl [wdX2 kc w_o w_kind w_v w_place w_rows w_length w_first w_second w_drifts w_traits wpeople wkind wv (upd (upd wplace ((wfirst (x1.toNatClampNeg)).toNatClampNeg) ((wplace ((wfirst (x1.toNatClampNeg)).toNatClampNeg)) + (-1))) ((wsecond (x1.toNatClampNeg)).toNatClampNeg) (((upd wplace ((wfirst (x1.toNatClampNeg)).toNatClampNeg) ((wplace ((wfirst (x1.toNatClampNeg)).toNatClampNeg)) + (-1))) ((wsecond (x1.toNatClampNeg)).toNatClampNeg)) - (-1))) wrows wleaves wlength wfirst wsecond wdrops wstep wlibrary wdrifts wtraits, wdX3 kc b_o b_sorts b_letters b_numbers bsorts bletters bnumbers bsize bbear]) := hD
      cases hm
      exact k_vret hx hb hr hlocks hP hS dX2_strain_89
    · replace hm := it_f c50 hm
      refine lv_iconst (v := 1) hx hb dX2_strain_53 (by decide) ?_
      refine lv_goto (tgt := 58) hx hb dX2_strain_54 (by decide) ?_
      refine lv_istore_n (lv' := [(2, .int 1), (0, .ref w_o), (1, .int x1)]) hx hb dX2_strain_58 rfl hl (by decide) rfl (fun ls hl => ?_)
      refine lv_aload_n hx hb dX2_strain_59 rfl (lv_at hl 1 rfl) ?_
      refine va_get (D := (dC, dI)) (ci := 2) (v := .ref w_place) (C := RX2) (T := TX2) (N := 14) hx hb hts hinX2_strain_X2 hown hK hP 0 rfl rfl 3 (by decide) (hts _ (List.mem_of_getElem? (i := 2) rfl)) (fun _ h9 => h9) rfl dX2_strain_60 ?_
      refine lv_aload_n hx hb dX2_strain_63 rfl (lv_at hl 1 rfl) ?_
      refine va_get (D := (dC, dI)) (ci := 2) (v := .ref w_first) (C := RX2) (T := TX2) (N := 14) hx hb hts hinX2_strain_X2 hown hK hP 0 rfl rfl 7 (by decide) (hts _ (List.mem_of_getElem? (i := 3) rfl)) (fun _ h9 => h9) rfl dX2_strain_64 ?_
      refine lv_iload_n hx hb dX2_strain_67 rfl (lv_at hl 2 rfl) ?_
      obtain ⟨hg68, hm⟩ := gd_e hm
      refine k_iald (D := (dC, dI)) hx hb hK hP 6 1 rfl rfl (k := x1.toNatClampNeg) rfl hg68 dX2_strain_68 ?_
      refine lv_dup2_11 hx hb dX2_strain_69 rfl rfl ?_
      obtain ⟨hg70, hm⟩ := gd_e hm
      refine k_iald (D := (dC, dI)) hx hb hK hP 3 1 rfl rfl (k := (wfirst (x1.toNatClampNeg)).toNatClampNeg) rfl hg70 dX2_strain_70 ?_
      refine lv_iload_n hx hb dX2_strain_71 rfl (lv_at hl 0 rfl) ?_
      refine lv_iadd hx hb dX2_strain_72 ?_
      obtain ⟨hg73, hm⟩ := gd_e hm
      refine k_iast (D := (dC, dI)) hx hb hK hP hD hS 3 1 rfl rfl (k := (wfirst (x1.toNatClampNeg)).toNatClampNeg) rfl hg73 dX2_strain_73 (fun H locs hP hD hS => ?_)
      have hP : va_P (dC, dI) vwCl (fl [wdX2 kc w_o w_kind w_v w_place w_rows w_length w_first w_second w_drifts w_traits wpeople wkind wv (upd wplace ((wfirst (x1.toNatClampNeg)).toNatClampNeg) ((wplace ((wfirst (x1.toNatClampNeg)).toNatClampNeg)) + 1)) wrows wleaves wlength wfirst wsecond wdrops wstep wlibrary wdrifts wtraits, wdX3 kc b_o b_sorts b_letters b_numbers bsorts bletters bnumbers bsize bbear]) H := hP
      have hD : va_D A (fl [wdX2 kc w_o w_kind w_v w_place w_rows w_length w_first w_second w_drifts w_traits wpeople wkind wv (upd wplace ((wfirst (x1.toNatClampNeg)).toNatClampNeg) ((wplace ((wfirst (x1.toNatClampNeg)).toNatClampNeg)) + 1)) wrows wleaves wlength wfirst wsecond wdrops wstep wlibrary wdrifts wtraits, wdX3 kc b_o b_sorts b_letters b_numbers bsorts bletters bnumbers bsize bbear]) := hD
      refine lv_aload_n hx hb dX2_strain_74 rfl (lv_at hl 1 rfl) ?_
      refine va_get (D := (dC, dI)) (ci := 2) (v := .ref w_place) (C := RX2) (T := TX2) (N := 14) hx hb hts hinX2_strain_X2 hown hK hP 0 rfl rfl 3 (by decide) (hts _ (List.mem_of_getElem? (i := 2) rfl)) (fun _ h9 => h9) rfl dX2_strain_75 ?_
      refine lv_aload_n hx hb dX2_strain_78 rfl (lv_at hl 1 rfl) ?_
      refine va_get (D := (dC, dI)) (ci := 2) (v := .ref w_second) (C := RX2) (T := TX2) (N := 14) hx hb hts hinX2_strain_X2 hown hK hP 0 rfl rfl 8 (by decide) (hts _ (List.mem_of_getElem? (i := 4) rfl)) (fun _ h9 => h9) rfl dX2_strain_79 ?_
      refine lv_iload_n hx hb dX2_strain_82 rfl (lv_at hl 2 rfl) ?_
      obtain ⟨hg83, hm⟩ := gd_e hm
      refine k_iald (D := (dC, dI)) hx hb hK hP 7 1 rfl rfl (k := x1.toNatClampNeg) rfl hg83 dX2_strain_83 ?_
      refine lv_dup2_11 hx hb dX2_strain_84 rfl rfl ?_
      obtain ⟨hg85, hm⟩ := gd_e hm
      refine k_iald (D := (dC, dI)) hx hb hK hP 3 1 rfl rfl (k := (wsecond (x1.toNatClampNeg)).toNatClampNeg) rfl hg85 dX2_strain_85 ?_
      refine lv_iload_n hx hb dX2_strain_86 rfl (lv_at hl 0 rfl) ?_
      refine lv_isub hx hb dX2_strain_87 ?_
      obtain ⟨hg88, hm⟩ := gd_e hm
      refine k_iast (D := (dC, dI)) hx hb hK hP hD hS 3 1 rfl rfl (k := (wsecond (x1.toNatClampNeg)).toNatClampNeg) rfl hg88 dX2_strain_88 (fun H locs hP hD hS => ?_)
      have hP : va_P (dC, dI) vwCl (fl [wdX2 kc w_o w_kind w_v w_place w_rows w_length w_first w_second w_drifts w_traits wpeople wkind wv (upd (upd wplace ((wfirst (x1.toNatClampNeg)).toNatClampNeg) ((wplace ((wfirst (x1.toNatClampNeg)).toNatClampNeg)) + 1)) ((wsecond (x1.toNatClampNeg)).toNatClampNeg) (((upd wplace ((wfirst (x1.toNatClampNeg)).toNatClampNeg) ((wplace ((wfirst (x1.toNatClampNeg)).toNatClampNeg)) + 1)) ((wsecond (x1.toNatClampNeg)).toNatClampNeg)) - 1)) wrows wleaves wlength wfirst wsecond wdrops wstep wlibrary wdrifts wtraits, wdX3 kc b_o b_sorts b_letters b_numbers bsorts bletters bnumbers bsize bbear]) H := hP
      have hD : va_D A (fl [wdX2 kc w_o w_kind w_v w_place w_rows w_length w_first w_second w_drifts w_traits wpeople wkind wv (upd (upd wplace ((wfirst (x1.toNatClampNeg)).toNatClampNeg) ((wplace ((wfirst (x1.toNatClampNeg)).toNatClampNeg)) + 1)) ((wsecond (x1.toNatClampNeg)).toNatClampNeg) (((upd wplace ((wfirst (x1.toNatClampNeg)).toNatClampNeg) ((wplace ((wfirst (x1.toNatClampNeg)).toNatClampNeg)) + 1)) ((wsecond (x1.toNatClampNeg)).toNatClampNeg)) - 1)) wrows wleaves wlength wfirst wsecond wdrops wstep wlibrary wdrifts wtraits, wdX3 kc b_o b_sorts b_letters b_numbers bsorts bletters bnumbers bsize bbear]) := hD
      cases hm
      exact k_vret hx hb hr hlocks hP hS dX2_strain_89
  · replace hm := it_f c9 hm
    refine lv_aload_n hx hb dX2_strain_12 rfl (lv_at hl 0 rfl) ?_
    refine lv_iload_n hx hb dX2_strain_13 rfl (lv_at hl 1 rfl) ?_
    obtain ⟨wfirst_14, wsecond_14, hc14, hm⟩ := bd2_e hm
    refine k_callGVv (dC := dC) (dI := dI) (kc := kc) (As := [.int x1]) (rest := []) (Gs' := [wdX2 kc w_o w_kind w_v w_place w_rows w_length w_first w_second w_drifts w_traits wpeople wkind wv wplace wrows wleaves wlength wfirst_14 wsecond_14 wdrops wstep wlibrary wdrifts wtraits, wdX3 kc b_o b_sorts b_letters b_numbers bsorts bletters bnumbers bsize bbear]) hx hb hml hown hts hK hP hD hS hA (ctX2_letGo (w_o := w_o) (w_kind := w_kind) (w_v := w_v) (w_place := w_place) (w_rows := w_rows) (w_length := w_length) (w_first := w_first) (w_second := w_second) (w_drifts := w_drifts) (w_traits := w_traits) (wpeople := wpeople) (wkind := wkind) (wv := wv) (wplace := wplace) (wrows := wrows) (wleaves := wleaves) (wlength := wlength) (wfirst := wfirst) (wsecond := wsecond) (wdrops := wdrops) (wstep := wstep) (wlibrary := wlibrary) (wdrifts := wdrifts) (wtraits := wtraits) (x1 := x1) hc14) (cwV 1 hts gX2_strain_X2_letGo rfl rfl rfl (by decide +kernel) ⟨Nat.le_of_ble_eq_true rfl, Nat.le_of_ble_eq_true rfl⟩) [0] rfl (by decide) 2 rfl rfl rfl rfl hl rfl (Nat.le_of_ble_eq_true rfl) dX2_strain_14 ⟨Nat.zero_le _, Nat.zero_le _⟩ rfl rfl rfl (fun H locs hP hD hS => ?_)
    refine lv_aload_n hx hb dX2_strain_17 rfl (lv_at hl 0 rfl) ?_
    refine lv_dup hx hb dX2_strain_18 rfl ?_
    refine va_get (D := (dC, dI)) (ci := 2) (v := .int wdrops) (C := RX2) (T := TX2) (N := 14) hx hb hts hinX2_strain_X2 hown hK hP 0 rfl rfl 9 (by decide) (hts _ (List.mem_of_getElem? (i := 1) rfl)) (fun _ h9 => h9) rfl dX2_strain_19 ?_
    refine lv_iconst (v := 1) hx hb dX2_strain_22 (by decide) ?_
    refine lv_iadd hx hb dX2_strain_23 ?_
    refine va_put (D := (dC, dI)) (ci := 2) (v := .int (wdrops + 1)) (ty := .int) (C := RX2) (T := TX2) (N := 14) hx hb hts hinX2_strain_X2 tyX2 tyX2_ok nmX2 hown hK hP hD hS 0 rfl rfl 9 (by decide) (hts _ (List.mem_of_getElem? (i := 1) rfl)) (fun _ h9 => h9) rfl (by decide +kernel) rfl rfl (Nat.le_of_ble_eq_true rfl) dX2_strain_24 (fun H locs hP hD hS => ?_)
    have hP : va_P (dC, dI) vwCl (fl [wdX2 kc w_o w_kind w_v w_place w_rows w_length w_first w_second w_drifts w_traits wpeople wkind wv wplace wrows wleaves wlength wfirst_14 wsecond_14 (wdrops + 1) wstep wlibrary wdrifts wtraits, wdX3 kc b_o b_sorts b_letters b_numbers bsorts bletters bnumbers bsize bbear]) H := hP
    have hD : va_D A (fl [wdX2 kc w_o w_kind w_v w_place w_rows w_length w_first w_second w_drifts w_traits wpeople wkind wv wplace wrows wleaves wlength wfirst_14 wsecond_14 (wdrops + 1) wstep wlibrary wdrifts wtraits, wdX3 kc b_o b_sorts b_letters b_numbers bsorts bletters bnumbers bsize bbear]) := hD
    cases hm
    exact k_vret hx hb hr hlocks hP hS dX2_strain_27
def LX2_goOne_73 (wleaves : Int32) (wlength : Nat → Int32) (wstep : Int32) (wlibrary : Option Nat) (bbear : Int32) (wdrifts_2 : Nat → Int32) (wtraits_2 : Nat → Int32) : Nat → Int32 → (Nat → Int32) → (Nat → Int32) → (Nat → Int32) → Int32 → Option ((Nat → Int32) × (Nat → Int32) × (Nat → Int32) × Int32 × Int32 × (Nat → Int32) × (Nat → Int32))
  | 0, _, _, _, _, _ => none
  | n73 + 1, l1_73, wplace_73, wfirst_73, wsecond_73, wdrops_73 => if wleaves ≤ l1_73 then (some (wplace_73, wfirst_73, wsecond_73, wdrops_73, wstep + 1, wdrifts_2, wtraits_2)) else (bd1 (fX2_isTaut wplace_73 wlength wfirst_73 wsecond_73 l1_73) (fun r83 => if r83 = 0 then (LX2_goOne_73 wleaves wlength wstep wlibrary bbear wdrifts_2 wtraits_2 n73 (l1_73 + 1) wplace_73 wfirst_73 wsecond_73 wdrops_73) else (bd4 (fX2_strain wplace_73 wlength wfirst_73 wsecond_73 wdrops_73 wlibrary bbear l1_73) (fun wplace_91 wfirst_91 wsecond_91 wdrops_91 => LX2_goOne_73 wleaves wlength wstep wlibrary bbear wdrifts_2 wtraits_2 n73 (l1_73 + 1) wplace_91 wfirst_91 wsecond_91 wdrops_91))))
def LX2_goOne_29 (fu : Nat) (wpeople : Int32) (wleaves : Int32) (wlength : Nat → Int32) (wfirst : Nat → Int32) (wsecond : Nat → Int32) (wdrops : Int32) (wstep : Int32) (wlibrary : Option Nat) (bbear : Int32) (wdrifts_2 : Nat → Int32) (wtraits_2 : Nat → Int32) : Nat → Int32 → (Nat → Int32) → Option ((Nat → Int32) × (Nat → Int32) × (Nat → Int32) × Int32 × Int32 × (Nat → Int32) × (Nat → Int32))
  | 0, _, _ => none
  | n29 + 1, l1_29, wplace_29 => if wpeople ≤ l1_29 then (LX2_goOne_73 wleaves wlength wstep wlibrary bbear wdrifts_2 wtraits_2 fu 0 wplace_29 wfirst wsecond wdrops) else (gd (inb l1_29 6) (gd (inb l1_29 6) (gd (inb l1_29 6) (LX2_goOne_29 fu wpeople wleaves wlength wfirst wsecond wdrops wstep wlibrary bbear wdrifts_2 wtraits_2 n29 (l1_29 + 1) (upd wplace_29 (l1_29.toNatClampNeg) (jmax 0 (jmin 99 ((wplace_29 (l1_29.toNatClampNeg)) + (wdrifts_2 (l1_29.toNatClampNeg))))))))))
def LX2_goOne_2 (fu : Nat) (wpeople : Int32) (wkind : Nat → Int32) (wv : Nat → Int32) (wplace : Nat → Int32) (wrows : Nat → Int32) (wleaves : Int32) (wlength : Nat → Int32) (wfirst : Nat → Int32) (wsecond : Nat → Int32) (wdrops : Int32) (wstep : Int32) (wlibrary : Option Nat) (bsorts : Nat → Int32) (bletters : Nat → Int32) (bnumbers : Nat → Int32) (bsize : Int32) (bbear : Int32) : Nat → Int32 → (Nat → Int32) → (Nat → Int32) → Option ((Nat → Int32) × (Nat → Int32) × (Nat → Int32) × Int32 × Int32 × (Nat → Int32) × (Nat → Int32))
  | 0, _, _, _ => none
  | n2 + 1, l1_2, wdrifts_2, wtraits_2 => if wpeople ≤ l1_2 then (LX2_goOne_29 fu wpeople wleaves wlength wfirst wsecond wdrops wstep wlibrary bbear wdrifts_2 wtraits_2 fu 0 wplace) else (bd2 (fX2_driftOf fu wkind wv wplace wrows wleaves wfirst wsecond wstep wlibrary wtraits_2 bsorts bletters bnumbers bsize l1_2) (fun r17 wtraits_17 => gd (inb l1_2 6) (LX2_goOne_2 fu wpeople wkind wv wplace wrows wleaves wlength wfirst wsecond wdrops wstep wlibrary bsorts bletters bnumbers bsize bbear n2 (l1_2 + 1) (upd wdrifts_2 (l1_2.toNatClampNeg) r17) wtraits_17)))
def fX2_goOne (fu : Nat) (wpeople : Int32) (wkind : Nat → Int32) (wv : Nat → Int32) (wplace : Nat → Int32) (wrows : Nat → Int32) (wleaves : Int32) (wlength : Nat → Int32) (wfirst : Nat → Int32) (wsecond : Nat → Int32) (wdrops : Int32) (wstep : Int32) (wlibrary : Option Nat) (wdrifts : Nat → Int32) (wtraits : Nat → Int32) (bsorts : Nat → Int32) (bletters : Nat → Int32) (bnumbers : Nat → Int32) (bsize : Int32) (bbear : Int32) : Option ((Nat → Int32) × (Nat → Int32) × (Nat → Int32) × Int32 × Int32 × (Nat → Int32) × (Nat → Int32)) := LX2_goOne_2 fu wpeople wkind wv wplace wrows wleaves wlength wfirst wsecond wdrops wstep wlibrary bsorts bletters bnumbers bsize bbear fu 0 wdrifts wtraits
theorem hinX2_goOne_X2 : ∀ w ∈ u_ws RX2 TX2 14, w ∈ wsX2_goOne := fun _ h => List.mem_cons_of_mem _ (List.mem_append_left _ (List.mem_append_right _ h))
abbrev rmX2_goOne : Room := { frames := 3, cells := 0, slots := 0, locals := 81 }
set_option maxHeartbeats 4000000 in
set_option maxRecDepth 100000 in
theorem ctX2_goOne {l : Launch} {dC : Nat → ClassId} {dI : Nat → Nat → Nat} {kc : Nat → ClassId} {w_o w_kind w_v w_place w_rows w_length w_first w_second w_drifts w_traits b_o b_sorts b_letters b_numbers : Nat} {wpeople : Int32} {wkind : Nat → Int32} {wv : Nat → Int32} {wplace : Nat → Int32} {wrows : Nat → Int32} {wleaves : Int32} {wlength : Nat → Int32} {wfirst : Nat → Int32} {wsecond : Nat → Int32} {wdrops : Int32} {wstep : Int32} {wlibrary : Option Nat} {wdrifts : Nat → Int32} {wtraits : Nat → Int32} {bsorts : Nat → Int32} {bletters : Nat → Int32} {bnumbers : Nat → Int32} {bsize : Int32} {bbear : Int32} {fu : Nat} {wplace' : Nat → Int32} {wfirst' : Nat → Int32} {wsecond' : Nat → Int32} {wdrops' : Int32} {wstep' : Int32} {wdrifts' : Nat → Int32} {wtraits' : Nat → Int32} (hm : fX2_goOne fu wpeople wkind wv wplace wrows wleaves wlength wfirst wsecond wdrops wstep wlibrary wdrifts wtraits bsorts bletters bnumbers bsize bbear = some (wplace', wfirst', wsecond', wdrops', wstep', wdrifts', wtraits')) (hlowlibrary : ∀ q : Nat, wlibrary = some q → q = b_o) : ∀ sz : Nat, Met l yX2_goOne wsX2_goOne rmX2_goOne (kPc dC dI kc [.ref w_o] (fl [wdX2 kc w_o w_kind w_v w_place w_rows w_length w_first w_second w_drifts w_traits wpeople wkind wv wplace wrows wleaves wlength wfirst wsecond wdrops wstep wlibrary wdrifts wtraits, wdX3 kc b_o b_sorts b_letters b_numbers bsorts bletters bnumbers bsize bbear]) sz) (kQv dC dI (fl [wdX2 kc w_o w_kind w_v w_place w_rows w_length w_first w_second w_drifts w_traits wpeople wkind wv wplace' wrows wleaves wlength wfirst' wsecond' wdrops' wstep' wlibrary wdrifts' wtraits', wdX3 kc b_o b_sorts b_letters b_numbers bsorts bletters bnumbers bsize bbear]) (va_A (fl [wdX2 kc w_o w_kind w_v w_place w_rows w_length w_first w_second w_drifts w_traits wpeople wkind wv wplace wrows wleaves wlength wfirst wsecond wdrops wstep wlibrary wdrifts wtraits, wdX3 kc b_o b_sorts b_letters b_numbers bsorts bletters bnumbers bsize bbear]) sz)) 0 0 (va_A (fl [wdX2 kc w_o w_kind w_v w_place w_rows w_length w_first w_second w_drifts w_traits wpeople wkind wv wplace wrows wleaves wlength wfirst wsecond wdrops wstep wlibrary wdrifts wtraits, wdX3 kc b_o b_sorts b_letters b_numbers bsorts bletters bnumbers bsize bbear]) sz) := by
  intro sz
  refine kMet (cc := cX2_goOne) (maxL := 2) (ret := none) (Qf := fun A => kQv dC dI (fl [wdX2 kc w_o w_kind w_v w_place w_rows w_length w_first w_second w_drifts w_traits wpeople wkind wv wplace' wrows wleaves wlength wfirst' wsecond' wdrops' wstep' wlibrary wdrifts' wtraits', wdX3 kc b_o b_sorts b_letters b_numbers bsorts bletters bnumbers bsize bbear]) A) (by decide) rfl (Nat.le_of_ble_eq_true rfl) ?_
  intro p e s m below meth c A ls hx hb hr hml hts hown hlocks hname hsz hA hP hK hD hl
  have hS : va_S A s.heap s.heap [] := va_S.rf
  have hl : lv_has ls 2 [(0, .ref w_o)] := hl
  unfold fX2_goOne at hm
  refine lv_iconst (v := 0) hx hb dX2_goOne_0 (by decide) ?_
  refine lv_istore_n (lv' := [(1, .int 0), (0, .ref w_o)]) hx hb dX2_goOne_1 rfl hl (by decide) rfl (fun ls hl => ?_)
  have hL2 : ∀ (fn : Nat) (l1_2 : Int32) (wdrifts_2 : Nat → Int32) (wtraits_2 : Nat → Int32), LX2_goOne_2 fu wpeople wkind wv wplace wrows wleaves wlength wfirst wsecond wdrops wstep wlibrary bsorts bletters bnumbers bsize bbear fn l1_2 wdrifts_2 wtraits_2 = some (wplace', wfirst', wsecond', wdrops', wstep', wdrifts', wtraits') → ∀ (H : Heap) (locs : List Loc), va_P (dC, dI) vwCl (fl [wdX2 kc w_o w_kind w_v w_place w_rows w_length w_first w_second w_drifts w_traits wpeople wkind wv wplace wrows wleaves wlength wfirst wsecond wdrops wstep wlibrary wdrifts_2 wtraits_2, wdX3 kc b_o b_sorts b_letters b_numbers bsorts bletters bnumbers bsize bbear]) H → va_D A (fl [wdX2 kc w_o w_kind w_v w_place w_rows w_length w_first w_second w_drifts w_traits wpeople wkind wv wplace wrows wleaves wlength wfirst wsecond wdrops wstep wlibrary wdrifts_2 wtraits_2, wdX3 kc b_o b_sorts b_letters b_numbers bsorts bletters bnumbers bsize bbear]) → va_S A s.heap H locs → ∀ ls : Array Slot, lv_has ls 2 [(0, .ref w_o), (1, .int l1_2)] → W p l e (headSpec wsX2_goOne rmX2_goOne).room s m [.ref w_o].toArray below meth c H locs 0 0 (MQ below (kQv dC dI (fl [wdX2 kc w_o w_kind w_v w_place w_rows w_length w_first w_second w_drifts w_traits wpeople wkind wv wplace' wrows wleaves wlength wfirst' wsecond' wdrops' wstep' wlibrary wdrifts' wtraits', wdX3 kc b_o b_sorts b_letters b_numbers bsorts bletters bnumbers bsize bbear]) A) [.ref w_o].toArray s 0 0 A) (F0 m 2 ls []) := by
    clear hm hP hD hS hl
    intro n2
    induction n2 with
    | zero => intro l1_2 wdrifts_2 wtraits_2 hm; rw [LX2_goOne_2] at hm; cases hm
    | succ n2 ih2 =>
      intro l1_2 wdrifts_2 wtraits_2 hm H locs hP hD hS ls hl
      rw [LX2_goOne_2] at hm
      refine lv_iload_n hx hb dX2_goOne_2 rfl (lv_at hl 1 rfl) ?_
      refine lv_aload_n hx hb dX2_goOne_3 rfl (lv_at hl 0 rfl) ?_
      refine va_get (D := (dC, dI)) (ci := 2) (v := .int wpeople) (C := RX2) (T := TX2) (N := 14) hx hb hts hinX2_goOne_X2 hown hK hP 0 rfl rfl 0 (by decide) (hts _ (List.mem_of_getElem? (i := 1) rfl)) (fun _ h9 => h9) rfl dX2_goOne_4 ?_
      refine lv_icmp_ge (tgt := 27) hx hb dX2_goOne_7 (by decide) (fun c7 => ?_) (fun c7 => ?_)
      · replace hm := it_t c7 hm
        refine lv_iconst (v := 0) hx hb dX2_goOne_27 (by decide) ?_
        refine lv_istore_n (lv' := [(1, .int 0), (0, .ref w_o)]) hx hb dX2_goOne_28 rfl hl (by decide) rfl (fun ls hl => ?_)
        have hL29 : ∀ (fn : Nat) (l1_29 : Int32) (wplace_29 : Nat → Int32), LX2_goOne_29 fu wpeople wleaves wlength wfirst wsecond wdrops wstep wlibrary bbear wdrifts_2 wtraits_2 fn l1_29 wplace_29 = some (wplace', wfirst', wsecond', wdrops', wstep', wdrifts', wtraits') → ∀ (H : Heap) (locs : List Loc), va_P (dC, dI) vwCl (fl [wdX2 kc w_o w_kind w_v w_place w_rows w_length w_first w_second w_drifts w_traits wpeople wkind wv wplace_29 wrows wleaves wlength wfirst wsecond wdrops wstep wlibrary wdrifts_2 wtraits_2, wdX3 kc b_o b_sorts b_letters b_numbers bsorts bletters bnumbers bsize bbear]) H → va_D A (fl [wdX2 kc w_o w_kind w_v w_place w_rows w_length w_first w_second w_drifts w_traits wpeople wkind wv wplace_29 wrows wleaves wlength wfirst wsecond wdrops wstep wlibrary wdrifts_2 wtraits_2, wdX3 kc b_o b_sorts b_letters b_numbers bsorts bletters bnumbers bsize bbear]) → va_S A s.heap H locs → ∀ ls : Array Slot, lv_has ls 2 [(0, .ref w_o), (1, .int l1_29)] → W p l e (headSpec wsX2_goOne rmX2_goOne).room s m [.ref w_o].toArray below meth c H locs 0 0 (MQ below (kQv dC dI (fl [wdX2 kc w_o w_kind w_v w_place w_rows w_length w_first w_second w_drifts w_traits wpeople wkind wv wplace' wrows wleaves wlength wfirst' wsecond' wdrops' wstep' wlibrary wdrifts' wtraits', wdX3 kc b_o b_sorts b_letters b_numbers bsorts bletters bnumbers bsize bbear]) A) [.ref w_o].toArray s 0 0 A) (F0 m 29 ls []) := by
          clear hm hP hD hS hl
          intro n29
          induction n29 with
          | zero => intro l1_29 wplace_29 hm; rw [LX2_goOne_29] at hm; cases hm
          | succ n29 ih29 =>
            intro l1_29 wplace_29 hm H locs hP hD hS ls hl
            rw [LX2_goOne_29] at hm
            refine lv_iload_n hx hb dX2_goOne_29 rfl (lv_at hl 1 rfl) ?_
            refine lv_aload_n hx hb dX2_goOne_30 rfl (lv_at hl 0 rfl) ?_
            refine va_get (D := (dC, dI)) (ci := 2) (v := .int wpeople) (C := RX2) (T := TX2) (N := 14) hx hb hts hinX2_goOne_X2 hown hK hP 0 rfl rfl 0 (by decide) (hts _ (List.mem_of_getElem? (i := 1) rfl)) (fun _ h9 => h9) rfl dX2_goOne_31 ?_
            refine lv_icmp_ge (tgt := 71) hx hb dX2_goOne_34 (by decide) (fun c34 => ?_) (fun c34 => ?_)
            · replace hm := it_t c34 hm
              refine lv_iconst (v := 0) hx hb dX2_goOne_71 (by decide) ?_
              refine lv_istore_n (lv' := [(1, .int 0), (0, .ref w_o)]) hx hb dX2_goOne_72 rfl hl (by decide) rfl (fun ls hl => ?_)
              have hL73 : ∀ (fn : Nat) (l1_73 : Int32) (wplace_73 : Nat → Int32) (wfirst_73 : Nat → Int32) (wsecond_73 : Nat → Int32) (wdrops_73 : Int32), LX2_goOne_73 wleaves wlength wstep wlibrary bbear wdrifts_2 wtraits_2 fn l1_73 wplace_73 wfirst_73 wsecond_73 wdrops_73 = some (wplace', wfirst', wsecond', wdrops', wstep', wdrifts', wtraits') → ∀ (H : Heap) (locs : List Loc), va_P (dC, dI) vwCl (fl [wdX2 kc w_o w_kind w_v w_place w_rows w_length w_first w_second w_drifts w_traits wpeople wkind wv wplace_73 wrows wleaves wlength wfirst_73 wsecond_73 wdrops_73 wstep wlibrary wdrifts_2 wtraits_2, wdX3 kc b_o b_sorts b_letters b_numbers bsorts bletters bnumbers bsize bbear]) H → va_D A (fl [wdX2 kc w_o w_kind w_v w_place w_rows w_length w_first w_second w_drifts w_traits wpeople wkind wv wplace_73 wrows wleaves wlength wfirst_73 wsecond_73 wdrops_73 wstep wlibrary wdrifts_2 wtraits_2, wdX3 kc b_o b_sorts b_letters b_numbers bsorts bletters bnumbers bsize bbear]) → va_S A s.heap H locs → ∀ ls : Array Slot, lv_has ls 2 [(0, .ref w_o), (1, .int l1_73)] → W p l e (headSpec wsX2_goOne rmX2_goOne).room s m [.ref w_o].toArray below meth c H locs 0 0 (MQ below (kQv dC dI (fl [wdX2 kc w_o w_kind w_v w_place w_rows w_length w_first w_second w_drifts w_traits wpeople wkind wv wplace' wrows wleaves wlength wfirst' wsecond' wdrops' wstep' wlibrary wdrifts' wtraits', wdX3 kc b_o b_sorts b_letters b_numbers bsorts bletters bnumbers bsize bbear]) A) [.ref w_o].toArray s 0 0 A) (F0 m 73 ls []) := by
                clear hm hP hD hS hl
                intro n73
                induction n73 with
                | zero => intro l1_73 wplace_73 wfirst_73 wsecond_73 wdrops_73 hm; rw [LX2_goOne_73] at hm; cases hm
                | succ n73 ih73 =>
                  intro l1_73 wplace_73 wfirst_73 wsecond_73 wdrops_73 hm H locs hP hD hS ls hl
                  rw [LX2_goOne_73] at hm
                  refine lv_iload_n hx hb dX2_goOne_73 rfl (lv_at hl 1 rfl) ?_
                  refine lv_aload_n hx hb dX2_goOne_74 rfl (lv_at hl 0 rfl) ?_
                  refine va_get (D := (dC, dI)) (ci := 2) (v := .int wleaves) (C := RX2) (T := TX2) (N := 14) hx hb hts hinX2_goOne_X2 hown hK hP 0 rfl rfl 5 (by decide) (hts _ (List.mem_of_getElem? (i := 11) rfl)) (fun _ h9 => h9) rfl dX2_goOne_75 ?_
                  refine lv_icmp_ge (tgt := 100) hx hb dX2_goOne_78 (by decide) (fun c78 => ?_) (fun c78 => ?_)
                  · replace hm := it_t c78 hm
                    refine lv_aload_n hx hb dX2_goOne_100 rfl (lv_at hl 0 rfl) ?_
                    refine lv_dup hx hb dX2_goOne_101 rfl ?_
                    refine va_get (D := (dC, dI)) (ci := 2) (v := .int wstep) (C := RX2) (T := TX2) (N := 14) hx hb hts hinX2_goOne_X2 hown hK hP 0 rfl rfl 10 (by decide) (hts _ (List.mem_of_getElem? (i := 12) rfl)) (fun _ h9 => h9) rfl dX2_goOne_102 ?_
                    refine lv_iconst (v := 1) hx hb dX2_goOne_105 (by decide) ?_
                    refine lv_iadd hx hb dX2_goOne_106 ?_
                    refine va_put (D := (dC, dI)) (ci := 2) (v := .int (wstep + 1)) (ty := .int) (C := RX2) (T := TX2) (N := 14) hx hb hts hinX2_goOne_X2 tyX2 tyX2_ok nmX2 hown hK hP hD hS 0 rfl rfl 10 (by decide) (hts _ (List.mem_of_getElem? (i := 12) rfl)) (fun _ h9 => h9) rfl (by decide +kernel) rfl rfl (Nat.le_of_ble_eq_true rfl) dX2_goOne_107 (fun H locs hP hD hS => ?_)
                    have hP : va_P (dC, dI) vwCl (fl [wdX2 kc w_o w_kind w_v w_place w_rows w_length w_first w_second w_drifts w_traits wpeople wkind wv wplace_73 wrows wleaves wlength wfirst_73 wsecond_73 wdrops_73 (wstep + 1) wlibrary wdrifts_2 wtraits_2, wdX3 kc b_o b_sorts b_letters b_numbers bsorts bletters bnumbers bsize bbear]) H := hP
                    have hD : va_D A (fl [wdX2 kc w_o w_kind w_v w_place w_rows w_length w_first w_second w_drifts w_traits wpeople wkind wv wplace_73 wrows wleaves wlength wfirst_73 wsecond_73 wdrops_73 (wstep + 1) wlibrary wdrifts_2 wtraits_2, wdX3 kc b_o b_sorts b_letters b_numbers bsorts bletters bnumbers bsize bbear]) := hD
                    cases hm
                    exact k_vret hx hb hr hlocks hP hS dX2_goOne_110
                  · replace hm := it_f c78 hm
                    refine lv_aload_n hx hb dX2_goOne_81 rfl (lv_at hl 0 rfl) ?_
                    refine lv_iload_n hx hb dX2_goOne_82 rfl (lv_at hl 1 rfl) ?_
                    obtain ⟨r83, hc83, hm⟩ := bd1_e hm
                    refine k_callGVi (dC := dC) (dI := dI) (kc := kc) (As := [.int l1_73]) (rest := []) (Gs' := [wdX2 kc w_o w_kind w_v w_place w_rows w_length w_first w_second w_drifts w_traits wpeople wkind wv wplace_73 wrows wleaves wlength wfirst_73 wsecond_73 wdrops_73 wstep wlibrary wdrifts_2 wtraits_2, wdX3 kc b_o b_sorts b_letters b_numbers bsorts bletters bnumbers bsize bbear]) hx hb hml hown hts hK hP hD hS hA (ctX2_isTaut (w_o := w_o) (w_kind := w_kind) (w_v := w_v) (w_place := w_place) (w_rows := w_rows) (w_length := w_length) (w_first := w_first) (w_second := w_second) (w_drifts := w_drifts) (w_traits := w_traits) (wpeople := wpeople) (wkind := wkind) (wv := wv) (wplace := wplace_73) (wrows := wrows) (wleaves := wleaves) (wlength := wlength) (wfirst := wfirst_73) (wsecond := wsecond_73) (wdrops := wdrops_73) (wstep := wstep) (wlibrary := wlibrary) (wdrifts := wdrifts_2) (wtraits := wtraits_2) (x1 := l1_73) hc83) (cwV 1 hts gX2_goOne_X2_isTaut rfl rfl rfl (by decide +kernel) ⟨Nat.le_of_ble_eq_true rfl, Nat.le_of_ble_eq_true rfl⟩) [0] rfl (by decide) 2 rfl rfl rfl rfl hl rfl (Nat.le_of_ble_eq_true rfl) dX2_goOne_83 ⟨Nat.zero_le _, Nat.zero_le _⟩ rfl rfl rfl (fun H locs hP hD hS => ?_)
                    refine lv_if_eq (tgt := 94) hx hb dX2_goOne_86 (by decide) (fun c86 => ?_) (fun c86 => ?_)
                    · replace hm := it_t c86 hm
                      refine lv_iinc (v := l1_73 + 1) (lv' := [(1, .int (l1_73 + 1)), (0, .ref w_o)]) hx hb dX2_goOne_94 hl (k := 1) rfl rfl (by decide) rfl (fun ls hl => ?_)
                      refine lv_goto (tgt := 73) hx hb dX2_goOne_97 (by decide) ?_
                      exact ih73 (l1_73 + 1) wplace_73 wfirst_73 wsecond_73 wdrops_73 hm _ _ hP hD hS _ (lv_sub hl [1, 0] rfl)
                    · replace hm := it_f c86 hm
                      refine lv_aload_n hx hb dX2_goOne_89 rfl (lv_at hl 0 rfl) ?_
                      refine lv_iload_n hx hb dX2_goOne_90 rfl (lv_at hl 1 rfl) ?_
                      obtain ⟨wplace_91, wfirst_91, wsecond_91, wdrops_91, hc91, hm⟩ := bd4_e hm
                      refine k_callGVv (dC := dC) (dI := dI) (kc := kc) (As := [.int l1_73]) (rest := []) (Gs' := [wdX2 kc w_o w_kind w_v w_place w_rows w_length w_first w_second w_drifts w_traits wpeople wkind wv wplace_91 wrows wleaves wlength wfirst_91 wsecond_91 wdrops_91 wstep wlibrary wdrifts_2 wtraits_2, wdX3 kc b_o b_sorts b_letters b_numbers bsorts bletters bnumbers bsize bbear]) hx hb hml hown hts hK hP hD hS hA (ctX2_strain (w_o := w_o) (w_kind := w_kind) (w_v := w_v) (w_place := w_place) (w_rows := w_rows) (w_length := w_length) (w_first := w_first) (w_second := w_second) (w_drifts := w_drifts) (w_traits := w_traits) (b_o := b_o) (b_sorts := b_sorts) (b_letters := b_letters) (b_numbers := b_numbers) (wpeople := wpeople) (wkind := wkind) (wv := wv) (wplace := wplace_73) (wrows := wrows) (wleaves := wleaves) (wlength := wlength) (wfirst := wfirst_73) (wsecond := wsecond_73) (wdrops := wdrops_73) (wstep := wstep) (wlibrary := wlibrary) (wdrifts := wdrifts_2) (wtraits := wtraits_2) (bsorts := bsorts) (bletters := bletters) (bnumbers := bnumbers) (bsize := bsize) (bbear := bbear) (x1 := l1_73) hc91 hlowlibrary) (cwV 1 hts gX2_goOne_X2_strain rfl rfl rfl (by decide +kernel) ⟨Nat.le_of_ble_eq_true rfl, Nat.le_of_ble_eq_true rfl⟩) [0, 1] rfl (by decide) 2 rfl rfl rfl rfl hl rfl (Nat.le_of_ble_eq_true rfl) dX2_goOne_91 ⟨Nat.zero_le _, Nat.zero_le _⟩ rfl rfl rfl (fun H locs hP hD hS => ?_)
                      refine lv_iinc (v := l1_73 + 1) (lv' := [(1, .int (l1_73 + 1)), (0, .ref w_o)]) hx hb dX2_goOne_94 hl (k := 1) rfl rfl (by decide) rfl (fun ls hl => ?_)
                      refine lv_goto (tgt := 73) hx hb dX2_goOne_97 (by decide) ?_
                      exact ih73 (l1_73 + 1) wplace_91 wfirst_91 wsecond_91 wdrops_91 hm _ _ hP hD hS _ (lv_sub hl [1, 0] rfl)
              exact hL73 _ _ _ _ _ _ hm _ _ hP hD hS _ (lv_sub hl [1, 0] rfl)
            · replace hm := it_f c34 hm
              refine lv_aload_n hx hb dX2_goOne_37 rfl (lv_at hl 0 rfl) ?_
              refine va_get (D := (dC, dI)) (ci := 2) (v := .ref w_place) (C := RX2) (T := TX2) (N := 14) hx hb hts hinX2_goOne_X2 hown hK hP 0 rfl rfl 3 (by decide) (hts _ (List.mem_of_getElem? (i := 3) rfl)) (fun _ h9 => h9) rfl dX2_goOne_38 ?_
              refine lv_iload_n hx hb dX2_goOne_41 rfl (lv_at hl 1 rfl) ?_
              refine lv_iconst (v := 0) hx hb dX2_goOne_42 (by decide) ?_
              refine lv_bipush (v := 99) hx hb dX2_goOne_43 (by decide) ?_
              refine lv_aload_n hx hb dX2_goOne_45 rfl (lv_at hl 0 rfl) ?_
              refine va_get (D := (dC, dI)) (ci := 2) (v := .ref w_place) (C := RX2) (T := TX2) (N := 14) hx hb hts hinX2_goOne_X2 hown hK hP 0 rfl rfl 3 (by decide) (hts _ (List.mem_of_getElem? (i := 3) rfl)) (fun _ h9 => h9) rfl dX2_goOne_46 ?_
              refine lv_iload_n hx hb dX2_goOne_49 rfl (lv_at hl 1 rfl) ?_
              obtain ⟨hg50, hm⟩ := gd_e hm
              refine k_iald (D := (dC, dI)) hx hb hK hP 3 1 rfl rfl (k := l1_29.toNatClampNeg) rfl hg50 dX2_goOne_50 ?_
              refine lv_aload_n hx hb dX2_goOne_51 rfl (lv_at hl 0 rfl) ?_
              refine va_get (D := (dC, dI)) (ci := 2) (v := .ref w_drifts) (C := RX2) (T := TX2) (N := 14) hx hb hts hinX2_goOne_X2 hown hK hP 0 rfl rfl 12 (by decide) (hts _ (List.mem_of_getElem? (i := 2) rfl)) (fun _ h9 => h9) rfl dX2_goOne_52 ?_
              refine lv_iload_n hx hb dX2_goOne_55 rfl (lv_at hl 1 rfl) ?_
              obtain ⟨hg56, hm⟩ := gd_e hm
              refine k_iald (D := (dC, dI)) hx hb hK hP 8 1 rfl rfl (k := l1_29.toNatClampNeg) rfl hg56 dX2_goOne_56 ?_
              refine lv_iadd hx hb dX2_goOne_57 ?_
              refine va_mmin hx hb (hml.trans hl.1.symm) hown (hts _ (List.mem_of_getElem? (i := 4) rfl)) (hts _ (List.mem_of_getElem? (i := 5) rfl)) (hts _ (List.mem_of_getElem? (i := 6) rfl)) (hts _ (List.mem_of_getElem? (i := 7) rfl)) (Nat.le_of_ble_eq_true rfl) (Nat.le_of_ble_eq_true rfl) (Nat.zero_le _) (Nat.zero_le _) dX2_goOne_58 ?_
              refine va_mmax hx hb (hml.trans hl.1.symm) hown (hts _ (List.mem_of_getElem? (i := 8) rfl)) (hts _ (List.mem_of_getElem? (i := 9) rfl)) (hts _ (List.mem_of_getElem? (i := 6) rfl)) (hts _ (List.mem_of_getElem? (i := 10) rfl)) (Nat.le_of_ble_eq_true rfl) (Nat.le_of_ble_eq_true rfl) (Nat.zero_le _) (Nat.zero_le _) dX2_goOne_61 ?_
              obtain ⟨hg64, hm⟩ := gd_e hm
              refine k_iast (D := (dC, dI)) hx hb hK hP hD hS 3 1 rfl rfl (k := l1_29.toNatClampNeg) rfl hg64 dX2_goOne_64 (fun H locs hP hD hS => ?_)
              have hP : va_P (dC, dI) vwCl (fl [wdX2 kc w_o w_kind w_v w_place w_rows w_length w_first w_second w_drifts w_traits wpeople wkind wv (upd wplace_29 (l1_29.toNatClampNeg) (jmax 0 (jmin 99 ((wplace_29 (l1_29.toNatClampNeg)) + (wdrifts_2 (l1_29.toNatClampNeg)))))) wrows wleaves wlength wfirst wsecond wdrops wstep wlibrary wdrifts_2 wtraits_2, wdX3 kc b_o b_sorts b_letters b_numbers bsorts bletters bnumbers bsize bbear]) H := hP
              have hD : va_D A (fl [wdX2 kc w_o w_kind w_v w_place w_rows w_length w_first w_second w_drifts w_traits wpeople wkind wv (upd wplace_29 (l1_29.toNatClampNeg) (jmax 0 (jmin 99 ((wplace_29 (l1_29.toNatClampNeg)) + (wdrifts_2 (l1_29.toNatClampNeg)))))) wrows wleaves wlength wfirst wsecond wdrops wstep wlibrary wdrifts_2 wtraits_2, wdX3 kc b_o b_sorts b_letters b_numbers bsorts bletters bnumbers bsize bbear]) := hD
              refine lv_iinc (v := l1_29 + 1) (lv' := [(1, .int (l1_29 + 1)), (0, .ref w_o)]) hx hb dX2_goOne_65 hl (k := 1) rfl rfl (by decide) rfl (fun ls hl => ?_)
              refine lv_goto (tgt := 29) hx hb dX2_goOne_68 (by decide) ?_
              exact ih29 (l1_29 + 1) (upd wplace_29 (l1_29.toNatClampNeg) (jmax 0 (jmin 99 ((wplace_29 (l1_29.toNatClampNeg)) + (wdrifts_2 (l1_29.toNatClampNeg)))))) hm _ _ hP hD hS _ (lv_sub hl [1, 0] rfl)
        exact hL29 _ _ _ hm _ _ hP hD hS _ (lv_sub hl [1, 0] rfl)
      · replace hm := it_f c7 hm
        refine lv_aload_n hx hb dX2_goOne_10 rfl (lv_at hl 0 rfl) ?_
        refine va_get (D := (dC, dI)) (ci := 2) (v := .ref w_drifts) (C := RX2) (T := TX2) (N := 14) hx hb hts hinX2_goOne_X2 hown hK hP 0 rfl rfl 12 (by decide) (hts _ (List.mem_of_getElem? (i := 2) rfl)) (fun _ h9 => h9) rfl dX2_goOne_11 ?_
        refine lv_iload_n hx hb dX2_goOne_14 rfl (lv_at hl 1 rfl) ?_
        refine lv_aload_n hx hb dX2_goOne_15 rfl (lv_at hl 0 rfl) ?_
        refine lv_iload_n hx hb dX2_goOne_16 rfl (lv_at hl 1 rfl) ?_
        obtain ⟨r17, wtraits_17, hc17, hm⟩ := bd2_e hm
        refine k_callGVi (dC := dC) (dI := dI) (kc := kc) (As := [.int l1_2]) (rest := [.int l1_2, .ref w_drifts]) (Gs' := [wdX2 kc w_o w_kind w_v w_place w_rows w_length w_first w_second w_drifts w_traits wpeople wkind wv wplace wrows wleaves wlength wfirst wsecond wdrops wstep wlibrary wdrifts_2 wtraits_17, wdX3 kc b_o b_sorts b_letters b_numbers bsorts bletters bnumbers bsize bbear]) hx hb hml hown hts hK hP hD hS hA (ctX2_driftOf (w_o := w_o) (w_kind := w_kind) (w_v := w_v) (w_place := w_place) (w_rows := w_rows) (w_length := w_length) (w_first := w_first) (w_second := w_second) (w_drifts := w_drifts) (w_traits := w_traits) (b_o := b_o) (b_sorts := b_sorts) (b_letters := b_letters) (b_numbers := b_numbers) (wpeople := wpeople) (wkind := wkind) (wv := wv) (wplace := wplace) (wrows := wrows) (wleaves := wleaves) (wlength := wlength) (wfirst := wfirst) (wsecond := wsecond) (wdrops := wdrops) (wstep := wstep) (wlibrary := wlibrary) (wdrifts := wdrifts_2) (wtraits := wtraits_2) (bsorts := bsorts) (bletters := bletters) (bnumbers := bnumbers) (bsize := bsize) (bbear := bbear) (x1 := l1_2) hc17 hlowlibrary) (cwV 1 hts gX2_goOne_X2_driftOf rfl rfl rfl (by decide +kernel) ⟨Nat.le_of_ble_eq_true rfl, Nat.le_of_ble_eq_true rfl⟩) [0, 1] rfl (by decide) 2 rfl rfl rfl rfl hl rfl (Nat.le_of_ble_eq_true rfl) dX2_goOne_17 ⟨Nat.zero_le _, Nat.zero_le _⟩ rfl rfl rfl (fun H locs hP hD hS => ?_)
        obtain ⟨hg20, hm⟩ := gd_e hm
        refine k_iast (D := (dC, dI)) hx hb hK hP hD hS 8 1 rfl rfl (k := l1_2.toNatClampNeg) rfl hg20 dX2_goOne_20 (fun H locs hP hD hS => ?_)
        have hP : va_P (dC, dI) vwCl (fl [wdX2 kc w_o w_kind w_v w_place w_rows w_length w_first w_second w_drifts w_traits wpeople wkind wv wplace wrows wleaves wlength wfirst wsecond wdrops wstep wlibrary (upd wdrifts_2 (l1_2.toNatClampNeg) r17) wtraits_17, wdX3 kc b_o b_sorts b_letters b_numbers bsorts bletters bnumbers bsize bbear]) H := hP
        have hD : va_D A (fl [wdX2 kc w_o w_kind w_v w_place w_rows w_length w_first w_second w_drifts w_traits wpeople wkind wv wplace wrows wleaves wlength wfirst wsecond wdrops wstep wlibrary (upd wdrifts_2 (l1_2.toNatClampNeg) r17) wtraits_17, wdX3 kc b_o b_sorts b_letters b_numbers bsorts bletters bnumbers bsize bbear]) := hD
        refine lv_iinc (v := l1_2 + 1) (lv' := [(1, .int (l1_2 + 1)), (0, .ref w_o)]) hx hb dX2_goOne_21 hl (k := 1) rfl rfl (by decide) rfl (fun ls hl => ?_)
        refine lv_goto (tgt := 2) hx hb dX2_goOne_24 (by decide) ?_
        exact ih2 (l1_2 + 1) (upd wdrifts_2 (l1_2.toNatClampNeg) r17) wtraits_17 hm _ _ hP hD hS _ (lv_sub hl [1, 0] rfl)
  exact hL2 _ _ _ _ hm _ _ hP hD hS _ (lv_sub hl [1, 0] rfl)
def LX2_goOn_2 (fu : Nat) (wpeople : Int32) (wkind : Nat → Int32) (wv : Nat → Int32) (wrows : Nat → Int32) (wleaves : Int32) (wlength : Nat → Int32) (wlibrary : Option Nat) (bsorts : Nat → Int32) (bletters : Nat → Int32) (bnumbers : Nat → Int32) (bsize : Int32) (bbear : Int32) (x1 : Int32) : Nat → Int32 → (Nat → Int32) → (Nat → Int32) → (Nat → Int32) → Int32 → Int32 → (Nat → Int32) → (Nat → Int32) → Option ((Nat → Int32) × (Nat → Int32) × (Nat → Int32) × Int32 × Int32 × (Nat → Int32) × (Nat → Int32))
  | 0, _, _, _, _, _, _, _, _ => none
  | n2 + 1, l2_2, wplace_2, wfirst_2, wsecond_2, wdrops_2, wstep_2, wdrifts_2, wtraits_2 => if x1 ≤ l2_2 then (some (wplace_2, wfirst_2, wsecond_2, wdrops_2, wstep_2, wdrifts_2, wtraits_2)) else (bd7 (fX2_goOne fu wpeople wkind wv wplace_2 wrows wleaves wlength wfirst_2 wsecond_2 wdrops_2 wstep_2 wlibrary wdrifts_2 wtraits_2 bsorts bletters bnumbers bsize bbear) (fun wplace_8 wfirst_8 wsecond_8 wdrops_8 wstep_8 wdrifts_8 wtraits_8 => LX2_goOn_2 fu wpeople wkind wv wrows wleaves wlength wlibrary bsorts bletters bnumbers bsize bbear x1 n2 (l2_2 + 1) wplace_8 wfirst_8 wsecond_8 wdrops_8 wstep_8 wdrifts_8 wtraits_8))
def fX2_goOn (fu : Nat) (wpeople : Int32) (wkind : Nat → Int32) (wv : Nat → Int32) (wplace : Nat → Int32) (wrows : Nat → Int32) (wleaves : Int32) (wlength : Nat → Int32) (wfirst : Nat → Int32) (wsecond : Nat → Int32) (wdrops : Int32) (wstep : Int32) (wlibrary : Option Nat) (wdrifts : Nat → Int32) (wtraits : Nat → Int32) (bsorts : Nat → Int32) (bletters : Nat → Int32) (bnumbers : Nat → Int32) (bsize : Int32) (bbear : Int32) (x1 : Int32) : Option ((Nat → Int32) × (Nat → Int32) × (Nat → Int32) × Int32 × Int32 × (Nat → Int32) × (Nat → Int32)) := LX2_goOn_2 fu wpeople wkind wv wrows wleaves wlength wlibrary bsorts bletters bnumbers bsize bbear x1 fu 0 wplace wfirst wsecond wdrops wstep wdrifts wtraits
abbrev rmX2_goOn : Room := { frames := 4, cells := 0, slots := 0, locals := 102 }
set_option maxHeartbeats 4000000 in
set_option maxRecDepth 100000 in
theorem ctX2_goOn {l : Launch} {dC : Nat → ClassId} {dI : Nat → Nat → Nat} {kc : Nat → ClassId} {w_o w_kind w_v w_place w_rows w_length w_first w_second w_drifts w_traits b_o b_sorts b_letters b_numbers : Nat} {wpeople : Int32} {wkind : Nat → Int32} {wv : Nat → Int32} {wplace : Nat → Int32} {wrows : Nat → Int32} {wleaves : Int32} {wlength : Nat → Int32} {wfirst : Nat → Int32} {wsecond : Nat → Int32} {wdrops : Int32} {wstep : Int32} {wlibrary : Option Nat} {wdrifts : Nat → Int32} {wtraits : Nat → Int32} {bsorts : Nat → Int32} {bletters : Nat → Int32} {bnumbers : Nat → Int32} {bsize : Int32} {bbear : Int32} {x1 : Int32} {fu : Nat} {wplace' : Nat → Int32} {wfirst' : Nat → Int32} {wsecond' : Nat → Int32} {wdrops' : Int32} {wstep' : Int32} {wdrifts' : Nat → Int32} {wtraits' : Nat → Int32} (hm : fX2_goOn fu wpeople wkind wv wplace wrows wleaves wlength wfirst wsecond wdrops wstep wlibrary wdrifts wtraits bsorts bletters bnumbers bsize bbear x1 = some (wplace', wfirst', wsecond', wdrops', wstep', wdrifts', wtraits')) (hlowlibrary : ∀ q : Nat, wlibrary = some q → q = b_o) : ∀ sz : Nat, Met l yX2_goOn wsX2_goOn rmX2_goOn (kPc dC dI kc [.ref w_o, .int x1] (fl [wdX2 kc w_o w_kind w_v w_place w_rows w_length w_first w_second w_drifts w_traits wpeople wkind wv wplace wrows wleaves wlength wfirst wsecond wdrops wstep wlibrary wdrifts wtraits, wdX3 kc b_o b_sorts b_letters b_numbers bsorts bletters bnumbers bsize bbear]) sz) (kQv dC dI (fl [wdX2 kc w_o w_kind w_v w_place w_rows w_length w_first w_second w_drifts w_traits wpeople wkind wv wplace' wrows wleaves wlength wfirst' wsecond' wdrops' wstep' wlibrary wdrifts' wtraits', wdX3 kc b_o b_sorts b_letters b_numbers bsorts bletters bnumbers bsize bbear]) (va_A (fl [wdX2 kc w_o w_kind w_v w_place w_rows w_length w_first w_second w_drifts w_traits wpeople wkind wv wplace wrows wleaves wlength wfirst wsecond wdrops wstep wlibrary wdrifts wtraits, wdX3 kc b_o b_sorts b_letters b_numbers bsorts bletters bnumbers bsize bbear]) sz)) 0 0 (va_A (fl [wdX2 kc w_o w_kind w_v w_place w_rows w_length w_first w_second w_drifts w_traits wpeople wkind wv wplace wrows wleaves wlength wfirst wsecond wdrops wstep wlibrary wdrifts wtraits, wdX3 kc b_o b_sorts b_letters b_numbers bsorts bletters bnumbers bsize bbear]) sz) := by
  intro sz
  refine kMet (cc := cX2_goOn) (maxL := 3) (ret := none) (Qf := fun A => kQv dC dI (fl [wdX2 kc w_o w_kind w_v w_place w_rows w_length w_first w_second w_drifts w_traits wpeople wkind wv wplace' wrows wleaves wlength wfirst' wsecond' wdrops' wstep' wlibrary wdrifts' wtraits', wdX3 kc b_o b_sorts b_letters b_numbers bsorts bletters bnumbers bsize bbear]) A) (by decide) rfl (Nat.le_of_ble_eq_true rfl) ?_
  intro p e s m below meth c A ls hx hb hr hml hts hown hlocks hname hsz hA hP hK hD hl
  have hS : va_S A s.heap s.heap [] := va_S.rf
  have hl : lv_has ls 3 [(0, .ref w_o), (1, .int x1)] := hl
  unfold fX2_goOn at hm
  refine lv_iconst (v := 0) hx hb dX2_goOn_0 (by decide) ?_
  refine lv_istore_n (lv' := [(2, .int 0), (0, .ref w_o), (1, .int x1)]) hx hb dX2_goOn_1 rfl hl (by decide) rfl (fun ls hl => ?_)
  have hL2 : ∀ (fn : Nat) (l2_2 : Int32) (wplace_2 : Nat → Int32) (wfirst_2 : Nat → Int32) (wsecond_2 : Nat → Int32) (wdrops_2 : Int32) (wstep_2 : Int32) (wdrifts_2 : Nat → Int32) (wtraits_2 : Nat → Int32), LX2_goOn_2 fu wpeople wkind wv wrows wleaves wlength wlibrary bsorts bletters bnumbers bsize bbear x1 fn l2_2 wplace_2 wfirst_2 wsecond_2 wdrops_2 wstep_2 wdrifts_2 wtraits_2 = some (wplace', wfirst', wsecond', wdrops', wstep', wdrifts', wtraits') → ∀ (H : Heap) (locs : List Loc), va_P (dC, dI) vwCl (fl [wdX2 kc w_o w_kind w_v w_place w_rows w_length w_first w_second w_drifts w_traits wpeople wkind wv wplace_2 wrows wleaves wlength wfirst_2 wsecond_2 wdrops_2 wstep_2 wlibrary wdrifts_2 wtraits_2, wdX3 kc b_o b_sorts b_letters b_numbers bsorts bletters bnumbers bsize bbear]) H → va_D A (fl [wdX2 kc w_o w_kind w_v w_place w_rows w_length w_first w_second w_drifts w_traits wpeople wkind wv wplace_2 wrows wleaves wlength wfirst_2 wsecond_2 wdrops_2 wstep_2 wlibrary wdrifts_2 wtraits_2, wdX3 kc b_o b_sorts b_letters b_numbers bsorts bletters bnumbers bsize bbear]) → va_S A s.heap H locs → ∀ ls : Array Slot, lv_has ls 3 [(0, .ref w_o), (1, .int x1), (2, .int l2_2)] → W p l e (headSpec wsX2_goOn rmX2_goOn).room s m [.ref w_o, .int x1].toArray below meth c H locs 0 0 (MQ below (kQv dC dI (fl [wdX2 kc w_o w_kind w_v w_place w_rows w_length w_first w_second w_drifts w_traits wpeople wkind wv wplace' wrows wleaves wlength wfirst' wsecond' wdrops' wstep' wlibrary wdrifts' wtraits', wdX3 kc b_o b_sorts b_letters b_numbers bsorts bletters bnumbers bsize bbear]) A) [.ref w_o, .int x1].toArray s 0 0 A) (F0 m 2 ls []) := by
    clear hm hP hD hS hl
    intro n2
    induction n2 with
    | zero => intro l2_2 wplace_2 wfirst_2 wsecond_2 wdrops_2 wstep_2 wdrifts_2 wtraits_2 hm; rw [LX2_goOn_2] at hm; cases hm
    | succ n2 ih2 =>
      intro l2_2 wplace_2 wfirst_2 wsecond_2 wdrops_2 wstep_2 wdrifts_2 wtraits_2 hm H locs hP hD hS ls hl
      rw [LX2_goOn_2] at hm
      refine lv_iload_n hx hb dX2_goOn_2 rfl (lv_at hl 2 rfl) ?_
      refine lv_iload_n hx hb dX2_goOn_3 rfl (lv_at hl 1 rfl) ?_
      refine lv_icmp_ge (tgt := 17) hx hb dX2_goOn_4 (by decide) (fun c4 => ?_) (fun c4 => ?_)
      · replace hm := it_t c4 hm
        cases hm
        exact k_vret hx hb hr hlocks hP hS dX2_goOn_17
      · replace hm := it_f c4 hm
        refine lv_aload_n hx hb dX2_goOn_7 rfl (lv_at hl 0 rfl) ?_
        obtain ⟨wplace_8, wfirst_8, wsecond_8, wdrops_8, wstep_8, wdrifts_8, wtraits_8, hc8, hm⟩ := bd7_e hm
        refine k_callGVv (dC := dC) (dI := dI) (kc := kc) (As := []) (rest := []) (Gs' := [wdX2 kc w_o w_kind w_v w_place w_rows w_length w_first w_second w_drifts w_traits wpeople wkind wv wplace_8 wrows wleaves wlength wfirst_8 wsecond_8 wdrops_8 wstep_8 wlibrary wdrifts_8 wtraits_8, wdX3 kc b_o b_sorts b_letters b_numbers bsorts bletters bnumbers bsize bbear]) hx hb hml hown hts hK hP hD hS hA (ctX2_goOne (w_o := w_o) (w_kind := w_kind) (w_v := w_v) (w_place := w_place) (w_rows := w_rows) (w_length := w_length) (w_first := w_first) (w_second := w_second) (w_drifts := w_drifts) (w_traits := w_traits) (b_o := b_o) (b_sorts := b_sorts) (b_letters := b_letters) (b_numbers := b_numbers) (wpeople := wpeople) (wkind := wkind) (wv := wv) (wplace := wplace_2) (wrows := wrows) (wleaves := wleaves) (wlength := wlength) (wfirst := wfirst_2) (wsecond := wsecond_2) (wdrops := wdrops_2) (wstep := wstep_2) (wlibrary := wlibrary) (wdrifts := wdrifts_2) (wtraits := wtraits_2) (bsorts := bsorts) (bletters := bletters) (bnumbers := bnumbers) (bsize := bsize) (bbear := bbear) hc8 hlowlibrary) (cwV 0 hts gX2_goOn_X2_goOne rfl rfl rfl (by decide +kernel) ⟨Nat.le_of_ble_eq_true rfl, Nat.le_of_ble_eq_true rfl⟩) [0, 1] rfl (by decide) 2 rfl rfl rfl rfl hl rfl (Nat.le_of_ble_eq_true rfl) dX2_goOn_8 ⟨Nat.zero_le _, Nat.zero_le _⟩ rfl rfl rfl (fun H locs hP hD hS => ?_)
        refine lv_iinc (v := l2_2 + 1) (lv' := [(2, .int (l2_2 + 1)), (0, .ref w_o), (1, .int x1)]) hx hb dX2_goOn_11 hl (k := 2) rfl rfl (by decide) rfl (fun ls hl => ?_)
        refine lv_goto (tgt := 2) hx hb dX2_goOn_14 (by decide) ?_
        exact ih2 (l2_2 + 1) wplace_8 wfirst_8 wsecond_8 wdrops_8 wstep_8 wdrifts_8 wtraits_8 hm _ _ hP hD hS _ (lv_sub hl [1, 2, 0] rfl)
  exact hL2 _ _ _ _ _ _ _ _ _ hm _ _ hP hD hS _ (lv_sub hl [1, 2, 0] rfl)
def fX2_become (wpeople : Int32) (wkind : Nat → Int32) (wv : Nat → Int32) (wplace : Nat → Int32) (wrows : Nat → Int32) (wleaves : Int32) (wlength : Nat → Int32) (wfirst : Nat → Int32) (wsecond : Nat → Int32) (wdrops : Int32) (wstep : Int32) (wlibrary : Option Nat) (kpeople : Int32) (kkind : Nat → Int32) (kv : Nat → Int32) (kplace : Nat → Int32) (krows : Nat → Int32) (kleaves : Int32) (klength : Nat → Int32) (kfirst : Nat → Int32) (ksecond : Nat → Int32) (kdrops : Int32) (kstep : Int32) (klibrary : Option Nat) : Option (Int32 × (Nat → Int32) × (Nat → Int32) × (Nat → Int32) × (Nat → Int32) × Int32 × (Nat → Int32) × (Nat → Int32) × (Nat → Int32) × Int32 × Int32 × Option Nat) := some (kpeople, va_cpy kkind wkind 0 0 6, va_cpy kv wv 0 0 6, va_cpy kplace wplace 0 0 6, va_cpy krows wrows 0 0 24, kleaves, va_cpy klength wlength 0 0 4, va_cpy kfirst wfirst 0 0 4, va_cpy ksecond wsecond 0 0 4, kdrops, kstep, klibrary)
theorem hinX2_become_X2 : ∀ w ∈ u_ws RX2 TX2 14, w ∈ wsX2_become := fun _ h => List.mem_cons_of_mem _ (List.mem_append_right _ h)
abbrev rmX2_become : Room := { frames := 1, cells := 0, slots := 0, locals := 30 }
set_option maxHeartbeats 4000000 in
set_option maxRecDepth 100000 in
theorem ctX2_become {l : Launch} {dC : Nat → ClassId} {dI : Nat → Nat → Nat} {kc : Nat → ClassId} {w_o w_kind w_v w_place w_rows w_length w_first w_second w_drifts w_traits k_o k_kind k_v k_place k_rows k_length k_first k_second k_drifts k_traits : Nat} {wpeople : Int32} {wkind : Nat → Int32} {wv : Nat → Int32} {wplace : Nat → Int32} {wrows : Nat → Int32} {wleaves : Int32} {wlength : Nat → Int32} {wfirst : Nat → Int32} {wsecond : Nat → Int32} {wdrops : Int32} {wstep : Int32} {wlibrary : Option Nat} {wdrifts : Nat → Int32} {wtraits : Nat → Int32} {kpeople : Int32} {kkind : Nat → Int32} {kv : Nat → Int32} {kplace : Nat → Int32} {krows : Nat → Int32} {kleaves : Int32} {klength : Nat → Int32} {kfirst : Nat → Int32} {ksecond : Nat → Int32} {kdrops : Int32} {kstep : Int32} {klibrary : Option Nat} {kdrifts : Nat → Int32} {ktraits : Nat → Int32} {wpeople' : Int32} {wkind' : Nat → Int32} {wv' : Nat → Int32} {wplace' : Nat → Int32} {wrows' : Nat → Int32} {wleaves' : Int32} {wlength' : Nat → Int32} {wfirst' : Nat → Int32} {wsecond' : Nat → Int32} {wdrops' : Int32} {wstep' : Int32} {wlibrary' : Option Nat} (hm : fX2_become wpeople wkind wv wplace wrows wleaves wlength wfirst wsecond wdrops wstep wlibrary kpeople kkind kv kplace krows kleaves klength kfirst ksecond kdrops kstep klibrary = some (wpeople', wkind', wv', wplace', wrows', wleaves', wlength', wfirst', wsecond', wdrops', wstep', wlibrary')) : ∀ sz : Nat, Met l yX2_become wsX2_become rmX2_become (kPc dC dI kc [.ref w_o, .ref k_o] (fl [wdX2 kc w_o w_kind w_v w_place w_rows w_length w_first w_second w_drifts w_traits wpeople wkind wv wplace wrows wleaves wlength wfirst wsecond wdrops wstep wlibrary wdrifts wtraits, wdX2 kc k_o k_kind k_v k_place k_rows k_length k_first k_second k_drifts k_traits kpeople kkind kv kplace krows kleaves klength kfirst ksecond kdrops kstep klibrary kdrifts ktraits]) sz) (kQv dC dI (fl [wdX2 kc w_o w_kind w_v w_place w_rows w_length w_first w_second w_drifts w_traits wpeople' wkind' wv' wplace' wrows' wleaves' wlength' wfirst' wsecond' wdrops' wstep' wlibrary' wdrifts wtraits, wdX2 kc k_o k_kind k_v k_place k_rows k_length k_first k_second k_drifts k_traits kpeople kkind kv kplace krows kleaves klength kfirst ksecond kdrops kstep klibrary kdrifts ktraits]) (va_A (fl [wdX2 kc w_o w_kind w_v w_place w_rows w_length w_first w_second w_drifts w_traits wpeople wkind wv wplace wrows wleaves wlength wfirst wsecond wdrops wstep wlibrary wdrifts wtraits, wdX2 kc k_o k_kind k_v k_place k_rows k_length k_first k_second k_drifts k_traits kpeople kkind kv kplace krows kleaves klength kfirst ksecond kdrops kstep klibrary kdrifts ktraits]) sz)) 0 0 (va_A (fl [wdX2 kc w_o w_kind w_v w_place w_rows w_length w_first w_second w_drifts w_traits wpeople wkind wv wplace wrows wleaves wlength wfirst wsecond wdrops wstep wlibrary wdrifts wtraits, wdX2 kc k_o k_kind k_v k_place k_rows k_length k_first k_second k_drifts k_traits kpeople kkind kv kplace krows kleaves klength kfirst ksecond kdrops kstep klibrary kdrifts ktraits]) sz) := by
  intro sz
  refine kMet (cc := cX2_become) (maxL := 2) (ret := none) (Qf := fun A => kQv dC dI (fl [wdX2 kc w_o w_kind w_v w_place w_rows w_length w_first w_second w_drifts w_traits wpeople' wkind' wv' wplace' wrows' wleaves' wlength' wfirst' wsecond' wdrops' wstep' wlibrary' wdrifts wtraits, wdX2 kc k_o k_kind k_v k_place k_rows k_length k_first k_second k_drifts k_traits kpeople kkind kv kplace krows kleaves klength kfirst ksecond kdrops kstep klibrary kdrifts ktraits]) A) (by decide) rfl (Nat.le_of_ble_eq_true rfl) ?_
  intro p e s m below meth c A ls hx hb hr hml hts hown hlocks hname hsz hA hP hK hD hl
  have hS : va_S A s.heap s.heap [] := va_S.rf
  have hl : lv_has ls 2 [(0, .ref w_o), (1, .ref k_o)] := hl
  unfold fX2_become at hm
  refine lv_aload_n hx hb dX2_become_0 rfl (lv_at hl 0 rfl) ?_
  refine lv_aload_n hx hb dX2_become_1 rfl (lv_at hl 1 rfl) ?_
  refine va_get (D := (dC, dI)) (ci := 2) (v := .int kpeople) (C := RX2) (T := TX2) (N := 14) hx hb hts hinX2_become_X2 hown hK hP 10 rfl rfl 0 (by decide) (hts _ (List.mem_of_getElem? (i := 1) rfl)) (fun _ h9 => h9) rfl dX2_become_2 ?_
  refine va_put (D := (dC, dI)) (ci := 2) (v := .int kpeople) (ty := .int) (C := RX2) (T := TX2) (N := 14) hx hb hts hinX2_become_X2 tyX2 tyX2_ok nmX2 hown hK hP hD hS 0 rfl rfl 0 (by decide) (hts _ (List.mem_of_getElem? (i := 1) rfl)) (fun _ h9 => h9) rfl (by decide +kernel) rfl rfl (Nat.le_of_ble_eq_true rfl) dX2_become_5 (fun H locs hP hD hS => ?_)
  have hP : va_P (dC, dI) vwCl (fl [wdX2 kc w_o w_kind w_v w_place w_rows w_length w_first w_second w_drifts w_traits kpeople wkind wv wplace wrows wleaves wlength wfirst wsecond wdrops wstep wlibrary wdrifts wtraits, wdX2 kc k_o k_kind k_v k_place k_rows k_length k_first k_second k_drifts k_traits kpeople kkind kv kplace krows kleaves klength kfirst ksecond kdrops kstep klibrary kdrifts ktraits]) H := hP
  have hD : va_D A (fl [wdX2 kc w_o w_kind w_v w_place w_rows w_length w_first w_second w_drifts w_traits kpeople wkind wv wplace wrows wleaves wlength wfirst wsecond wdrops wstep wlibrary wdrifts wtraits, wdX2 kc k_o k_kind k_v k_place k_rows k_length k_first k_second k_drifts k_traits kpeople kkind kv kplace krows kleaves klength kfirst ksecond kdrops kstep klibrary kdrifts ktraits]) := hD
  refine lv_aload_n hx hb dX2_become_8 rfl (lv_at hl 1 rfl) ?_
  refine va_get (D := (dC, dI)) (ci := 2) (v := .ref k_kind) (C := RX2) (T := TX2) (N := 14) hx hb hts hinX2_become_X2 hown hK hP 10 rfl rfl 1 (by decide) (hts _ (List.mem_of_getElem? (i := 2) rfl)) (fun _ h9 => h9) rfl dX2_become_9 ?_
  refine lv_iconst (v := 0) hx hb dX2_become_12 (by decide) ?_
  refine lv_aload_n hx hb dX2_become_13 rfl (lv_at hl 0 rfl) ?_
  refine va_get (D := (dC, dI)) (ci := 2) (v := .ref w_kind) (C := RX2) (T := TX2) (N := 14) hx hb hts hinX2_become_X2 hown hK hP 0 rfl rfl 1 (by decide) (hts _ (List.mem_of_getElem? (i := 2) rfl)) (fun _ h9 => h9) rfl dX2_become_14 ?_
  refine lv_iconst (v := 0) hx hb dX2_become_17 (by decide) ?_
  refine lv_bipush (v := 6) hx hb dX2_become_18 (by decide) ?_
  refine va_copyi (D := (dC, dI)) (ty := .int) hx hb (hml.trans hl.1.symm) hown (hts _ (List.mem_of_getElem? (i := 3) rfl)) (hts _ (List.mem_of_getElem? (i := 4) rfl)) (hts _ (List.mem_of_getElem? (i := 5) rfl)) (hts _ (List.mem_of_getElem? (i := 6) rfl)) hK hP hD hS 11 1 1 1 rfl rfl rfl rfl rfl (by decide) (by decide) (by decide) (by decide) (by decide) (fun _ _ => rfl) (Nat.le_of_ble_eq_true rfl) (Nat.le_of_ble_eq_true rfl) dX2_become_20 (fun H locs hP hD hS => ?_)
  have hP : va_P (dC, dI) vwCl (fl [wdX2 kc w_o w_kind w_v w_place w_rows w_length w_first w_second w_drifts w_traits kpeople (va_cpy kkind wkind 0 0 6) wv wplace wrows wleaves wlength wfirst wsecond wdrops wstep wlibrary wdrifts wtraits, wdX2 kc k_o k_kind k_v k_place k_rows k_length k_first k_second k_drifts k_traits kpeople kkind kv kplace krows kleaves klength kfirst ksecond kdrops kstep klibrary kdrifts ktraits]) H := hP
  have hD : va_D A (fl [wdX2 kc w_o w_kind w_v w_place w_rows w_length w_first w_second w_drifts w_traits kpeople (va_cpy kkind wkind 0 0 6) wv wplace wrows wleaves wlength wfirst wsecond wdrops wstep wlibrary wdrifts wtraits, wdX2 kc k_o k_kind k_v k_place k_rows k_length k_first k_second k_drifts k_traits kpeople kkind kv kplace krows kleaves klength kfirst ksecond kdrops kstep klibrary kdrifts ktraits]) := hD
  refine lv_aload_n hx hb dX2_become_23 rfl (lv_at hl 1 rfl) ?_
  refine va_get (D := (dC, dI)) (ci := 2) (v := .ref k_v) (C := RX2) (T := TX2) (N := 14) hx hb hts hinX2_become_X2 hown hK hP 10 rfl rfl 2 (by decide) (hts _ (List.mem_of_getElem? (i := 7) rfl)) (fun _ h9 => h9) rfl dX2_become_24 ?_
  refine lv_iconst (v := 0) hx hb dX2_become_27 (by decide) ?_
  refine lv_aload_n hx hb dX2_become_28 rfl (lv_at hl 0 rfl) ?_
  refine va_get (D := (dC, dI)) (ci := 2) (v := .ref w_v) (C := RX2) (T := TX2) (N := 14) hx hb hts hinX2_become_X2 hown hK hP 0 rfl rfl 2 (by decide) (hts _ (List.mem_of_getElem? (i := 7) rfl)) (fun _ h9 => h9) rfl dX2_become_29 ?_
  refine lv_iconst (v := 0) hx hb dX2_become_32 (by decide) ?_
  refine lv_bipush (v := 6) hx hb dX2_become_33 (by decide) ?_
  refine va_copyi (D := (dC, dI)) (ty := .int) hx hb (hml.trans hl.1.symm) hown (hts _ (List.mem_of_getElem? (i := 3) rfl)) (hts _ (List.mem_of_getElem? (i := 4) rfl)) (hts _ (List.mem_of_getElem? (i := 5) rfl)) (hts _ (List.mem_of_getElem? (i := 6) rfl)) hK hP hD hS 12 2 1 1 rfl rfl rfl rfl rfl (by decide) (by decide) (by decide) (by decide) (by decide) (fun _ _ => rfl) (Nat.le_of_ble_eq_true rfl) (Nat.le_of_ble_eq_true rfl) dX2_become_35 (fun H locs hP hD hS => ?_)
  have hP : va_P (dC, dI) vwCl (fl [wdX2 kc w_o w_kind w_v w_place w_rows w_length w_first w_second w_drifts w_traits kpeople (va_cpy kkind wkind 0 0 6) (va_cpy kv wv 0 0 6) wplace wrows wleaves wlength wfirst wsecond wdrops wstep wlibrary wdrifts wtraits, wdX2 kc k_o k_kind k_v k_place k_rows k_length k_first k_second k_drifts k_traits kpeople kkind kv kplace krows kleaves klength kfirst ksecond kdrops kstep klibrary kdrifts ktraits]) H := hP
  have hD : va_D A (fl [wdX2 kc w_o w_kind w_v w_place w_rows w_length w_first w_second w_drifts w_traits kpeople (va_cpy kkind wkind 0 0 6) (va_cpy kv wv 0 0 6) wplace wrows wleaves wlength wfirst wsecond wdrops wstep wlibrary wdrifts wtraits, wdX2 kc k_o k_kind k_v k_place k_rows k_length k_first k_second k_drifts k_traits kpeople kkind kv kplace krows kleaves klength kfirst ksecond kdrops kstep klibrary kdrifts ktraits]) := hD
  refine lv_aload_n hx hb dX2_become_38 rfl (lv_at hl 1 rfl) ?_
  refine va_get (D := (dC, dI)) (ci := 2) (v := .ref k_place) (C := RX2) (T := TX2) (N := 14) hx hb hts hinX2_become_X2 hown hK hP 10 rfl rfl 3 (by decide) (hts _ (List.mem_of_getElem? (i := 8) rfl)) (fun _ h9 => h9) rfl dX2_become_39 ?_
  refine lv_iconst (v := 0) hx hb dX2_become_42 (by decide) ?_
  refine lv_aload_n hx hb dX2_become_43 rfl (lv_at hl 0 rfl) ?_
  refine va_get (D := (dC, dI)) (ci := 2) (v := .ref w_place) (C := RX2) (T := TX2) (N := 14) hx hb hts hinX2_become_X2 hown hK hP 0 rfl rfl 3 (by decide) (hts _ (List.mem_of_getElem? (i := 8) rfl)) (fun _ h9 => h9) rfl dX2_become_44 ?_
  refine lv_iconst (v := 0) hx hb dX2_become_47 (by decide) ?_
  refine lv_bipush (v := 6) hx hb dX2_become_48 (by decide) ?_
  refine va_copyi (D := (dC, dI)) (ty := .int) hx hb (hml.trans hl.1.symm) hown (hts _ (List.mem_of_getElem? (i := 3) rfl)) (hts _ (List.mem_of_getElem? (i := 4) rfl)) (hts _ (List.mem_of_getElem? (i := 5) rfl)) (hts _ (List.mem_of_getElem? (i := 6) rfl)) hK hP hD hS 13 3 1 1 rfl rfl rfl rfl rfl (by decide) (by decide) (by decide) (by decide) (by decide) (fun _ _ => rfl) (Nat.le_of_ble_eq_true rfl) (Nat.le_of_ble_eq_true rfl) dX2_become_50 (fun H locs hP hD hS => ?_)
  have hP : va_P (dC, dI) vwCl (fl [wdX2 kc w_o w_kind w_v w_place w_rows w_length w_first w_second w_drifts w_traits kpeople (va_cpy kkind wkind 0 0 6) (va_cpy kv wv 0 0 6) (va_cpy kplace wplace 0 0 6) wrows wleaves wlength wfirst wsecond wdrops wstep wlibrary wdrifts wtraits, wdX2 kc k_o k_kind k_v k_place k_rows k_length k_first k_second k_drifts k_traits kpeople kkind kv kplace krows kleaves klength kfirst ksecond kdrops kstep klibrary kdrifts ktraits]) H := hP
  have hD : va_D A (fl [wdX2 kc w_o w_kind w_v w_place w_rows w_length w_first w_second w_drifts w_traits kpeople (va_cpy kkind wkind 0 0 6) (va_cpy kv wv 0 0 6) (va_cpy kplace wplace 0 0 6) wrows wleaves wlength wfirst wsecond wdrops wstep wlibrary wdrifts wtraits, wdX2 kc k_o k_kind k_v k_place k_rows k_length k_first k_second k_drifts k_traits kpeople kkind kv kplace krows kleaves klength kfirst ksecond kdrops kstep klibrary kdrifts ktraits]) := hD
  refine lv_aload_n hx hb dX2_become_53 rfl (lv_at hl 1 rfl) ?_
  refine va_get (D := (dC, dI)) (ci := 2) (v := .ref k_rows) (C := RX2) (T := TX2) (N := 14) hx hb hts hinX2_become_X2 hown hK hP 10 rfl rfl 4 (by decide) (hts _ (List.mem_of_getElem? (i := 9) rfl)) (fun _ h9 => h9) rfl dX2_become_54 ?_
  refine lv_iconst (v := 0) hx hb dX2_become_57 (by decide) ?_
  refine lv_aload_n hx hb dX2_become_58 rfl (lv_at hl 0 rfl) ?_
  refine va_get (D := (dC, dI)) (ci := 2) (v := .ref w_rows) (C := RX2) (T := TX2) (N := 14) hx hb hts hinX2_become_X2 hown hK hP 0 rfl rfl 4 (by decide) (hts _ (List.mem_of_getElem? (i := 9) rfl)) (fun _ h9 => h9) rfl dX2_become_59 ?_
  refine lv_iconst (v := 0) hx hb dX2_become_62 (by decide) ?_
  refine lv_bipush (v := 24) hx hb dX2_become_63 (by decide) ?_
  refine va_copyi (D := (dC, dI)) (ty := .int) hx hb (hml.trans hl.1.symm) hown (hts _ (List.mem_of_getElem? (i := 3) rfl)) (hts _ (List.mem_of_getElem? (i := 4) rfl)) (hts _ (List.mem_of_getElem? (i := 5) rfl)) (hts _ (List.mem_of_getElem? (i := 6) rfl)) hK hP hD hS 14 4 1 1 rfl rfl rfl rfl rfl (by decide) (by decide) (by decide) (by decide) (by decide) (fun _ _ => rfl) (Nat.le_of_ble_eq_true rfl) (Nat.le_of_ble_eq_true rfl) dX2_become_65 (fun H locs hP hD hS => ?_)
  have hP : va_P (dC, dI) vwCl (fl [wdX2 kc w_o w_kind w_v w_place w_rows w_length w_first w_second w_drifts w_traits kpeople (va_cpy kkind wkind 0 0 6) (va_cpy kv wv 0 0 6) (va_cpy kplace wplace 0 0 6) (va_cpy krows wrows 0 0 24) wleaves wlength wfirst wsecond wdrops wstep wlibrary wdrifts wtraits, wdX2 kc k_o k_kind k_v k_place k_rows k_length k_first k_second k_drifts k_traits kpeople kkind kv kplace krows kleaves klength kfirst ksecond kdrops kstep klibrary kdrifts ktraits]) H := hP
  have hD : va_D A (fl [wdX2 kc w_o w_kind w_v w_place w_rows w_length w_first w_second w_drifts w_traits kpeople (va_cpy kkind wkind 0 0 6) (va_cpy kv wv 0 0 6) (va_cpy kplace wplace 0 0 6) (va_cpy krows wrows 0 0 24) wleaves wlength wfirst wsecond wdrops wstep wlibrary wdrifts wtraits, wdX2 kc k_o k_kind k_v k_place k_rows k_length k_first k_second k_drifts k_traits kpeople kkind kv kplace krows kleaves klength kfirst ksecond kdrops kstep klibrary kdrifts ktraits]) := hD
  refine lv_aload_n hx hb dX2_become_68 rfl (lv_at hl 0 rfl) ?_
  refine lv_aload_n hx hb dX2_become_69 rfl (lv_at hl 1 rfl) ?_
  refine va_get (D := (dC, dI)) (ci := 2) (v := .int kleaves) (C := RX2) (T := TX2) (N := 14) hx hb hts hinX2_become_X2 hown hK hP 10 rfl rfl 5 (by decide) (hts _ (List.mem_of_getElem? (i := 10) rfl)) (fun _ h9 => h9) rfl dX2_become_70 ?_
  refine va_put (D := (dC, dI)) (ci := 2) (v := .int kleaves) (ty := .int) (C := RX2) (T := TX2) (N := 14) hx hb hts hinX2_become_X2 tyX2 tyX2_ok nmX2 hown hK hP hD hS 0 rfl rfl 5 (by decide) (hts _ (List.mem_of_getElem? (i := 10) rfl)) (fun _ h9 => h9) rfl (by decide +kernel) rfl rfl (Nat.le_of_ble_eq_true rfl) dX2_become_73 (fun H locs hP hD hS => ?_)
  have hP : va_P (dC, dI) vwCl (fl [wdX2 kc w_o w_kind w_v w_place w_rows w_length w_first w_second w_drifts w_traits kpeople (va_cpy kkind wkind 0 0 6) (va_cpy kv wv 0 0 6) (va_cpy kplace wplace 0 0 6) (va_cpy krows wrows 0 0 24) kleaves wlength wfirst wsecond wdrops wstep wlibrary wdrifts wtraits, wdX2 kc k_o k_kind k_v k_place k_rows k_length k_first k_second k_drifts k_traits kpeople kkind kv kplace krows kleaves klength kfirst ksecond kdrops kstep klibrary kdrifts ktraits]) H := hP
  have hD : va_D A (fl [wdX2 kc w_o w_kind w_v w_place w_rows w_length w_first w_second w_drifts w_traits kpeople (va_cpy kkind wkind 0 0 6) (va_cpy kv wv 0 0 6) (va_cpy kplace wplace 0 0 6) (va_cpy krows wrows 0 0 24) kleaves wlength wfirst wsecond wdrops wstep wlibrary wdrifts wtraits, wdX2 kc k_o k_kind k_v k_place k_rows k_length k_first k_second k_drifts k_traits kpeople kkind kv kplace krows kleaves klength kfirst ksecond kdrops kstep klibrary kdrifts ktraits]) := hD
  refine lv_aload_n hx hb dX2_become_76 rfl (lv_at hl 1 rfl) ?_
  refine va_get (D := (dC, dI)) (ci := 2) (v := .ref k_length) (C := RX2) (T := TX2) (N := 14) hx hb hts hinX2_become_X2 hown hK hP 10 rfl rfl 6 (by decide) (hts _ (List.mem_of_getElem? (i := 11) rfl)) (fun _ h9 => h9) rfl dX2_become_77 ?_
  refine lv_iconst (v := 0) hx hb dX2_become_80 (by decide) ?_
  refine lv_aload_n hx hb dX2_become_81 rfl (lv_at hl 0 rfl) ?_
  refine va_get (D := (dC, dI)) (ci := 2) (v := .ref w_length) (C := RX2) (T := TX2) (N := 14) hx hb hts hinX2_become_X2 hown hK hP 0 rfl rfl 6 (by decide) (hts _ (List.mem_of_getElem? (i := 11) rfl)) (fun _ h9 => h9) rfl dX2_become_82 ?_
  refine lv_iconst (v := 0) hx hb dX2_become_85 (by decide) ?_
  refine lv_iconst (v := 4) hx hb dX2_become_86 (by decide) ?_
  refine va_copyi (D := (dC, dI)) (ty := .int) hx hb (hml.trans hl.1.symm) hown (hts _ (List.mem_of_getElem? (i := 3) rfl)) (hts _ (List.mem_of_getElem? (i := 4) rfl)) (hts _ (List.mem_of_getElem? (i := 5) rfl)) (hts _ (List.mem_of_getElem? (i := 6) rfl)) hK hP hD hS 15 5 1 1 rfl rfl rfl rfl rfl (by decide) (by decide) (by decide) (by decide) (by decide) (fun _ _ => rfl) (Nat.le_of_ble_eq_true rfl) (Nat.le_of_ble_eq_true rfl) dX2_become_87 (fun H locs hP hD hS => ?_)
  have hP : va_P (dC, dI) vwCl (fl [wdX2 kc w_o w_kind w_v w_place w_rows w_length w_first w_second w_drifts w_traits kpeople (va_cpy kkind wkind 0 0 6) (va_cpy kv wv 0 0 6) (va_cpy kplace wplace 0 0 6) (va_cpy krows wrows 0 0 24) kleaves (va_cpy klength wlength 0 0 4) wfirst wsecond wdrops wstep wlibrary wdrifts wtraits, wdX2 kc k_o k_kind k_v k_place k_rows k_length k_first k_second k_drifts k_traits kpeople kkind kv kplace krows kleaves klength kfirst ksecond kdrops kstep klibrary kdrifts ktraits]) H := hP
  have hD : va_D A (fl [wdX2 kc w_o w_kind w_v w_place w_rows w_length w_first w_second w_drifts w_traits kpeople (va_cpy kkind wkind 0 0 6) (va_cpy kv wv 0 0 6) (va_cpy kplace wplace 0 0 6) (va_cpy krows wrows 0 0 24) kleaves (va_cpy klength wlength 0 0 4) wfirst wsecond wdrops wstep wlibrary wdrifts wtraits, wdX2 kc k_o k_kind k_v k_place k_rows k_length k_first k_second k_drifts k_traits kpeople kkind kv kplace krows kleaves klength kfirst ksecond kdrops kstep klibrary kdrifts ktraits]) := hD
  refine lv_aload_n hx hb dX2_become_90 rfl (lv_at hl 1 rfl) ?_
  refine va_get (D := (dC, dI)) (ci := 2) (v := .ref k_first) (C := RX2) (T := TX2) (N := 14) hx hb hts hinX2_become_X2 hown hK hP 10 rfl rfl 7 (by decide) (hts _ (List.mem_of_getElem? (i := 12) rfl)) (fun _ h9 => h9) rfl dX2_become_91 ?_
  refine lv_iconst (v := 0) hx hb dX2_become_94 (by decide) ?_
  refine lv_aload_n hx hb dX2_become_95 rfl (lv_at hl 0 rfl) ?_
  refine va_get (D := (dC, dI)) (ci := 2) (v := .ref w_first) (C := RX2) (T := TX2) (N := 14) hx hb hts hinX2_become_X2 hown hK hP 0 rfl rfl 7 (by decide) (hts _ (List.mem_of_getElem? (i := 12) rfl)) (fun _ h9 => h9) rfl dX2_become_96 ?_
  refine lv_iconst (v := 0) hx hb dX2_become_99 (by decide) ?_
  refine lv_iconst (v := 4) hx hb dX2_become_100 (by decide) ?_
  refine va_copyi (D := (dC, dI)) (ty := .int) hx hb (hml.trans hl.1.symm) hown (hts _ (List.mem_of_getElem? (i := 3) rfl)) (hts _ (List.mem_of_getElem? (i := 4) rfl)) (hts _ (List.mem_of_getElem? (i := 5) rfl)) (hts _ (List.mem_of_getElem? (i := 6) rfl)) hK hP hD hS 16 6 1 1 rfl rfl rfl rfl rfl (by decide) (by decide) (by decide) (by decide) (by decide) (fun _ _ => rfl) (Nat.le_of_ble_eq_true rfl) (Nat.le_of_ble_eq_true rfl) dX2_become_101 (fun H locs hP hD hS => ?_)
  have hP : va_P (dC, dI) vwCl (fl [wdX2 kc w_o w_kind w_v w_place w_rows w_length w_first w_second w_drifts w_traits kpeople (va_cpy kkind wkind 0 0 6) (va_cpy kv wv 0 0 6) (va_cpy kplace wplace 0 0 6) (va_cpy krows wrows 0 0 24) kleaves (va_cpy klength wlength 0 0 4) (va_cpy kfirst wfirst 0 0 4) wsecond wdrops wstep wlibrary wdrifts wtraits, wdX2 kc k_o k_kind k_v k_place k_rows k_length k_first k_second k_drifts k_traits kpeople kkind kv kplace krows kleaves klength kfirst ksecond kdrops kstep klibrary kdrifts ktraits]) H := hP
  have hD : va_D A (fl [wdX2 kc w_o w_kind w_v w_place w_rows w_length w_first w_second w_drifts w_traits kpeople (va_cpy kkind wkind 0 0 6) (va_cpy kv wv 0 0 6) (va_cpy kplace wplace 0 0 6) (va_cpy krows wrows 0 0 24) kleaves (va_cpy klength wlength 0 0 4) (va_cpy kfirst wfirst 0 0 4) wsecond wdrops wstep wlibrary wdrifts wtraits, wdX2 kc k_o k_kind k_v k_place k_rows k_length k_first k_second k_drifts k_traits kpeople kkind kv kplace krows kleaves klength kfirst ksecond kdrops kstep klibrary kdrifts ktraits]) := hD
  refine lv_aload_n hx hb dX2_become_104 rfl (lv_at hl 1 rfl) ?_
  refine va_get (D := (dC, dI)) (ci := 2) (v := .ref k_second) (C := RX2) (T := TX2) (N := 14) hx hb hts hinX2_become_X2 hown hK hP 10 rfl rfl 8 (by decide) (hts _ (List.mem_of_getElem? (i := 13) rfl)) (fun _ h9 => h9) rfl dX2_become_105 ?_
  refine lv_iconst (v := 0) hx hb dX2_become_108 (by decide) ?_
  refine lv_aload_n hx hb dX2_become_109 rfl (lv_at hl 0 rfl) ?_
  refine va_get (D := (dC, dI)) (ci := 2) (v := .ref w_second) (C := RX2) (T := TX2) (N := 14) hx hb hts hinX2_become_X2 hown hK hP 0 rfl rfl 8 (by decide) (hts _ (List.mem_of_getElem? (i := 13) rfl)) (fun _ h9 => h9) rfl dX2_become_110 ?_
  refine lv_iconst (v := 0) hx hb dX2_become_113 (by decide) ?_
  refine lv_iconst (v := 4) hx hb dX2_become_114 (by decide) ?_
  refine va_copyi (D := (dC, dI)) (ty := .int) hx hb (hml.trans hl.1.symm) hown (hts _ (List.mem_of_getElem? (i := 3) rfl)) (hts _ (List.mem_of_getElem? (i := 4) rfl)) (hts _ (List.mem_of_getElem? (i := 5) rfl)) (hts _ (List.mem_of_getElem? (i := 6) rfl)) hK hP hD hS 17 7 1 1 rfl rfl rfl rfl rfl (by decide) (by decide) (by decide) (by decide) (by decide) (fun _ _ => rfl) (Nat.le_of_ble_eq_true rfl) (Nat.le_of_ble_eq_true rfl) dX2_become_115 (fun H locs hP hD hS => ?_)
  have hP : va_P (dC, dI) vwCl (fl [wdX2 kc w_o w_kind w_v w_place w_rows w_length w_first w_second w_drifts w_traits kpeople (va_cpy kkind wkind 0 0 6) (va_cpy kv wv 0 0 6) (va_cpy kplace wplace 0 0 6) (va_cpy krows wrows 0 0 24) kleaves (va_cpy klength wlength 0 0 4) (va_cpy kfirst wfirst 0 0 4) (va_cpy ksecond wsecond 0 0 4) wdrops wstep wlibrary wdrifts wtraits, wdX2 kc k_o k_kind k_v k_place k_rows k_length k_first k_second k_drifts k_traits kpeople kkind kv kplace krows kleaves klength kfirst ksecond kdrops kstep klibrary kdrifts ktraits]) H := hP
  have hD : va_D A (fl [wdX2 kc w_o w_kind w_v w_place w_rows w_length w_first w_second w_drifts w_traits kpeople (va_cpy kkind wkind 0 0 6) (va_cpy kv wv 0 0 6) (va_cpy kplace wplace 0 0 6) (va_cpy krows wrows 0 0 24) kleaves (va_cpy klength wlength 0 0 4) (va_cpy kfirst wfirst 0 0 4) (va_cpy ksecond wsecond 0 0 4) wdrops wstep wlibrary wdrifts wtraits, wdX2 kc k_o k_kind k_v k_place k_rows k_length k_first k_second k_drifts k_traits kpeople kkind kv kplace krows kleaves klength kfirst ksecond kdrops kstep klibrary kdrifts ktraits]) := hD
  refine lv_aload_n hx hb dX2_become_118 rfl (lv_at hl 0 rfl) ?_
  refine lv_aload_n hx hb dX2_become_119 rfl (lv_at hl 1 rfl) ?_
  refine va_get (D := (dC, dI)) (ci := 2) (v := .int kdrops) (C := RX2) (T := TX2) (N := 14) hx hb hts hinX2_become_X2 hown hK hP 10 rfl rfl 9 (by decide) (hts _ (List.mem_of_getElem? (i := 14) rfl)) (fun _ h9 => h9) rfl dX2_become_120 ?_
  refine va_put (D := (dC, dI)) (ci := 2) (v := .int kdrops) (ty := .int) (C := RX2) (T := TX2) (N := 14) hx hb hts hinX2_become_X2 tyX2 tyX2_ok nmX2 hown hK hP hD hS 0 rfl rfl 9 (by decide) (hts _ (List.mem_of_getElem? (i := 14) rfl)) (fun _ h9 => h9) rfl (by decide +kernel) rfl rfl (Nat.le_of_ble_eq_true rfl) dX2_become_123 (fun H locs hP hD hS => ?_)
  have hP : va_P (dC, dI) vwCl (fl [wdX2 kc w_o w_kind w_v w_place w_rows w_length w_first w_second w_drifts w_traits kpeople (va_cpy kkind wkind 0 0 6) (va_cpy kv wv 0 0 6) (va_cpy kplace wplace 0 0 6) (va_cpy krows wrows 0 0 24) kleaves (va_cpy klength wlength 0 0 4) (va_cpy kfirst wfirst 0 0 4) (va_cpy ksecond wsecond 0 0 4) kdrops wstep wlibrary wdrifts wtraits, wdX2 kc k_o k_kind k_v k_place k_rows k_length k_first k_second k_drifts k_traits kpeople kkind kv kplace krows kleaves klength kfirst ksecond kdrops kstep klibrary kdrifts ktraits]) H := hP
  have hD : va_D A (fl [wdX2 kc w_o w_kind w_v w_place w_rows w_length w_first w_second w_drifts w_traits kpeople (va_cpy kkind wkind 0 0 6) (va_cpy kv wv 0 0 6) (va_cpy kplace wplace 0 0 6) (va_cpy krows wrows 0 0 24) kleaves (va_cpy klength wlength 0 0 4) (va_cpy kfirst wfirst 0 0 4) (va_cpy ksecond wsecond 0 0 4) kdrops wstep wlibrary wdrifts wtraits, wdX2 kc k_o k_kind k_v k_place k_rows k_length k_first k_second k_drifts k_traits kpeople kkind kv kplace krows kleaves klength kfirst ksecond kdrops kstep klibrary kdrifts ktraits]) := hD
  refine lv_aload_n hx hb dX2_become_126 rfl (lv_at hl 0 rfl) ?_
  refine lv_aload_n hx hb dX2_become_127 rfl (lv_at hl 1 rfl) ?_
  refine va_get (D := (dC, dI)) (ci := 2) (v := .int kstep) (C := RX2) (T := TX2) (N := 14) hx hb hts hinX2_become_X2 hown hK hP 10 rfl rfl 10 (by decide) (hts _ (List.mem_of_getElem? (i := 15) rfl)) (fun _ h9 => h9) rfl dX2_become_128 ?_
  refine va_put (D := (dC, dI)) (ci := 2) (v := .int kstep) (ty := .int) (C := RX2) (T := TX2) (N := 14) hx hb hts hinX2_become_X2 tyX2 tyX2_ok nmX2 hown hK hP hD hS 0 rfl rfl 10 (by decide) (hts _ (List.mem_of_getElem? (i := 15) rfl)) (fun _ h9 => h9) rfl (by decide +kernel) rfl rfl (Nat.le_of_ble_eq_true rfl) dX2_become_131 (fun H locs hP hD hS => ?_)
  have hP : va_P (dC, dI) vwCl (fl [wdX2 kc w_o w_kind w_v w_place w_rows w_length w_first w_second w_drifts w_traits kpeople (va_cpy kkind wkind 0 0 6) (va_cpy kv wv 0 0 6) (va_cpy kplace wplace 0 0 6) (va_cpy krows wrows 0 0 24) kleaves (va_cpy klength wlength 0 0 4) (va_cpy kfirst wfirst 0 0 4) (va_cpy ksecond wsecond 0 0 4) kdrops kstep wlibrary wdrifts wtraits, wdX2 kc k_o k_kind k_v k_place k_rows k_length k_first k_second k_drifts k_traits kpeople kkind kv kplace krows kleaves klength kfirst ksecond kdrops kstep klibrary kdrifts ktraits]) H := hP
  have hD : va_D A (fl [wdX2 kc w_o w_kind w_v w_place w_rows w_length w_first w_second w_drifts w_traits kpeople (va_cpy kkind wkind 0 0 6) (va_cpy kv wv 0 0 6) (va_cpy kplace wplace 0 0 6) (va_cpy krows wrows 0 0 24) kleaves (va_cpy klength wlength 0 0 4) (va_cpy kfirst wfirst 0 0 4) (va_cpy ksecond wsecond 0 0 4) kdrops kstep wlibrary wdrifts wtraits, wdX2 kc k_o k_kind k_v k_place k_rows k_length k_first k_second k_drifts k_traits kpeople kkind kv kplace krows kleaves klength kfirst ksecond kdrops kstep klibrary kdrifts ktraits]) := hD
  refine lv_aload_n hx hb dX2_become_134 rfl (lv_at hl 0 rfl) ?_
  refine lv_aload_n hx hb dX2_become_135 rfl (lv_at hl 1 rfl) ?_
  refine va_get (D := (dC, dI)) (ci := 2) (v := va_rf klibrary) (C := RX2) (T := TX2) (N := 14) hx hb hts hinX2_become_X2 hown hK hP 10 rfl rfl 11 (by decide) (hts _ (List.mem_of_getElem? (i := 16) rfl)) (fun _ h9 => h9) rfl dX2_become_136 ?_
  refine va_put (D := (dC, dI)) (ci := 2) (v := va_rf klibrary) (ty := (.object "AtlasEnds$Library")) (C := RX2) (T := TX2) (N := 14) hx hb hts hinX2_become_X2 tyX2 tyX2_ok nmX2 hown hK hP hD hS 0 rfl rfl 11 (by decide) (hts _ (List.mem_of_getElem? (i := 16) rfl)) (fun _ h9 => h9) rfl (by decide +kernel) (by cases klibrary <;> rfl) (by cases klibrary <;> rfl) (Nat.le_of_ble_eq_true rfl) dX2_become_139 (fun H locs hP hD hS => ?_)
  have hP : va_P (dC, dI) vwCl (fl [wdX2 kc w_o w_kind w_v w_place w_rows w_length w_first w_second w_drifts w_traits kpeople (va_cpy kkind wkind 0 0 6) (va_cpy kv wv 0 0 6) (va_cpy kplace wplace 0 0 6) (va_cpy krows wrows 0 0 24) kleaves (va_cpy klength wlength 0 0 4) (va_cpy kfirst wfirst 0 0 4) (va_cpy ksecond wsecond 0 0 4) kdrops kstep klibrary wdrifts wtraits, wdX2 kc k_o k_kind k_v k_place k_rows k_length k_first k_second k_drifts k_traits kpeople kkind kv kplace krows kleaves klength kfirst ksecond kdrops kstep klibrary kdrifts ktraits]) H := hP
  have hD : va_D A (fl [wdX2 kc w_o w_kind w_v w_place w_rows w_length w_first w_second w_drifts w_traits kpeople (va_cpy kkind wkind 0 0 6) (va_cpy kv wv 0 0 6) (va_cpy kplace wplace 0 0 6) (va_cpy krows wrows 0 0 24) kleaves (va_cpy klength wlength 0 0 4) (va_cpy kfirst wfirst 0 0 4) (va_cpy ksecond wsecond 0 0 4) kdrops kstep klibrary wdrifts wtraits, wdX2 kc k_o k_kind k_v k_place k_rows k_length k_first k_second k_drifts k_traits kpeople kkind kv kplace krows kleaves klength kfirst ksecond kdrops kstep klibrary kdrifts ktraits]) := hD
  cases hm
  exact k_vret hx hb hr hlocks hP hS dX2_become_142
