abbrev wdX4 (kc : Nat → ClassId) (a_o a_text : Nat) (c_text : Nat → Int32) (c_length : Int32) (c_at : Int32) (c_library : Option Nat) : va_W := [(a_o, .inr (4, [.ref a_text, .int c_length, .int c_at, va_rf c_library])), (a_text, .inl (kc 0, 100, .inl c_text))]
def fX4_addSign (dtext : Nat → Int32) (dlength : Int32) (x1 : Int32) : Option (Int32 × (Nat → Int32) × Int32) := gd (inb dlength 100) (some (dlength + 1, upd dtext (dlength.toNatClampNeg) (vp_nar .char ((x1.toUInt32 % 65536).toInt32)), dlength + 1))
theorem hinX4_addSign_X4 : ∀ w ∈ u_ws RX4 TX4 4, w ∈ wsX4_addSign := fun _ h => List.mem_cons_of_mem _ (List.mem_append_right _ h)
abbrev rmX4_addSign : Room := { frames := 0, cells := 0, slots := 0, locals := 12 }
set_option maxHeartbeats 4000000 in
set_option maxRecDepth 100000 in
theorem ctX4_addSign {l : Launch} {dC : Nat → ClassId} {dI : Nat → Nat → Nat} {kc : Nat → ClassId} {d_o d_text : Nat} {dtext : Nat → Int32} {dlength : Int32} {dat : Int32} {dlibrary : Option Nat} {x1 : Int32} {r : Int32} {dtext' : Nat → Int32} {dlength' : Int32} (hm : fX4_addSign dtext dlength x1 = some (r, dtext', dlength')) : ∀ sz : Nat, Met l yX4_addSign wsX4_addSign rmX4_addSign (kPc dC dI kc [.ref d_o, .int x1] (fl [wdX4 kc d_o d_text dtext dlength dat dlibrary]) sz) (kQi dC dI r (fl [wdX4 kc d_o d_text dtext' dlength' dat dlibrary]) (va_A (fl [wdX4 kc d_o d_text dtext dlength dat dlibrary]) sz)) 0 0 (va_A (fl [wdX4 kc d_o d_text dtext dlength dat dlibrary]) sz) := by
  intro sz
  refine kMet (cc := cX4_addSign) (maxL := 2) (ret := (some .int)) (Qf := fun A => kQi dC dI r (fl [wdX4 kc d_o d_text dtext' dlength' dat dlibrary]) A) (by decide) rfl (Nat.le_of_ble_eq_true rfl) ?_
  intro p e s m below meth c A ls hx hb hr hml hts hown hlocks hname hsz hA hP hK hD hl
  have hS : va_S A s.heap s.heap [] := va_S.rf
  have hl : lv_has ls 2 [(0, .ref d_o), (1, .int x1)] := hl
  unfold fX4_addSign at hm
  refine lv_aload_n hx hb dX4_addSign_0 rfl (lv_at hl 0 rfl) ?_
  refine va_get (D := (dC, dI)) (ci := 4) (v := .ref d_text) (C := RX4) (T := TX4) (N := 4) hx hb hts hinX4_addSign_X4 hown hK hP 0 rfl rfl 0 (by decide) (hts _ (List.mem_of_getElem? (i := 1) rfl)) (fun _ h9 => h9) rfl dX4_addSign_1 ?_
  refine lv_aload_n hx hb dX4_addSign_4 rfl (lv_at hl 0 rfl) ?_
  refine va_get (D := (dC, dI)) (ci := 4) (v := .int dlength) (C := RX4) (T := TX4) (N := 4) hx hb hts hinX4_addSign_X4 hown hK hP 0 rfl rfl 1 (by decide) (hts _ (List.mem_of_getElem? (i := 2) rfl)) (fun _ h9 => h9) rfl dX4_addSign_5 ?_
  refine lv_iload_n hx hb dX4_addSign_8 rfl (lv_at hl 1 rfl) ?_
  refine lv_i2c hx hb dX4_addSign_9 rfl ?_
  obtain ⟨hg10, hm⟩ := gd_e hm
  refine k_cast (D := (dC, dI)) hx hb hK hP hD hS 1 0 rfl rfl (k := dlength.toNatClampNeg) rfl hg10 dX4_addSign_10 (fun H locs hP hD hS => ?_)
  have hP : va_P (dC, dI) vwCl (fl [wdX4 kc d_o d_text (upd dtext (dlength.toNatClampNeg) (vp_nar .char ((x1.toUInt32 % 65536).toInt32))) dlength dat dlibrary]) H := hP
  have hD : va_D A (fl [wdX4 kc d_o d_text (upd dtext (dlength.toNatClampNeg) (vp_nar .char ((x1.toUInt32 % 65536).toInt32))) dlength dat dlibrary]) := hD
  refine lv_aload_n hx hb dX4_addSign_11 rfl (lv_at hl 0 rfl) ?_
  refine lv_dup hx hb dX4_addSign_12 rfl ?_
  refine va_get (D := (dC, dI)) (ci := 4) (v := .int dlength) (C := RX4) (T := TX4) (N := 4) hx hb hts hinX4_addSign_X4 hown hK hP 0 rfl rfl 1 (by decide) (hts _ (List.mem_of_getElem? (i := 2) rfl)) (fun _ h9 => h9) rfl dX4_addSign_13 ?_
  refine lv_iconst (v := 1) hx hb dX4_addSign_16 (by decide) ?_
  refine lv_iadd hx hb dX4_addSign_17 ?_
  refine va_put (D := (dC, dI)) (ci := 4) (v := .int (dlength + 1)) (ty := .int) (C := RX4) (T := TX4) (N := 4) hx hb hts hinX4_addSign_X4 tyX4 tyX4_ok nmX4 hown hK hP hD hS 0 rfl rfl 1 (by decide) (hts _ (List.mem_of_getElem? (i := 2) rfl)) (fun _ h9 => h9) rfl (by decide +kernel) rfl rfl (Nat.le_of_ble_eq_true rfl) dX4_addSign_18 (fun H locs hP hD hS => ?_)
  have hP : va_P (dC, dI) vwCl (fl [wdX4 kc d_o d_text (upd dtext (dlength.toNatClampNeg) (vp_nar .char ((x1.toUInt32 % 65536).toInt32))) (dlength + 1) dat dlibrary]) H := hP
  have hD : va_D A (fl [wdX4 kc d_o d_text (upd dtext (dlength.toNatClampNeg) (vp_nar .char ((x1.toUInt32 % 65536).toInt32))) (dlength + 1) dat dlibrary]) := hD
  refine lv_aload_n hx hb dX4_addSign_21 rfl (lv_at hl 0 rfl) ?_
  refine va_get (D := (dC, dI)) (ci := 4) (v := .int (dlength + 1)) (C := RX4) (T := TX4) (N := 4) hx hb hts hinX4_addSign_X4 hown hK hP 0 rfl rfl 1 (by decide) (hts _ (List.mem_of_getElem? (i := 2) rfl)) (fun _ h9 => h9) rfl dX4_addSign_22 ?_
  cases hm
  exact k_iret hx hb hr hlocks hP hS dX4_addSign_25
def fX4_isAt (dtext : Nat → Int32) (dlength : Int32) (dat : Int32) (x1 : Int32) : Option Int32 := if dlength ≤ dat then (some (0 : Int32)) else (gd (inb dat 100) (if (dtext (dat.toNatClampNeg)) = x1 then (some (1 : Int32)) else (some (0 : Int32))))
theorem hinX4_isAt_X4 : ∀ w ∈ u_ws RX4 TX4 4, w ∈ wsX4_isAt := fun _ h => List.mem_cons_of_mem _ (List.mem_append_right _ h)
abbrev rmX4_isAt : Room := { frames := 0, cells := 0, slots := 0, locals := 12 }
set_option maxHeartbeats 4000000 in
set_option maxRecDepth 100000 in
theorem ctX4_isAt {l : Launch} {dC : Nat → ClassId} {dI : Nat → Nat → Nat} {kc : Nat → ClassId} {d_o d_text : Nat} {dtext : Nat → Int32} {dlength : Int32} {dat : Int32} {dlibrary : Option Nat} {x1 : Int32} {r : Int32} (hm : fX4_isAt dtext dlength dat x1 = some r) : ∀ sz : Nat, Met l yX4_isAt wsX4_isAt rmX4_isAt (kPc dC dI kc [.ref d_o, .int x1] (fl [wdX4 kc d_o d_text dtext dlength dat dlibrary]) sz) (kQi dC dI r (fl [wdX4 kc d_o d_text dtext dlength dat dlibrary]) (va_A (fl [wdX4 kc d_o d_text dtext dlength dat dlibrary]) sz)) 0 0 (va_A (fl [wdX4 kc d_o d_text dtext dlength dat dlibrary]) sz) := by
  intro sz
  refine kMet (cc := cX4_isAt) (maxL := 2) (ret := (some .boolean)) (Qf := fun A => kQi dC dI r (fl [wdX4 kc d_o d_text dtext dlength dat dlibrary]) A) (by decide) rfl (Nat.le_of_ble_eq_true rfl) ?_
  intro p e s m below meth c A ls hx hb hr hml hts hown hlocks hname hsz hA hP hK hD hl
  have hS : va_S A s.heap s.heap [] := va_S.rf
  have hl : lv_has ls 2 [(0, .ref d_o), (1, .int x1)] := hl
  unfold fX4_isAt at hm
  refine lv_aload_n hx hb dX4_isAt_0 rfl (lv_at hl 0 rfl) ?_
  refine va_get (D := (dC, dI)) (ci := 4) (v := .int dat) (C := RX4) (T := TX4) (N := 4) hx hb hts hinX4_isAt_X4 hown hK hP 0 rfl rfl 2 (by decide) (hts _ (List.mem_of_getElem? (i := 1) rfl)) (fun _ h9 => h9) rfl dX4_isAt_1 ?_
  refine lv_aload_n hx hb dX4_isAt_4 rfl (lv_at hl 0 rfl) ?_
  refine va_get (D := (dC, dI)) (ci := 4) (v := .int dlength) (C := RX4) (T := TX4) (N := 4) hx hb hts hinX4_isAt_X4 hown hK hP 0 rfl rfl 1 (by decide) (hts _ (List.mem_of_getElem? (i := 2) rfl)) (fun _ h9 => h9) rfl dX4_isAt_5 ?_
  refine lv_icmp_ge (tgt := 28) hx hb dX4_isAt_8 (by decide) (fun c8 => ?_) (fun c8 => ?_)
  · replace hm := it_t c8 hm
    refine lv_iconst (v := 0) hx hb dX4_isAt_28 (by decide) ?_
    cases hm
    exact k_zret hx hb hr hlocks (by decide) hP hS dX4_isAt_29
  · replace hm := it_f c8 hm
    refine lv_aload_n hx hb dX4_isAt_11 rfl (lv_at hl 0 rfl) ?_
    refine va_get (D := (dC, dI)) (ci := 4) (v := .ref d_text) (C := RX4) (T := TX4) (N := 4) hx hb hts hinX4_isAt_X4 hown hK hP 0 rfl rfl 0 (by decide) (hts _ (List.mem_of_getElem? (i := 3) rfl)) (fun _ h9 => h9) rfl dX4_isAt_12 ?_
    refine lv_aload_n hx hb dX4_isAt_15 rfl (lv_at hl 0 rfl) ?_
    refine va_get (D := (dC, dI)) (ci := 4) (v := .int dat) (C := RX4) (T := TX4) (N := 4) hx hb hts hinX4_isAt_X4 hown hK hP 0 rfl rfl 2 (by decide) (hts _ (List.mem_of_getElem? (i := 1) rfl)) (fun _ h9 => h9) rfl dX4_isAt_16 ?_
    obtain ⟨hg19, hm⟩ := gd_e hm
    refine k_cald (D := (dC, dI)) hx hb hK hP 1 0 rfl rfl (k := dat.toNatClampNeg) rfl hg19 dX4_isAt_19 ?_
    refine lv_iload_n hx hb dX4_isAt_20 rfl (lv_at hl 1 rfl) ?_
    refine lv_icmp_ne (tgt := 28) hx hb dX4_isAt_21 (by decide) (fun c21 => ?_) (fun c21 => ?_)
    · replace hm := it_f c21 hm
      refine lv_iconst (v := 0) hx hb dX4_isAt_28 (by decide) ?_
      cases hm
      exact k_zret hx hb hr hlocks (by decide) hP hS dX4_isAt_29
    · replace hm := it_t c21 hm
      refine lv_iconst (v := 1) hx hb dX4_isAt_24 (by decide) ?_
      refine lv_goto (tgt := 29) hx hb dX4_isAt_25 (by decide) ?_
      cases hm
      exact k_zret hx hb hr hlocks (by decide) hP hS dX4_isAt_29
def fX4_isDigit (x1 : Int32) : Option Int32 := if x1 < 48 then (some (0 : Int32)) else (if 57 < x1 then (some (0 : Int32)) else (some (1 : Int32)))
abbrev rmX4_isDigit : Room := { frames := 0, cells := 0, slots := 0, locals := 12 }
set_option maxHeartbeats 4000000 in
set_option maxRecDepth 100000 in
theorem ctX4_isDigit {l : Launch} {dC : Nat → ClassId} {dI : Nat → Nat → Nat} {kc : Nat → ClassId} {x1 : Int32} {r : Int32} (hm : fX4_isDigit x1 = some r) : ∀ sz : Nat, Met l yX4_isDigit wsX4_isDigit rmX4_isDigit (kPc dC dI kc [.int x1] (fl []) sz) (kQi dC dI r (fl []) (va_A (fl []) sz)) 0 0 (va_A (fl []) sz) := by
  intro sz
  refine kMet (cc := cX4_isDigit) (maxL := 1) (ret := (some .boolean)) (Qf := fun A => kQi dC dI r (fl []) A) (by decide) rfl (Nat.le_of_ble_eq_true rfl) ?_
  intro p e s m below meth c A ls hx hb hr hml hts hown hlocks hname hsz hA hP hK hD hl
  have hS : va_S A s.heap s.heap [] := va_S.rf
  have hl : lv_has ls 1 [(0, .int x1)] := hl
  unfold fX4_isDigit at hm
  refine lv_iload_n hx hb dX4_isDigit_0 rfl (lv_at hl 0 rfl) ?_
  refine lv_bipush (v := 48) hx hb dX4_isDigit_1 (by decide) ?_
  refine lv_icmp_lt (tgt := 16) hx hb dX4_isDigit_3 (by decide) (fun c3 => ?_) (fun c3 => ?_)
  · replace hm := it_t c3 hm
    refine lv_iconst (v := 0) hx hb dX4_isDigit_16 (by decide) ?_
    cases hm
    exact k_zret hx hb hr hlocks (by decide) hP hS dX4_isDigit_17
  · replace hm := it_f c3 hm
    refine lv_iload_n hx hb dX4_isDigit_6 rfl (lv_at hl 0 rfl) ?_
    refine lv_bipush (v := 57) hx hb dX4_isDigit_7 (by decide) ?_
    refine lv_icmp_gt (tgt := 16) hx hb dX4_isDigit_9 (by decide) (fun c9 => ?_) (fun c9 => ?_)
    · replace hm := it_t c9 hm
      refine lv_iconst (v := 0) hx hb dX4_isDigit_16 (by decide) ?_
      cases hm
      exact k_zret hx hb hr hlocks (by decide) hP hS dX4_isDigit_17
    · replace hm := it_f c9 hm
      refine lv_iconst (v := 1) hx hb dX4_isDigit_12 (by decide) ?_
      refine lv_goto (tgt := 17) hx hb dX4_isDigit_13 (by decide) ?_
      cases hm
      exact k_zret hx hb hr hlocks (by decide) hP hS dX4_isDigit_17
def LX4_takesNumber_4 (dtext : Nat → Int32) (dlength : Int32) : Nat → Int32 → Int32 → Int32 → Option (Int32 × Int32)
  | 0, _, _, _ => none
  | n4 + 1, l1_4, l2_4, dat_4 => if 2 ≤ l2_4 then (some (l1_4, dat_4)) else (if dlength ≤ dat_4 then (some (l1_4, dat_4)) else (gd (inb dat_4 100) (bd1 (fX4_isDigit (dtext (dat_4.toNatClampNeg))) (fun r29 => if r29 = 0 then (some (l1_4, dat_4)) else (gd (inb dat_4 100) (LX4_takesNumber_4 dtext dlength n4 ((((jmax l1_4 0) * 10) + (dtext (dat_4.toNatClampNeg))) - 48) (l2_4 + 1) (dat_4 + 1)))))))
def fX4_takesNumber (fu : Nat) (dtext : Nat → Int32) (dlength : Int32) (dat : Int32) : Option (Int32 × Int32) := LX4_takesNumber_4 dtext dlength fu (-1) 0 dat
theorem hinX4_takesNumber_X4 : ∀ w ∈ u_ws RX4 TX4 4, w ∈ wsX4_takesNumber := fun _ h => List.mem_cons_of_mem _ (List.mem_append_right _ h)
abbrev rmX4_takesNumber : Room := { frames := 1, cells := 0, slots := 0, locals := 32 }
set_option maxHeartbeats 4000000 in
set_option maxRecDepth 100000 in
theorem ctX4_takesNumber {l : Launch} {dC : Nat → ClassId} {dI : Nat → Nat → Nat} {kc : Nat → ClassId} {d_o d_text : Nat} {dtext : Nat → Int32} {dlength : Int32} {dat : Int32} {dlibrary : Option Nat} {fu : Nat} {r : Int32} {dat' : Int32} (hm : fX4_takesNumber fu dtext dlength dat = some (r, dat')) : ∀ sz : Nat, Met l yX4_takesNumber wsX4_takesNumber rmX4_takesNumber (kPc dC dI kc [.ref d_o] (fl [wdX4 kc d_o d_text dtext dlength dat dlibrary]) sz) (kQi dC dI r (fl [wdX4 kc d_o d_text dtext dlength dat' dlibrary]) (va_A (fl [wdX4 kc d_o d_text dtext dlength dat dlibrary]) sz)) 0 0 (va_A (fl [wdX4 kc d_o d_text dtext dlength dat dlibrary]) sz) := by
  intro sz
  refine kMet (cc := cX4_takesNumber) (maxL := 3) (ret := (some .int)) (Qf := fun A => kQi dC dI r (fl [wdX4 kc d_o d_text dtext dlength dat' dlibrary]) A) (by decide) rfl (Nat.le_of_ble_eq_true rfl) ?_
  intro p e s m below meth c A ls hx hb hr hml hts hown hlocks hname hsz hA hP hK hD hl
  have hS : va_S A s.heap s.heap [] := va_S.rf
  have hl : lv_has ls 3 [(0, .ref d_o)] := hl
  unfold fX4_takesNumber at hm
  refine lv_iconst (v := (-1)) hx hb dX4_takesNumber_0 (by decide) ?_
  refine lv_istore_n (lv' := [(1, .int (-1)), (0, .ref d_o)]) hx hb dX4_takesNumber_1 rfl hl (by decide) rfl (fun ls hl => ?_)
  refine lv_iconst (v := 0) hx hb dX4_takesNumber_2 (by decide) ?_
  refine lv_istore_n (lv' := [(2, .int 0), (1, .int (-1)), (0, .ref d_o)]) hx hb dX4_takesNumber_3 rfl hl (by decide) rfl (fun ls hl => ?_)
  have hL4 : ∀ (fn : Nat) (l1_4 : Int32) (l2_4 : Int32) (dat_4 : Int32), LX4_takesNumber_4 dtext dlength fn l1_4 l2_4 dat_4 = some (r, dat') → ∀ (H : Heap) (locs : List Loc), va_P (dC, dI) vwCl (fl [wdX4 kc d_o d_text dtext dlength dat_4 dlibrary]) H → va_D A (fl [wdX4 kc d_o d_text dtext dlength dat_4 dlibrary]) → va_S A s.heap H locs → ∀ ls : Array Slot, lv_has ls 3 [(0, .ref d_o), (1, .int l1_4), (2, .int l2_4)] → W p l e (headSpec wsX4_takesNumber rmX4_takesNumber).room s m [.ref d_o].toArray below meth c H locs 0 0 (MQ below (kQi dC dI r (fl [wdX4 kc d_o d_text dtext dlength dat' dlibrary]) A) [.ref d_o].toArray s 0 0 A) (F0 m 4 ls []) := by
    clear hm hP hD hS hl
    intro n4
    induction n4 with
    | zero => intro l1_4 l2_4 dat_4 hm; rw [LX4_takesNumber_4] at hm; cases hm
    | succ n4 ih4 =>
      intro l1_4 l2_4 dat_4 hm H locs hP hD hS ls hl
      rw [LX4_takesNumber_4] at hm
      refine lv_iload_n hx hb dX4_takesNumber_4 rfl (lv_at hl 2 rfl) ?_
      refine lv_iconst (v := 2) hx hb dX4_takesNumber_5 (by decide) ?_
      refine lv_icmp_ge (tgt := 73) hx hb dX4_takesNumber_6 (by decide) (fun c6 => ?_) (fun c6 => ?_)
      · replace hm := it_t c6 hm
        refine lv_iload_n hx hb dX4_takesNumber_73 rfl (lv_at hl 1 rfl) ?_
        cases hm
        exact k_iret hx hb hr hlocks hP hS dX4_takesNumber_74
      · replace hm := it_f c6 hm
        refine lv_aload_n hx hb dX4_takesNumber_9 rfl (lv_at hl 0 rfl) ?_
        refine va_get (D := (dC, dI)) (ci := 4) (v := .int dat_4) (C := RX4) (T := TX4) (N := 4) hx hb hts hinX4_takesNumber_X4 hown hK hP 0 rfl rfl 2 (by decide) (hts _ (List.mem_of_getElem? (i := 1) rfl)) (fun _ h9 => h9) rfl dX4_takesNumber_10 ?_
        refine lv_aload_n hx hb dX4_takesNumber_13 rfl (lv_at hl 0 rfl) ?_
        refine va_get (D := (dC, dI)) (ci := 4) (v := .int dlength) (C := RX4) (T := TX4) (N := 4) hx hb hts hinX4_takesNumber_X4 hown hK hP 0 rfl rfl 1 (by decide) (hts _ (List.mem_of_getElem? (i := 2) rfl)) (fun _ h9 => h9) rfl dX4_takesNumber_14 ?_
        refine lv_icmp_ge (tgt := 73) hx hb dX4_takesNumber_17 (by decide) (fun c17 => ?_) (fun c17 => ?_)
        · replace hm := it_t c17 hm
          refine lv_iload_n hx hb dX4_takesNumber_73 rfl (lv_at hl 1 rfl) ?_
          cases hm
          exact k_iret hx hb hr hlocks hP hS dX4_takesNumber_74
        · replace hm := it_f c17 hm
          refine lv_aload_n hx hb dX4_takesNumber_20 rfl (lv_at hl 0 rfl) ?_
          refine va_get (D := (dC, dI)) (ci := 4) (v := .ref d_text) (C := RX4) (T := TX4) (N := 4) hx hb hts hinX4_takesNumber_X4 hown hK hP 0 rfl rfl 0 (by decide) (hts _ (List.mem_of_getElem? (i := 3) rfl)) (fun _ h9 => h9) rfl dX4_takesNumber_21 ?_
          refine lv_aload_n hx hb dX4_takesNumber_24 rfl (lv_at hl 0 rfl) ?_
          refine va_get (D := (dC, dI)) (ci := 4) (v := .int dat_4) (C := RX4) (T := TX4) (N := 4) hx hb hts hinX4_takesNumber_X4 hown hK hP 0 rfl rfl 2 (by decide) (hts _ (List.mem_of_getElem? (i := 1) rfl)) (fun _ h9 => h9) rfl dX4_takesNumber_25 ?_
          obtain ⟨hg28, hm⟩ := gd_e hm
          refine k_cald (D := (dC, dI)) hx hb hK hP 1 0 rfl rfl (k := dat_4.toNatClampNeg) rfl hg28 dX4_takesNumber_28 ?_
          obtain ⟨r29, hc29, hm⟩ := bd1_e hm
          refine k_callGSi (dC := dC) (dI := dI) (kc := kc) (As := [.int (dtext (dat_4.toNatClampNeg))]) (rest := []) (Gs' := [wdX4 kc d_o d_text dtext dlength dat_4 dlibrary]) hx hb hml hown hts hK hP hD hS hA (ctX4_isDigit (x1 := dtext (dat_4.toNatClampNeg)) hc29) (va_cwS 1 hts gX4_takesNumber_X4_isDigit rfl rfl rfl (by decide +kernel) ⟨Nat.le_of_ble_eq_true rfl, Nat.le_of_ble_eq_true rfl⟩) [] rfl (by decide) rfl hl rfl (Nat.le_of_ble_eq_true rfl) dX4_takesNumber_29 ⟨Nat.zero_le _, Nat.zero_le _⟩ rfl rfl rfl (fun H locs hP hD hS => ?_)
          refine lv_if_eq (tgt := 73) hx hb dX4_takesNumber_32 (by decide) (fun c32 => ?_) (fun c32 => ?_)
          · replace hm := it_t c32 hm
            refine lv_iload_n hx hb dX4_takesNumber_73 rfl (lv_at hl 1 rfl) ?_
            cases hm
            exact k_iret hx hb hr hlocks hP hS dX4_takesNumber_74
          · replace hm := it_f c32 hm
            refine lv_iload_n hx hb dX4_takesNumber_35 rfl (lv_at hl 1 rfl) ?_
            refine lv_iconst (v := 0) hx hb dX4_takesNumber_36 (by decide) ?_
            refine va_mmax hx hb (hml.trans hl.1.symm) hown (hts _ (List.mem_of_getElem? (i := 4) rfl)) (hts _ (List.mem_of_getElem? (i := 5) rfl)) (hts _ (List.mem_of_getElem? (i := 6) rfl)) (hts _ (List.mem_of_getElem? (i := 7) rfl)) (Nat.le_of_ble_eq_true rfl) (Nat.le_of_ble_eq_true rfl) (Nat.zero_le _) (Nat.zero_le _) dX4_takesNumber_37 ?_
            refine lv_bipush (v := 10) hx hb dX4_takesNumber_40 (by decide) ?_
            refine lv_imul hx hb dX4_takesNumber_42 ?_
            refine lv_aload_n hx hb dX4_takesNumber_43 rfl (lv_at hl 0 rfl) ?_
            refine va_get (D := (dC, dI)) (ci := 4) (v := .ref d_text) (C := RX4) (T := TX4) (N := 4) hx hb hts hinX4_takesNumber_X4 hown hK hP 0 rfl rfl 0 (by decide) (hts _ (List.mem_of_getElem? (i := 3) rfl)) (fun _ h9 => h9) rfl dX4_takesNumber_44 ?_
            refine lv_aload_n hx hb dX4_takesNumber_47 rfl (lv_at hl 0 rfl) ?_
            refine va_get (D := (dC, dI)) (ci := 4) (v := .int dat_4) (C := RX4) (T := TX4) (N := 4) hx hb hts hinX4_takesNumber_X4 hown hK hP 0 rfl rfl 2 (by decide) (hts _ (List.mem_of_getElem? (i := 1) rfl)) (fun _ h9 => h9) rfl dX4_takesNumber_48 ?_
            obtain ⟨hg51, hm⟩ := gd_e hm
            refine k_cald (D := (dC, dI)) hx hb hK hP 1 0 rfl rfl (k := dat_4.toNatClampNeg) rfl hg51 dX4_takesNumber_51 ?_
            refine lv_iadd hx hb dX4_takesNumber_52 ?_
            refine lv_bipush (v := 48) hx hb dX4_takesNumber_53 (by decide) ?_
            refine lv_isub hx hb dX4_takesNumber_55 ?_
            refine lv_istore_n (lv' := [(1, .int ((((jmax l1_4 0) * 10) + (dtext (dat_4.toNatClampNeg))) - 48)), (0, .ref d_o), (2, .int l2_4)]) hx hb dX4_takesNumber_56 rfl hl (by decide) rfl (fun ls hl => ?_)
            refine lv_aload_n hx hb dX4_takesNumber_57 rfl (lv_at hl 1 rfl) ?_
            refine lv_dup hx hb dX4_takesNumber_58 rfl ?_
            refine va_get (D := (dC, dI)) (ci := 4) (v := .int dat_4) (C := RX4) (T := TX4) (N := 4) hx hb hts hinX4_takesNumber_X4 hown hK hP 0 rfl rfl 2 (by decide) (hts _ (List.mem_of_getElem? (i := 1) rfl)) (fun _ h9 => h9) rfl dX4_takesNumber_59 ?_
            refine lv_iconst (v := 1) hx hb dX4_takesNumber_62 (by decide) ?_
            refine lv_iadd hx hb dX4_takesNumber_63 ?_
            refine va_put (D := (dC, dI)) (ci := 4) (v := .int (dat_4 + 1)) (ty := .int) (C := RX4) (T := TX4) (N := 4) hx hb hts hinX4_takesNumber_X4 tyX4 tyX4_ok nmX4 hown hK hP hD hS 0 rfl rfl 2 (by decide) (hts _ (List.mem_of_getElem? (i := 1) rfl)) (fun _ h9 => h9) rfl (by decide +kernel) rfl rfl (Nat.le_of_ble_eq_true rfl) dX4_takesNumber_64 (fun H locs hP hD hS => ?_)
            have hP : va_P (dC, dI) vwCl (fl [wdX4 kc d_o d_text dtext dlength (dat_4 + 1) dlibrary]) H := hP
            have hD : va_D A (fl [wdX4 kc d_o d_text dtext dlength (dat_4 + 1) dlibrary]) := hD
            refine lv_iinc (v := l2_4 + 1) (lv' := [(2, .int (l2_4 + 1)), (1, .int ((((jmax l1_4 0) * 10) + (dtext (dat_4.toNatClampNeg))) - 48)), (0, .ref d_o)]) hx hb dX4_takesNumber_67 hl (k := 2) rfl rfl (by decide) rfl (fun ls hl => ?_)
            refine lv_goto (tgt := 4) hx hb dX4_takesNumber_70 (by decide) ?_
            exact ih4 ((((jmax l1_4 0) * 10) + (dtext (dat_4.toNatClampNeg))) - 48) (l2_4 + 1) (dat_4 + 1) hm _ _ hP hD hS _ (lv_sub hl [2, 1, 0] rfl)
  exact hL4 _ _ _ _ hm _ _ hP hD hS _ (lv_sub hl [2, 1, 0] rfl)
def LX4_takesWord_2 (dtext : Nat → Int32) (dlength : Int32) (sL : Nat) (sb : Nat → Int32) : Nat → Int32 → Int32 → Option (Int32 × Int32)
  | 0, _, _ => none
  | n2 + 1, l2_2, dat_2 => bd1 (fJ0_length_8abf5 sL) (fun r4 => if r4 ≤ l2_2 then (some ((1 : Int32), dat_2)) else (bd1 (fJ0_charAt_5068e sL sb l2_2) (fun r13 => bd1 (fX4_isAt dtext dlength dat_2 r13) (fun r16 => if r16 = 0 then (some ((0 : Int32), dat_2)) else (LX4_takesWord_2 dtext dlength sL sb n2 (l2_2 + 1) (dat_2 + 1))))))
def fX4_takesWord (fu : Nat) (dtext : Nat → Int32) (dlength : Int32) (dat : Int32) (sL : Nat) (sb : Nat → Int32) : Option (Int32 × Int32) := LX4_takesWord_2 dtext dlength sL sb fu 0 dat
theorem hinX4_takesWord_X4 : ∀ w ∈ u_ws RX4 TX4 4, w ∈ wsX4_takesWord := fun _ h => List.mem_cons_of_mem _ (List.mem_append_right _ h)
abbrev rmX4_takesWord : Room := { frames := 4, cells := 0, slots := 0, locals := 97 }
set_option maxHeartbeats 4000000 in
set_option maxRecDepth 100000 in
theorem ctX4_takesWord {l : Launch} {dC : Nat → ClassId} {dI : Nat → Nat → Nat} {kc : Nat → ClassId} {d_o d_text s_q s_v : Nat} {dtext : Nat → Int32} {dlength : Int32} {dat : Int32} {dlibrary : Option Nat} {sL : Nat} {sb : Nat → Int32} {sf : Option Nat} {fu : Nat} {r : Int32} {dat' : Int32} (hm : fX4_takesWord fu dtext dlength dat sL sb = some (r, dat')) : ∀ sz : Nat, Met l yX4_takesWord wsX4_takesWord rmX4_takesWord (kPcX dC dI kc (xW s_q s_v sL sb sf) [.ref d_o, .ref s_q] (fl [wdX4 kc d_o d_text dtext dlength dat dlibrary]) sz) (kQi dC dI r (fl [wdX4 kc d_o d_text dtext dlength dat' dlibrary]) (va_A (fl [wdX4 kc d_o d_text dtext dlength dat dlibrary]) sz)) 0 0 (va_A (fl [wdX4 kc d_o d_text dtext dlength dat dlibrary]) sz) := by
  intro sz
  refine kMetX (cc := cX4_takesWord) (maxL := 3) (ret := (some .boolean)) (Qf := fun A => kQi dC dI r (fl [wdX4 kc d_o d_text dtext dlength dat' dlibrary]) A) (by decide) rfl (Nat.le_of_ble_eq_true rfl) ?_
  intro p e s m below meth c A ls hx hb hr hml hts hown hlocks hname hsz hA hP hK hD hX hl
  have hS : va_S A s.heap s.heap [] := va_S.rf
  have hl : lv_has ls 3 [(0, .ref d_o), (1, .ref s_q)] := hl
  unfold fX4_takesWord at hm
  refine lv_iconst (v := 0) hx hb dX4_takesWord_0 (by decide) ?_
  refine lv_istore_n (lv' := [(2, .int 0), (0, .ref d_o), (1, .ref s_q)]) hx hb dX4_takesWord_1 rfl hl (by decide) rfl (fun ls hl => ?_)
  have hL2 : ∀ (fn : Nat) (l2_2 : Int32) (dat_2 : Int32), LX4_takesWord_2 dtext dlength sL sb fn l2_2 dat_2 = some (r, dat') → ∀ (H : Heap) (locs : List Loc), va_P (dC, dI) vwCl (fl [wdX4 kc d_o d_text dtext dlength dat_2 dlibrary]) H → va_D A (fl [wdX4 kc d_o d_text dtext dlength dat_2 dlibrary]) → va_S A s.heap H locs → ∀ ls : Array Slot, lv_has ls 3 [(0, .ref d_o), (1, .ref s_q), (2, .int l2_2)] → W p l e (headSpec wsX4_takesWord rmX4_takesWord).room s m [.ref d_o, .ref s_q].toArray below meth c H locs 0 0 (MQ below (kQi dC dI r (fl [wdX4 kc d_o d_text dtext dlength dat' dlibrary]) A) [.ref d_o, .ref s_q].toArray s 0 0 A) (F0 m 2 ls []) := by
    clear hm hP hD hS hl
    intro n2
    induction n2 with
    | zero => intro l2_2 dat_2 hm; rw [LX4_takesWord_2] at hm; cases hm
    | succ n2 ih2 =>
      intro l2_2 dat_2 hm H locs hP hD hS ls hl
      rw [LX4_takesWord_2] at hm
      refine lv_iload_n hx hb dX4_takesWord_2 rfl (lv_at hl 2 rfl) ?_
      refine lv_aload_n hx hb dX4_takesWord_3 rfl (lv_at hl 1 rfl) ?_
      obtain ⟨r4, hc4, hm⟩ := bd1_e hm
      refine k_callXGVi (dC := dC) (dI := dI) (kc := kc) (As := []) (rest := [.int l2_2]) (Gs' := [wdX4 kc d_o d_text dtext dlength dat_2 dlibrary]) hx hb hml hown hts hK hP hD hS hA xW_ok hX (ctJ0_length_8abf5 (s_q := s_q) (s_v := s_v) (sL := sL) (sb := sb) (sf := sf) hc4) (cwV 0 hts gX4_takesWord_J0_length_8abf5 rfl rfl rfl (by decide +kernel) ⟨Nat.le_of_ble_eq_true rfl, Nat.le_of_ble_eq_true rfl⟩) [] rfl (by decide) (xW_recv hX hS) rfl hl rfl (Nat.le_of_ble_eq_true rfl) dX4_takesWord_4 ⟨Nat.zero_le _, Nat.zero_le _⟩ rfl rfl rfl (fun H locs hP hD hS => ?_)
      refine lv_icmp_ge (tgt := 40) hx hb dX4_takesWord_7 (by decide) (fun c7 => ?_) (fun c7 => ?_)
      · replace hm := it_t c7 hm
        refine lv_iconst (v := 1) hx hb dX4_takesWord_40 (by decide) ?_
        cases hm
        exact k_zret hx hb hr hlocks (by decide) hP hS dX4_takesWord_41
      · replace hm := it_f c7 hm
        refine lv_aload_n hx hb dX4_takesWord_10 rfl (lv_at hl 0 rfl) ?_
        refine lv_aload_n hx hb dX4_takesWord_11 rfl (lv_at hl 1 rfl) ?_
        refine lv_iload_n hx hb dX4_takesWord_12 rfl (lv_at hl 2 rfl) ?_
        obtain ⟨r13, hc13, hm⟩ := bd1_e hm
        refine k_callXGVi (dC := dC) (dI := dI) (kc := kc) (As := [.int l2_2]) (rest := [.ref d_o]) (Gs' := [wdX4 kc d_o d_text dtext dlength dat_2 dlibrary]) hx hb hml hown hts hK hP hD hS hA xW_ok hX (ctJ0_charAt_5068e (s_q := s_q) (s_v := s_v) (sL := sL) (sb := sb) (sf := sf) (x1 := l2_2) hc13) (cwV 1 hts gX4_takesWord_J0_charAt_5068e rfl rfl rfl (by decide +kernel) ⟨Nat.le_of_ble_eq_true rfl, Nat.le_of_ble_eq_true rfl⟩) [] rfl (by decide) (xW_recv hX hS) rfl hl rfl (Nat.le_of_ble_eq_true rfl) dX4_takesWord_13 ⟨Nat.zero_le _, Nat.zero_le _⟩ rfl rfl rfl (fun H locs hP hD hS => ?_)
        obtain ⟨r16, hc16, hm⟩ := bd1_e hm
        refine k_callGVi (dC := dC) (dI := dI) (kc := kc) (As := [.int r13]) (rest := []) (Gs' := [wdX4 kc d_o d_text dtext dlength dat_2 dlibrary]) hx hb hml hown hts hK hP hD hS hA (ctX4_isAt (d_o := d_o) (d_text := d_text) (dtext := dtext) (dlength := dlength) (dat := dat_2) (dlibrary := dlibrary) (x1 := r13) hc16) (cwV 1 hts gX4_takesWord_X4_isAt rfl rfl rfl (by decide +kernel) ⟨Nat.le_of_ble_eq_true rfl, Nat.le_of_ble_eq_true rfl⟩) [0] rfl (by decide) 4 rfl rfl rfl rfl hl rfl (Nat.le_of_ble_eq_true rfl) dX4_takesWord_16 ⟨Nat.zero_le _, Nat.zero_le _⟩ rfl rfl rfl (fun H locs hP hD hS => ?_)
        refine lv_if_ne (tgt := 24) hx hb dX4_takesWord_19 (by decide) (fun c19 => ?_) (fun c19 => ?_)
        · replace hm := it_f c19 hm
          refine lv_aload_n hx hb dX4_takesWord_24 rfl (lv_at hl 0 rfl) ?_
          refine lv_dup hx hb dX4_takesWord_25 rfl ?_
          refine va_get (D := (dC, dI)) (ci := 4) (v := .int dat_2) (C := RX4) (T := TX4) (N := 4) hx hb hts hinX4_takesWord_X4 hown hK hP 0 rfl rfl 2 (by decide) (hts _ (List.mem_of_getElem? (i := 1) rfl)) (fun _ h9 => h9) rfl dX4_takesWord_26 ?_
          refine lv_iconst (v := 1) hx hb dX4_takesWord_29 (by decide) ?_
          refine lv_iadd hx hb dX4_takesWord_30 ?_
          refine va_put (D := (dC, dI)) (ci := 4) (v := .int (dat_2 + 1)) (ty := .int) (C := RX4) (T := TX4) (N := 4) hx hb hts hinX4_takesWord_X4 tyX4 tyX4_ok nmX4 hown hK hP hD hS 0 rfl rfl 2 (by decide) (hts _ (List.mem_of_getElem? (i := 1) rfl)) (fun _ h9 => h9) rfl (by decide +kernel) rfl rfl (Nat.le_of_ble_eq_true rfl) dX4_takesWord_31 (fun H locs hP hD hS => ?_)
          have hP : va_P (dC, dI) vwCl (fl [wdX4 kc d_o d_text dtext dlength (dat_2 + 1) dlibrary]) H := hP
          have hD : va_D A (fl [wdX4 kc d_o d_text dtext dlength (dat_2 + 1) dlibrary]) := hD
          refine lv_iinc (v := l2_2 + 1) (lv' := [(2, .int (l2_2 + 1)), (0, .ref d_o), (1, .ref s_q)]) hx hb dX4_takesWord_34 hl (k := 2) rfl rfl (by decide) rfl (fun ls hl => ?_)
          refine lv_goto (tgt := 2) hx hb dX4_takesWord_37 (by decide) ?_
          exact ih2 (l2_2 + 1) (dat_2 + 1) hm _ _ hP hD hS _ (lv_sub hl [1, 2, 0] rfl)
        · replace hm := it_t c19 hm
          refine lv_iconst (v := 0) hx hb dX4_takesWord_22 (by decide) ?_
          cases hm
          exact k_zret hx hb hr hlocks (by decide) hP hS dX4_takesWord_23
  exact hL2 _ _ _ hm _ _ hP hD hS _ (lv_sub hl [1, 2, 0] rfl)
def fX4_takesOneOf (fu : Nat) (dtext : Nat → Int32) (dlength : Int32) (dat : Int32) (sL : Nat) (sb : Nat → Int32) : Option (Int32 × Int32) := if dlength ≤ dat then (some (((-1) : Int32), dat)) else (gd (inb dat 100) (bd1 (fJ0_indexOf_0f7a4 fu sL sb (dtext (dat.toNatClampNeg))) (fun r21 => if r21 < 0 then (some (r21, dat)) else (some (r21, dat + 1)))))
theorem hinX4_takesOneOf_X4 : ∀ w ∈ u_ws RX4 TX4 4, w ∈ wsX4_takesOneOf := fun _ h => List.mem_cons_of_mem _ (List.mem_append_right _ h)
abbrev rmX4_takesOneOf : Room := { frames := 4, cells := 0, slots := 0, locals := 103 }
set_option maxHeartbeats 4000000 in
set_option maxRecDepth 100000 in
theorem ctX4_takesOneOf {l : Launch} {dC : Nat → ClassId} {dI : Nat → Nat → Nat} {kc : Nat → ClassId} {d_o d_text s_q s_v : Nat} {dtext : Nat → Int32} {dlength : Int32} {dat : Int32} {dlibrary : Option Nat} {sL : Nat} {sb : Nat → Int32} {sf : Option Nat} {fu : Nat} {r : Int32} {dat' : Int32} (hm : fX4_takesOneOf fu dtext dlength dat sL sb = some (r, dat')) : ∀ sz : Nat, Met l yX4_takesOneOf wsX4_takesOneOf rmX4_takesOneOf (kPcX dC dI kc (xW s_q s_v sL sb sf) [.ref d_o, .ref s_q] (fl [wdX4 kc d_o d_text dtext dlength dat dlibrary]) sz) (kQi dC dI r (fl [wdX4 kc d_o d_text dtext dlength dat' dlibrary]) (va_A (fl [wdX4 kc d_o d_text dtext dlength dat dlibrary]) sz)) 0 0 (va_A (fl [wdX4 kc d_o d_text dtext dlength dat dlibrary]) sz) := by
  intro sz
  refine kMetX (cc := cX4_takesOneOf) (maxL := 3) (ret := (some .int)) (Qf := fun A => kQi dC dI r (fl [wdX4 kc d_o d_text dtext dlength dat' dlibrary]) A) (by decide) rfl (Nat.le_of_ble_eq_true rfl) ?_
  intro p e s m below meth c A ls hx hb hr hml hts hown hlocks hname hsz hA hP hK hD hX hl
  have hS : va_S A s.heap s.heap [] := va_S.rf
  have hl : lv_has ls 3 [(0, .ref d_o), (1, .ref s_q)] := hl
  unfold fX4_takesOneOf at hm
  refine lv_aload_n hx hb dX4_takesOneOf_0 rfl (lv_at hl 0 rfl) ?_
  refine va_get (D := (dC, dI)) (ci := 4) (v := .int dat) (C := RX4) (T := TX4) (N := 4) hx hb hts hinX4_takesOneOf_X4 hown hK hP 0 rfl rfl 2 (by decide) (hts _ (List.mem_of_getElem? (i := 1) rfl)) (fun _ h9 => h9) rfl dX4_takesOneOf_1 ?_
  refine lv_aload_n hx hb dX4_takesOneOf_4 rfl (lv_at hl 0 rfl) ?_
  refine va_get (D := (dC, dI)) (ci := 4) (v := .int dlength) (C := RX4) (T := TX4) (N := 4) hx hb hts hinX4_takesOneOf_X4 hown hK hP 0 rfl rfl 1 (by decide) (hts _ (List.mem_of_getElem? (i := 2) rfl)) (fun _ h9 => h9) rfl dX4_takesOneOf_5 ?_
  refine lv_icmp_ge (tgt := 27) hx hb dX4_takesOneOf_8 (by decide) (fun c8 => ?_) (fun c8 => ?_)
  · replace hm := it_t c8 hm
    refine lv_iconst (v := (-1)) hx hb dX4_takesOneOf_27 (by decide) ?_
    refine lv_istore_n (lv' := [(2, .int (-1)), (0, .ref d_o), (1, .ref s_q)]) hx hb dX4_takesOneOf_28 rfl hl (by decide) rfl (fun ls hl => ?_)
    refine lv_iload_n hx hb dX4_takesOneOf_29 rfl (lv_at hl 0 rfl) ?_
    refine lv_if_lt (tgt := 43) hx hb dX4_takesOneOf_30 (by decide) (fun c30 => ?_) (fun c30 => ?_)
    rotate_left
    · exact absurd c30 (by decide)
    refine lv_iload_n hx hb dX4_takesOneOf_43 rfl (lv_at hl 0 rfl) ?_
    cases hm
    exact k_iret hx hb hr hlocks hP hS dX4_takesOneOf_44
  · replace hm := it_f c8 hm
    refine lv_aload_n hx hb dX4_takesOneOf_11 rfl (lv_at hl 1 rfl) ?_
    refine lv_aload_n hx hb dX4_takesOneOf_12 rfl (lv_at hl 0 rfl) ?_
    refine va_get (D := (dC, dI)) (ci := 4) (v := .ref d_text) (C := RX4) (T := TX4) (N := 4) hx hb hts hinX4_takesOneOf_X4 hown hK hP 0 rfl rfl 0 (by decide) (hts _ (List.mem_of_getElem? (i := 3) rfl)) (fun _ h9 => h9) rfl dX4_takesOneOf_13 ?_
    refine lv_aload_n hx hb dX4_takesOneOf_16 rfl (lv_at hl 0 rfl) ?_
    refine va_get (D := (dC, dI)) (ci := 4) (v := .int dat) (C := RX4) (T := TX4) (N := 4) hx hb hts hinX4_takesOneOf_X4 hown hK hP 0 rfl rfl 2 (by decide) (hts _ (List.mem_of_getElem? (i := 1) rfl)) (fun _ h9 => h9) rfl dX4_takesOneOf_17 ?_
    obtain ⟨hg20, hm⟩ := gd_e hm
    refine k_cald (D := (dC, dI)) hx hb hK hP 1 0 rfl rfl (k := dat.toNatClampNeg) rfl hg20 dX4_takesOneOf_20 ?_
    obtain ⟨r21, hc21, hm⟩ := bd1_e hm
    refine k_callXGVi (dC := dC) (dI := dI) (kc := kc) (As := [.int (dtext (dat.toNatClampNeg))]) (rest := []) (Gs' := [wdX4 kc d_o d_text dtext dlength dat dlibrary]) hx hb hml hown hts hK hP hD hS hA xW_ok hX (ctJ0_indexOf_0f7a4 (s_q := s_q) (s_v := s_v) (sL := sL) (sb := sb) (sf := sf) (x1 := dtext (dat.toNatClampNeg)) hc21) (cwV 1 hts gX4_takesOneOf_J0_indexOf_0f7a4 rfl rfl rfl (by decide +kernel) ⟨Nat.le_of_ble_eq_true rfl, Nat.le_of_ble_eq_true rfl⟩) [] rfl (by decide) (xW_recv hX hS) rfl hl rfl (Nat.le_of_ble_eq_true rfl) dX4_takesOneOf_21 ⟨Nat.zero_le _, Nat.zero_le _⟩ rfl rfl rfl (fun H locs hP hD hS => ?_)
    refine lv_goto (tgt := 28) hx hb dX4_takesOneOf_24 (by decide) ?_
    refine lv_istore_n (lv' := [(2, .int r21), (0, .ref d_o), (1, .ref s_q)]) hx hb dX4_takesOneOf_28 rfl hl (by decide) rfl (fun ls hl => ?_)
    refine lv_iload_n hx hb dX4_takesOneOf_29 rfl (lv_at hl 0 rfl) ?_
    refine lv_if_lt (tgt := 43) hx hb dX4_takesOneOf_30 (by decide) (fun c30 => ?_) (fun c30 => ?_)
    · replace hm := it_t c30 hm
      refine lv_iload_n hx hb dX4_takesOneOf_43 rfl (lv_at hl 0 rfl) ?_
      cases hm
      exact k_iret hx hb hr hlocks hP hS dX4_takesOneOf_44
    · replace hm := it_f c30 hm
      refine lv_aload_n hx hb dX4_takesOneOf_33 rfl (lv_at hl 1 rfl) ?_
      refine lv_dup hx hb dX4_takesOneOf_34 rfl ?_
      refine va_get (D := (dC, dI)) (ci := 4) (v := .int dat) (C := RX4) (T := TX4) (N := 4) hx hb hts hinX4_takesOneOf_X4 hown hK hP 0 rfl rfl 2 (by decide) (hts _ (List.mem_of_getElem? (i := 1) rfl)) (fun _ h9 => h9) rfl dX4_takesOneOf_35 ?_
      refine lv_iconst (v := 1) hx hb dX4_takesOneOf_38 (by decide) ?_
      refine lv_iadd hx hb dX4_takesOneOf_39 ?_
      refine va_put (D := (dC, dI)) (ci := 4) (v := .int (dat + 1)) (ty := .int) (C := RX4) (T := TX4) (N := 4) hx hb hts hinX4_takesOneOf_X4 tyX4 tyX4_ok nmX4 hown hK hP hD hS 0 rfl rfl 2 (by decide) (hts _ (List.mem_of_getElem? (i := 1) rfl)) (fun _ h9 => h9) rfl (by decide +kernel) rfl rfl (Nat.le_of_ble_eq_true rfl) dX4_takesOneOf_40 (fun H locs hP hD hS => ?_)
      have hP : va_P (dC, dI) vwCl (fl [wdX4 kc d_o d_text dtext dlength (dat + 1) dlibrary]) H := hP
      have hD : va_D A (fl [wdX4 kc d_o d_text dtext dlength (dat + 1) dlibrary]) := hD
      refine lv_iload_n hx hb dX4_takesOneOf_43 rfl (lv_at hl 0 rfl) ?_
      cases hm
      exact k_iret hx hb hr hlocks hP hS dX4_takesOneOf_44
