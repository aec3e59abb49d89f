abbrev wdX4 (kc : Nat → ClassId) (a_o a_text : Nat) (c_text : Nat → Int32) (c_length : Int32) (c_at : Int32) (c_library : Option Nat) : va_W := [(a_o, .inr (4, [.ref a_text, .int c_length, .int c_at, va_rf c_library])), (a_text, .inl (kc 0, 100, .inl c_text))]
def fX4_addSign (dtext : Nat → Int32) (dlength : Int32) (x1 : Int32) : Option (Int32 × (Nat → Int32) × Int32) := gd (inb dlength 100) (some (dlength + 1, upd dtext (dlength.toNatClampNeg) (vp_nar .char ((x1.toUInt32 % 65536).toInt32)), dlength + 1))
theorem hinX4_addSign_X4 : ∀ w ∈ u_ws RX4 TX4 4, w ∈ wsX4_addSign := fun _ h => List.mem_cons_of_mem _ (List.mem_append_right _ h)
abbrev rmX4_addSign : Room := { frames := 0, cells := 0, slots := 0, locals := 12 }
set_option maxHeartbeats 4000000 in
set_option maxRecDepth 100000 in
theorem ctX4_addSign {l : Launch} {dC : Nat → ClassId} {dI : Nat → Nat → Nat} {kc : Nat → ClassId} {d_o d_text : Nat} {dtext : Nat → Int32} {dlength : Int32} {dat : Int32} {dlibrary : Option Nat} {x1 : Int32} {r : Int32} {dtext' : Nat → Int32} {dlength' : Int32} (hm : fX4_addSign dtext dlength x1 = some (r, dtext', dlength')) : ∀ sz : Nat, Met l yX4_addSign wsX4_addSign rmX4_addSign (kPc dC dI kc [.ref d_o, .int x1] (fl [wdX4 kc d_o d_text dtext dlength dat dlibrary]) sz) (kQi dC dI r (fl [wdX4 kc d_o d_text dtext' dlength' dat dlibrary]) (va_A (fl [wdX4 kc d_o d_text dtext dlength dat dlibrary]) sz)) 0 0 (va_A (fl [wdX4 kc d_o d_text dtext dlength dat dlibrary]) sz) := by
  intro sz
  refine kMet (cc := cX4_addSign) (maxL := 2) (ret := (some .int)) (Qf := fun A => kQi dC dI r (fl [wdX4 kc d_o d_text dtext' dlength' dat dlibrary]) A) (by decide) rfl (Nat.le_of_ble_eq_true rfl) ?_
  intro p e s m below meth c A ls hx hb hr hml hts hown hlocks hname hsz hA hP hK hD hl
  have hS : va_S A s.heap s.heap [] := va_S.rf
  have hl : lv_has ls 2 [(0, .ref d_o), (1, .int x1)] := hl
  unfold fX4_addSign at hm
  refine lv_aload_n hx hb dX4_addSign_0 rfl (lv_at hl 0 rfl) ?_
  refine va_get (D := (dC, dI)) (ci := 4) (v := .ref d_text) (C := RX4) (T := TX4) (N := 4) hx hb hts hinX4_addSign_X4 hown hK hP 0 rfl rfl 0 (by decide) (hts _ (List.mem_of_getElem? (i := 1) rfl)) (fun _ h9 => h9) rfl dX4_addSign_1 ?_
  refine lv_aload_n hx hb dX4_addSign_4 rfl (lv_at hl 0 rfl) ?_
  refine va_get (D := (dC, dI)) (ci := 4) (v := .int dlength) (C := RX4) (T := TX4) (N := 4) hx hb hts hinX4_addSign_X4 hown hK hP 0 rfl rfl 1 (by decide) (hts _ (List.mem_of_getElem? (i := 2) rfl)) (fun _ h9 => h9) rfl dX4_addSign_5 ?_
  refine lv_iload_n hx hb dX4_addSign_8 rfl (lv_at hl 1 rfl) ?_
  refine lv_i2c hx hb dX4_addSign_9 rfl ?_
  obtain ⟨hg10, hm⟩ := gd_e hm
  refine k_cast (D := (dC, dI)) hx hb hK hP hD hS 1 0 rfl rfl (k := dlength.toNatClampNeg) rfl hg10 dX4_addSign_10 (fun H locs hP hD hS => ?_)
  have hP : va_P (dC, dI) vwCl (fl [wdX4 kc d_o d_text (upd dtext (dlength.toNatClampNeg) (vp_nar .char ((x1.toUInt32 % 65536).toInt32))) dlength dat dlibrary]) H := hP
  have hD : va_D A (fl [wdX4 kc d_o d_text (upd dtext (dlength.toNatClampNeg) (vp_nar .char ((x1.toUInt32 % 65536).toInt32))) dlength dat dlibrary]) := hD
  refine lv_aload_n hx hb dX4_addSign_11 rfl (lv_at hl 0 rfl) ?_
  refine lv_dup hx hb dX4_addSign_12 rfl ?_
  refine va_get (D := (dC, dI)) (ci := 4) (v := .int dlength) (C := RX4) (T := TX4) (N := 4) hx hb hts hinX4_addSign_X4 hown hK hP 0 rfl rfl 1 (by decide) (hts _ (List.mem_of_getElem? (i := 2) rfl)) (fun _ h9 => h9) rfl dX4_addSign_13 ?_
  refine lv_iconst (v := 1) hx hb dX4_addSign_16 (by decide) ?_
  refine lv_iadd hx hb dX4_addSign_17 ?_
  refine va_put (D := (dC, dI)) (ci := 4) (v := .int (dlength + 1)) (ty := .int) (C := RX4) (T := TX4) (N := 4) hx hb hts hinX4_addSign_X4 tyX4 tyX4_ok nmX4 hown hK hP hD hS 0 rfl rfl 1 (by decide) (hts _ (List.mem_of_getElem? (i := 2) rfl)) (fun _ h9 => h9) rfl (by decide +kernel) rfl rfl (Nat.le_of_ble_eq_true rfl) dX4_addSign_18 (fun H locs hP hD hS => ?_)
  have hP : va_P (dC, dI) vwCl (fl [wdX4 kc d_o d_text (upd dtext (dlength.toNatClampNeg) (vp_nar .char ((x1.toUInt32 % 65536).toInt32))) (dlength + 1) dat dlibrary]) H := hP
  have hD : va_D A (fl [wdX4 kc d_o d_text (upd dtext (dlength.toNatClampNeg) (vp_nar .char ((x1.toUInt32 % 65536).toInt32))) (dlength + 1) dat dlibrary]) := hD
  refine lv_aload_n hx hb dX4_addSign_21 rfl (lv_at hl 0 rfl) ?_
  refine va_get (D := (dC, dI)) (ci := 4) (v := .int (dlength + 1)) (C := RX4) (T := TX4) (N := 4) hx hb hts hinX4_addSign_X4 hown hK hP 0 rfl rfl 1 (by decide) (hts _ (List.mem_of_getElem? (i := 2) rfl)) (fun _ h9 => h9) rfl dX4_addSign_22 ?_
  cases hm
  exact k_iret hx hb hr hlocks hP hS dX4_addSign_25
def fX4_isAt (dtext : Nat → Int32) (dlength : Int32) (dat : Int32) (x1 : Int32) : Option Int32 := if dlength ≤ dat then (some (0 : Int32)) else (gd (inb dat 100) (if (dtext (dat.toNatClampNeg)) = x1 then (some (1 : Int32)) else (some (0 : Int32))))
theorem hinX4_isAt_X4 : ∀ w ∈ u_ws RX4 TX4 4, w ∈ wsX4_isAt := fun _ h => List.mem_cons_of_mem _ (List.mem_append_right _ h)
abbrev rmX4_isAt : Room := { frames := 0, cells := 0, slots := 0, locals := 12 }
set_option maxHeartbeats 4000000 in
set_option maxRecDepth 100000 in
theorem ctX4_isAt {l : Launch} {dC : Nat → ClassId} {dI : Nat → Nat → Nat} {kc : Nat → ClassId} {d_o d_text : Nat} {dtext : Nat → Int32} {dlength : Int32} {dat : Int32} {dlibrary : Option Nat} {x1 : Int32} {r : Int32} (hm : fX4_isAt dtext dlength dat x1 = some r) : ∀ sz : Nat, Met l yX4_isAt wsX4_isAt rmX4_isAt (kPc dC dI kc [.ref d_o, .int x1] (fl [wdX4 kc d_o d_text dtext dlength dat dlibrary]) sz) (kQi dC dI r (fl [wdX4 kc d_o d_text dtext dlength dat dlibrary]) (va_A (fl [wdX4 kc d_o d_text dtext dlength dat dlibrary]) sz)) 0 0 (va_A (fl [wdX4 kc d_o d_text dtext dlength dat dlibrary]) sz) := by
  intro sz
  refine kMet (cc := cX4_isAt) (maxL := 2) (ret := (some .boolean)) (Qf := fun A => kQi dC dI r (fl [wdX4 kc d_o d_text dtext dlength dat dlibrary]) A) (by decide) rfl (Nat.le_of_ble_eq_true rfl) ?_
  intro p e s m below meth c A ls hx hb hr hml hts hown hlocks hname hsz hA hP hK hD hl
  have hS : va_S A s.heap s.heap [] := va_S.rf
  have hl : lv_has ls 2 [(0, .ref d_o), (1, .int x1)] := hl
  unfold fX4_isAt at hm
  refine lv_aload_n hx hb dX4_isAt_0 rfl (lv_at hl 0 rfl) ?_
  refine va_get (D := (dC, dI)) (ci := 4) (v := .int dat) (C := RX4) (T := TX4) (N := 4) hx hb hts hinX4_isAt_X4 hown hK hP 0 rfl rfl 2 (by decide) (hts _ (List.mem_of_getElem? (i := 1) rfl)) (fun _ h9 => h9) rfl dX4_isAt_1 ?_
  refine lv_aload_n hx hb dX4_isAt_4 rfl (lv_at hl 0 rfl) ?_
  refine va_get (D := (dC, dI)) (ci := 4) (v := .int dlength) (C := RX4) (T := TX4) (N := 4) hx hb hts hinX4_isAt_X4 hown hK hP 0 rfl rfl 1 (by decide) (hts _ (List.mem_of_getElem? (i := 2) rfl)) (fun _ h9 => h9) rfl dX4_isAt_5 ?_
  refine lv_icmp_ge (tgt := 28) hx hb dX4_isAt_8 (by decide) (fun c8 => ?_) (fun c8 => ?_)
  · replace hm := it_t c8 hm
    refine lv_iconst (v := 0) hx hb dX4_isAt_28 (by decide) ?_
    cases hm
    exact k_zret hx hb hr hlocks (by decide) hP hS dX4_isAt_29
  · replace hm := it_f c8 hm
    refine lv_aload_n hx hb dX4_isAt_11 rfl (lv_at hl 0 rfl) ?_
    refine va_get (D := (dC, dI)) (ci := 4) (v := .ref d_text) (C := RX4) (T := TX4) (N := 4) hx hb hts hinX4_isAt_X4 hown hK hP 0 rfl rfl 0 (by decide) (hts _ (List.mem_of_getElem? (i := 3) rfl)) (fun _ h9 => h9) rfl dX4_isAt_12 ?_
    refine lv_aload_n hx hb dX4_isAt_15 rfl (lv_at hl 0 rfl) ?_
    refine va_get (D := (dC, dI)) (ci := 4) (v := .int dat) (C := RX4) (T := TX4) (N := 4) hx hb hts hinX4_isAt_X4 hown hK hP 0 rfl rfl 2 (by decide) (hts _ (List.mem_of_getElem? (i := 1) rfl)) (fun _ h9 => h9) rfl dX4_isAt_16 ?_
    obtain ⟨hg19, hm⟩ := gd_e hm
    refine k_cald (D := (dC, dI)) hx hb hK hP 1 0 rfl rfl (k := dat.toNatClampNeg) rfl hg19 dX4_isAt_19 ?_
    refine lv_iload_n hx hb dX4_isAt_20 rfl (lv_at hl 1 rfl) ?_
    refine lv_icmp_ne (tgt := 28) hx hb dX4_isAt_21 (by decide) (fun c21 => ?_) (fun c21 => ?_)
    · replace hm := it_f c21 hm
      refine lv_iconst (v := 0) hx hb dX4_isAt_28 (by decide) ?_
      cases hm
      exact k_zret hx hb hr hlocks (by decide) hP hS dX4_isAt_29
    · replace hm := it_t c21 hm
      refine lv_iconst (v := 1) hx hb dX4_isAt_24 (by decide) ?_
      refine lv_goto (tgt := 29) hx hb dX4_isAt_25 (by decide) ?_
      cases hm
      exact k_zret hx hb hr hlocks (by decide) hP hS dX4_isAt_29
def fX4_isDigit (x1 : Int32) : Option Int32 := if x1 < 48 then (some (0 : Int32)) else (if 57 < x1 then (some (0 : Int32)) else (some (1 : Int32)))
abbrev rmX4_isDigit : Room := { frames := 0, cells := 0, slots := 0, locals := 12 }
set_option maxHeartbeats 4000000 in
set_option maxRecDepth 100000 in
theorem ctX4_isDigit {l : Launch} {dC : Nat → ClassId} {dI : Nat → Nat → Nat} {kc : Nat → ClassId} {x1 : Int32} {r : Int32} (hm : fX4_isDigit x1 = some r) : ∀ sz : Nat, Met l yX4_isDigit wsX4_isDigit rmX4_isDigit (kPc dC dI kc [.int x1] (fl []) sz) (kQi dC dI r (fl []) (va_A (fl []) sz)) 0 0 (va_A (fl []) sz) := by
  intro sz
  refine kMet (cc := cX4_isDigit) (maxL := 1) (ret := (some .boolean)) (Qf := fun A => kQi dC dI r (fl []) A) (by decide) rfl (Nat.le_of_ble_eq_true rfl) ?_
  intro p e s m below meth c A ls hx hb hr hml hts hown hlocks hname hsz hA hP hK hD hl
  have hS : va_S A s.heap s.heap [] := va_S.rf
  have hl : lv_has ls 1 [(0, .int x1)] := hl
  unfold fX4_isDigit at hm
  refine lv_iload_n hx hb dX4_isDigit_0 rfl (lv_at hl 0 rfl) ?_
  refine lv_bipush (v := 48) hx hb dX4_isDigit_1 (by decide) ?_
  refine lv_icmp_lt (tgt := 16) hx hb dX4_isDigit_3 (by decide) (fun c3 => ?_) (fun c3 => ?_)
  · replace hm := it_t c3 hm
    refine lv_iconst (v := 0) hx hb dX4_isDigit_16 (by decide) ?_
    cases hm
    exact k_zret hx hb hr hlocks (by decide) hP hS dX4_isDigit_17
  · replace hm := it_f c3 hm
    refine lv_iload_n hx hb dX4_isDigit_6 rfl (lv_at hl 0 rfl) ?_
    refine lv_bipush (v := 57) hx hb dX4_isDigit_7 (by decide) ?_
    refine lv_icmp_gt (tgt := 16) hx hb dX4_isDigit_9 (by decide) (fun c9 => ?_) (fun c9 => ?_)
    · replace hm := it_t c9 hm
      refine lv_iconst (v := 0) hx hb dX4_isDigit_16 (by decide) ?_
      cases hm
      exact k_zret hx hb hr hlocks (by decide) hP hS dX4_isDigit_17
    · replace hm := it_f c9 hm
      refine lv_iconst (v := 1) hx hb dX4_isDigit_12 (by decide) ?_
      refine lv_goto (tgt := 17) hx hb dX4_isDigit_13 (by decide) ?_
      cases hm
      exact k_zret hx hb hr hlocks (by decide) hP hS dX4_isDigit_17
def LX4_takesNumber_4 (dtext : Nat → Int32) (dlength : Int32) : Nat → Int32 → Int32 → Int32 → Option (Int32 × Int32)
  | 0, _, _, _ => none
  | n4 + 1, l1_4, l2_4, dat_4 => if 2 ≤ l2_4 then (some (l1_4, dat_4)) else (if dlength ≤ dat_4 then (some (l1_4, dat_4)) else (gd (inb dat_4 100) (bd1 (fX4_isDigit (dtext (dat_4.toNatClampNeg))) (fun r29 => if r29 = 0 then (some (l1_4, dat_4)) else (gd (inb dat_4 100) (LX4_takesNumber_4 dtext dlength n4 ((((jmax l1_4 0) * 10) + (dtext (dat_4.toNatClampNeg))) - 48) (l2_4 + 1) (dat_4 + 1)))))))
def fX4_takesNumber (fu : Nat) (dtext : Nat → Int32) (dlength : Int32) (dat : Int32) : Option (Int32 × Int32) := LX4_takesNumber_4 dtext dlength fu (-1) 0 dat
theorem hinX4_takesNumber_X4 : ∀ w ∈ u_ws RX4 TX4 4, w ∈ wsX4_takesNumber := fun _ h => List.mem_cons_of_mem _ (List.mem_append_right _ h)
abbrev rmX4_takesNumber : Room := { frames := 1, cells := 0, slots := 0, locals := 32 }
set_option maxHeartbeats 4000000 in
set_option maxRecDepth 100000 in
theorem ctX4_takesNumber {l : Launch} {dC : Nat → ClassId} {dI : Nat → Nat → Nat} {kc : Nat → ClassId} {d_o d_text : Nat} {dtext : Nat → Int32} {dlength : Int32} {dat : Int32} {dlibrary : Option Nat} {fu : Nat} {r : Int32} {dat' : Int32} (hm : fX4_takesNumber fu dtext dlength dat = some (r, dat')) : ∀ sz : Nat, Met l yX4_takesNumber wsX4_takesNumber rmX4_takesNumber (kPc dC dI kc [.ref d_o] (fl [wdX4 kc d_o d_text dtext dlength dat dlibrary]) sz) (kQi dC dI r (fl [wdX4 kc d_o d_text dtext dlength dat' dlibrary]) (va_A (fl [wdX4 kc d_o d_text dtext dlength dat dlibrary]) sz)) 0 0 (va_A (fl [wdX4 kc d_o d_text dtext dlength dat dlibrary]) sz) := by
  intro sz
  refine kMet (cc := cX4_takesNumber) (maxL := 3) (ret := (some .int)) (Qf := fun A => kQi dC dI r (fl [wdX4 kc d_o d_text dtext dlength dat' dlibrary]) A) (by decide) rfl (Nat.le_of_ble_eq_true rfl) ?_
  intro p e s m below meth c A ls hx hb hr hml hts hown hlocks hname hsz hA hP hK hD hl
  have hS : va_S A s.heap s.heap [] := va_S.rf
  have hl : lv_has ls 3 [(0, .ref d_o)] := hl
  unfold fX4_takesNumber at hm
  refine lv_iconst (v := (-1)) hx hb dX4_takesNumber_0 (by decide) ?_
  refine lv_istore_n (lv' := [(1, .int (-1)), (0, .ref d_o)]) hx hb dX4_takesNumber_1 rfl hl (by decide) rfl (fun ls hl => ?_)
  refine lv_iconst (v := 0) hx hb dX4_takesNumber_2 (by decide) ?_
  refine lv_istore_n (lv' := [(2, .int 0), (1, .int (-1)), (0, .ref d_o)]) hx hb dX4_takesNumber_3 rfl hl (by decide) rfl (fun ls hl => ?_)
  have hL4 : ∀ (n : Nat) (l1_4 : Int32) (l2_4 : Int32) (dat_4 : Int32), LX4_takesNumber_4 dtext dlength n l1_4 l2_4 dat_4 = some (r, dat') → ∀ (H : Heap) (locs : List Loc), va_P (dC, dI) vwCl (fl [wdX4 kc d_o d_text dtext dlength dat_4 dlibrary]) H → va_D A (fl [wdX4 kc d_o d_text dtext dlength dat_4 dlibrary]) → va_S A s.heap H locs → ∀ ls : Array Slot, lv_has ls 3 [(0, .ref d_o), (1, .int l1_4), (2, .int l2_4)] → W p l e (headSpec wsX4_takesNumber rmX4_takesNumber).room s m [.ref d_o].toArray below meth c H locs 0 0 (MQ below (kQi dC dI r (fl [wdX4 kc d_o d_text dtext dlength dat' dlibrary]) A) [.ref d_o].toArray s 0 0 A) (F0 m 4 ls []) := by
    clear hm hP hD hS hl
    intro n4
    induction n4 with
    | zero => intro l1_4 l2_4 dat_4 hm; rw [LX4_takesNumber_4] at hm; cases hm
    | succ n4 ih4 =>
      intro l1_4 l2_4 dat_4 hm H locs hP hD hS ls hl
      rw [LX4_takesNumber_4] at hm
      refine lv_iload_n hx hb dX4_takesNumber_4 rfl (lv_at hl 2 rfl) ?_
      refine lv_iconst (v := 2) hx hb dX4_takesNumber_5 (by decide) ?_
      refine lv_icmp_ge (tgt := 73) hx hb dX4_takesNumber_6 (by decide) (fun c6 => ?_) (fun c6 => ?_)
      · replace hm := it_t c6 hm
        refine lv_iload_n hx hb dX4_takesNumber_73 rfl (lv_at hl 1 rfl) ?_
        cases hm
        exact k_iret hx hb hr hlocks hP hS dX4_takesNumber_74
      · replace hm := it_f c6 hm
        refine lv_aload_n hx hb dX4_takesNumber_9 rfl (lv_at hl 0 rfl) ?_
        refine va_get (D := (dC, dI)) (ci := 4) (v := .int dat_4) (C := RX4) (T := TX4) (N := 4) hx hb hts hinX4_takesNumber_X4 hown hK hP 0 rfl rfl 2 (by decide) (hts _ (List.mem_of_getElem? (i := 1) rfl)) (fun _ h9 => h9) rfl dX4_takesNumber_10 ?_
        refine lv_aload_n hx hb dX4_takesNumber_13 rfl (lv_at hl 0 rfl) ?_
        refine va_get (D := (dC, dI)) (ci := 4) (v := .int dlength) (C := RX4) (T := TX4) (N := 4) hx hb hts hinX4_takesNumber_X4 hown hK hP 0 rfl rfl 1 (by decide) (hts _ (List.mem_of_getElem? (i := 2) rfl)) (fun _ h9 => h9) rfl dX4_takesNumber_14 ?_
        refine lv_icmp_ge (tgt := 73) hx hb dX4_takesNumber_17 (by decide) (fun c17 => ?_) (fun c17 => ?_)
        · replace hm := it_t c17 hm
          refine lv_iload_n hx hb dX4_takesNumber_73 rfl (lv_at hl 1 rfl) ?_
          cases hm
          exact k_iret hx hb hr hlocks hP hS dX4_takesNumber_74
        · replace hm := it_f c17 hm
          refine lv_aload_n hx hb dX4_takesNumber_20 rfl (lv_at hl 0 rfl) ?_
          refine va_get (D := (dC, dI)) (ci := 4) (v := .ref d_text) (C := RX4) (T := TX4) (N := 4) hx hb hts hinX4_takesNumber_X4 hown hK hP 0 rfl rfl 0 (by decide) (hts _ (List.mem_of_getElem? (i := 3) rfl)) (fun _ h9 => h9) rfl dX4_takesNumber_21 ?_
          refine lv_aload_n hx hb dX4_takesNumber_24 rfl (lv_at hl 0 rfl) ?_
          refine va_get (D := (dC, dI)) (ci := 4) (v := .int dat_4) (C := RX4) (T := TX4) (N := 4) hx hb hts hinX4_takesNumber_X4 hown hK hP 0 rfl rfl 2 (by decide) (hts _ (List.mem_of_getElem? (i := 1) rfl)) (fun _ h9 => h9) rfl dX4_takesNumber_25 ?_
          obtain ⟨hg28, hm⟩ := gd_e hm
          refine k_cald (D := (dC, dI)) hx hb hK hP 1 0 rfl rfl (k := dat_4.toNatClampNeg) rfl hg28 dX4_takesNumber_28 ?_
          obtain ⟨r29, hc29, hm⟩ := bd1_e hm
          refine k_callGSi (dC := dC) (dI := dI) (kc := kc) (As := [.int (dtext (dat_4.toNatClampNeg))]) (rest := []) (Gs' := [wdX4 kc d_o d_text dtext dlength dat_4 dlibrary]) hx hb hml hown hts hK hP hD hS hA (ctX4_isDigit (x1 := dtext (dat_4.toNatClampNeg)) hc29) (va_cwS 1 hts gX4_takesNumber_X4_isDigit rfl rfl rfl (by decide +kernel) ⟨Nat.le_of_ble_eq_true rfl, Nat.le_of_ble_eq_true rfl⟩) [] rfl (by decide) rfl hl rfl (Nat.le_of_ble_eq_true rfl) dX4_takesNumber_29 ⟨Nat.zero_le _, Nat.zero_le _⟩ rfl rfl rfl (fun H locs hP hD hS => ?_)
          refine lv_if_eq (tgt := 73) hx hb dX4_takesNumber_32 (by decide) (fun c32 => ?_) (fun c32 => ?_)
          · replace hm := it_t c32 hm
            refine lv_iload_n hx hb dX4_takesNumber_73 rfl (lv_at hl 1 rfl) ?_
            cases hm
            exact k_iret hx hb hr hlocks hP hS dX4_takesNumber_74
          · replace hm := it_f c32 hm
            refine lv_iload_n hx hb dX4_takesNumber_35 rfl (lv_at hl 1 rfl) ?_
            refine lv_iconst (v := 0) hx hb dX4_takesNumber_36 (by decide) ?_
            refine va_mmax hx hb (hml.trans hl.1.symm) hown (hts _ (List.mem_of_getElem? (i := 4) rfl)) (hts _ (List.mem_of_getElem? (i := 5) rfl)) (hts _ (List.mem_of_getElem? (i := 6) rfl)) (hts _ (List.mem_of_getElem? (i := 7) rfl)) (Nat.le_of_ble_eq_true rfl) (Nat.le_of_ble_eq_true rfl) (Nat.zero_le _) (Nat.zero_le _) dX4_takesNumber_37 ?_
            refine lv_bipush (v := 10) hx hb dX4_takesNumber_40 (by decide) ?_
            refine lv_imul hx hb dX4_takesNumber_42 ?_
            refine lv_aload_n hx hb dX4_takesNumber_43 rfl (lv_at hl 0 rfl) ?_
            refine va_get (D := (dC, dI)) (ci := 4) (v := .ref d_text) (C := RX4) (T := TX4) (N := 4) hx hb hts hinX4_takesNumber_X4 hown hK hP 0 rfl rfl 0 (by decide) (hts _ (List.mem_of_getElem? (i := 3) rfl)) (fun _ h9 => h9) rfl dX4_takesNumber_44 ?_
            refine lv_aload_n hx hb dX4_takesNumber_47 rfl (lv_at hl 0 rfl) ?_
            refine va_get (D := (dC, dI)) (ci := 4) (v := .int dat_4) (C := RX4) (T := TX4) (N := 4) hx hb hts hinX4_takesNumber_X4 hown hK hP 0 rfl rfl 2 (by decide) (hts _ (List.mem_of_getElem? (i := 1) rfl)) (fun _ h9 => h9) rfl dX4_takesNumber_48 ?_
            obtain ⟨hg51, hm⟩ := gd_e hm
            refine k_cald (D := (dC, dI)) hx hb hK hP 1 0 rfl rfl (k := dat_4.toNatClampNeg) rfl hg51 dX4_takesNumber_51 ?_
            refine lv_iadd hx hb dX4_takesNumber_52 ?_
            refine lv_bipush (v := 48) hx hb dX4_takesNumber_53 (by decide) ?_
            refine lv_isub hx hb dX4_takesNumber_55 ?_
            refine lv_istore_n (lv' := [(1, .int ((((jmax l1_4 0) * 10) + (dtext (dat_4.toNatClampNeg))) - 48)), (0, .ref d_o), (2, .int l2_4)]) hx hb dX4_takesNumber_56 rfl hl (by decide) rfl (fun ls hl => ?_)
            refine lv_aload_n hx hb dX4_takesNumber_57 rfl (lv_at hl 1 rfl) ?_
            refine lv_dup hx hb dX4_takesNumber_58 rfl ?_
            refine va_get (D := (dC, dI)) (ci := 4) (v := .int dat_4) (C := RX4) (T := TX4) (N := 4) hx hb hts hinX4_takesNumber_X4 hown hK hP 0 rfl rfl 2 (by decide) (hts _ (List.mem_of_getElem? (i := 1) rfl)) (fun _ h9 => h9) rfl dX4_takesNumber_59 ?_
            refine lv_iconst (v := 1) hx hb dX4_takesNumber_62 (by decide) ?_
            refine lv_iadd hx hb dX4_takesNumber_63 ?_
            refine va_put (D := (dC, dI)) (ci := 4) (v := .int (dat_4 + 1)) (ty := .int) (C := RX4) (T := TX4) (N := 4) hx hb hts hinX4_takesNumber_X4 tyX4 tyX4_ok nmX4 hown hK hP hD hS 0 rfl rfl 2 (by decide) (hts _ (List.mem_of_getElem? (i := 1) rfl)) (fun _ h9 => h9) rfl (by decide +kernel) rfl rfl (Nat.le_of_ble_eq_true rfl) dX4_takesNumber_64 (fun H locs hP hD hS => ?_)
            have hP : va_P (dC, dI) vwCl (fl [wdX4 kc d_o d_text dtext dlength (dat_4 + 1) dlibrary]) H := hP
            have hD : va_D A (fl [wdX4 kc d_o d_text dtext dlength (dat_4 + 1) dlibrary]) := hD
            refine lv_iinc (v := l2_4 + 1) (lv' := [(2, .int (l2_4 + 1)), (1, .int ((((jmax l1_4 0) * 10) + (dtext (dat_4.toNatClampNeg))) - 48)), (0, .ref d_o)]) hx hb dX4_takesNumber_67 hl (k := 2) rfl rfl (by decide) rfl (fun ls hl => ?_)
            refine lv_goto (tgt := 4) hx hb dX4_takesNumber_70 (by decide) ?_
            exact ih4 ((((jmax l1_4 0) * 10) + (dtext (dat_4.toNatClampNeg))) - 48) (l2_4 + 1) (dat_4 + 1) hm _ _ hP hD hS _ (lv_sub hl [2, 1, 0] rfl)
  exact hL4 _ _ _ _ hm _ _ hP hD hS _ (lv_sub hl [2, 1, 0] rfl)
def LX4_takesWord_2 (dtext : Nat → Int32) (dlength : Int32) (sL : Nat) (sb : Nat → Int32) : Nat → Int32 → Int32 → Option (Int32 × Int32)
  | 0, _, _ => none
  | n2 + 1, l2_2, dat_2 => bd1 (fJ0_length_8abf5 sL) (fun r4 => if r4 ≤ l2_2 then (some ((1 : Int32), dat_2)) else (bd1 (fJ0_charAt_5068e sL sb l2_2) (fun r13 => bd1 (fX4_isAt dtext dlength dat_2 r13) (fun r16 => if r16 = 0 then (some ((0 : Int32), dat_2)) else (LX4_takesWord_2 dtext dlength sL sb n2 (l2_2 + 1) (dat_2 + 1))))))
def fX4_takesWord (fu : Nat) (dtext : Nat → Int32) (dlength : Int32) (dat : Int32) (sL : Nat) (sb : Nat → Int32) : Option (Int32 × Int32) := LX4_takesWord_2 dtext dlength sL sb fu 0 dat
theorem hinX4_takesWord_X4 : ∀ w ∈ u_ws RX4 TX4 4, w ∈ wsX4_takesWord := fun _ h => List.mem_cons_of_mem _ (List.mem_append_right _ h)
abbrev rmX4_takesWord : Room := { frames := 4, cells := 0, slots := 0, locals := 97 }
set_option maxHeartbeats 4000000 in
set_option maxRecDepth 100000 in
theorem ctX4_takesWord {l : Launch} {dC : Nat → ClassId} {dI : Nat → Nat → Nat} {kc : Nat → ClassId} {d_o d_text s_q s_v : Nat} {dtext : Nat → Int32} {dlength : Int32} {dat : Int32} {dlibrary : Option Nat} {sL : Nat} {sb : Nat → Int32} {sf : Option Nat} {fu : Nat} {r : Int32} {dat' : Int32} (hm : fX4_takesWord fu dtext dlength dat sL sb = some (r, dat')) : ∀ sz : Nat, Met l yX4_takesWord wsX4_takesWord rmX4_takesWord (kPcX dC dI kc (xW s_q s_v sL sb sf) [.ref d_o, .ref s_q] (fl [wdX4 kc d_o d_text dtext dlength dat dlibrary]) sz) (kQi dC dI r (fl [wdX4 kc d_o d_text dtext dlength dat' dlibrary]) (va_A (fl [wdX4 kc d_o d_text dtext dlength dat dlibrary]) sz)) 0 0 (va_A (fl [wdX4 kc d_o d_text dtext dlength dat dlibrary]) sz) := by
  intro sz
  refine kMetX (cc := cX4_takesWord) (maxL := 3) (ret := (some .boolean)) (Qf := fun A => kQi dC dI r (fl [wdX4 kc d_o d_text dtext dlength dat' dlibrary]) A) (by decide) rfl (Nat.le_of_ble_eq_true rfl) ?_
  intro p e s m below meth c A ls hx hb hr hml hts hown hlocks hname hsz hA hP hK hD hX hl
  have hS : va_S A s.heap s.heap [] := va_S.rf
  have hl : lv_has ls 3 [(0, .ref d_o), (1, .ref s_q)] := hl
  unfold fX4_takesWord at hm
  refine lv_iconst (v := 0) hx hb dX4_takesWord_0 (by decide) ?_
  refine lv_istore_n (lv' := [(2, .int 0), (0, .ref d_o), (1, .ref s_q)]) hx hb dX4_takesWord_1 rfl hl (by decide) rfl (fun ls hl => ?_)
  have hL2 : ∀ (n : Nat) (l2_2 : Int32) (dat_2 : Int32), LX4_takesWord_2 dtext dlength sL sb n l2_2 dat_2 = some (r, dat') → ∀ (H : Heap) (locs : List Loc), va_P (dC, dI) vwCl (fl [wdX4 kc d_o d_text dtext dlength dat_2 dlibrary]) H → va_D A (fl [wdX4 kc d_o d_text dtext dlength dat_2 dlibrary]) → va_S A s.heap H locs → ∀ ls : Array Slot, lv_has ls 3 [(0, .ref d_o), (1, .ref s_q), (2, .int l2_2)] → W p l e (headSpec wsX4_takesWord rmX4_takesWord).room s m [.ref d_o, .ref s_q].toArray below meth c H locs 0 0 (MQ below (kQi dC dI r (fl [wdX4 kc d_o d_text dtext dlength dat' dlibrary]) A) [.ref d_o, .ref s_q].toArray s 0 0 A) (F0 m 2 ls []) := by
    clear hm hP hD hS hl
    intro n2
    induction n2 with
    | zero => intro l2_2 dat_2 hm; rw [LX4_takesWord_2] at hm; cases hm
    | succ n2 ih2 =>
      intro l2_2 dat_2 hm H locs hP hD hS ls hl
      rw [LX4_takesWord_2] at hm
      refine lv_iload_n hx hb dX4_takesWord_2 rfl (lv_at hl 2 rfl) ?_
      refine lv_aload_n hx hb dX4_takesWord_3 rfl (lv_at hl 1 rfl) ?_
      obtain ⟨r4, hc4, hm⟩ := bd1_e hm
      refine k_callXGVi (dC := dC) (dI := dI) (kc := kc) (As := []) (rest := [.int l2_2]) (Gs' := [wdX4 kc d_o d_text dtext dlength dat_2 dlibrary]) hx hb hml hown hts hK hP hD hS hA xW_ok hX (ctJ0_length_8abf5 (s_q := s_q) (s_v := s_v) (sL := sL) (sb := sb) (sf := sf) hc4) (cwV 0 hts gX4_takesWord_J0_length_8abf5 rfl rfl rfl (by decide +kernel) ⟨Nat.le_of_ble_eq_true rfl, Nat.le_of_ble_eq_true rfl⟩) [] rfl (by decide) (xW_recv hX hS) rfl hl rfl (Nat.le_of_ble_eq_true rfl) dX4_takesWord_4 ⟨Nat.zero_le _, Nat.zero_le _⟩ rfl rfl rfl (fun H locs hP hD hS => ?_)
      refine lv_icmp_ge (tgt := 40) hx hb dX4_takesWord_7 (by decide) (fun c7 => ?_) (fun c7 => ?_)
      · replace hm := it_t c7 hm
        refine lv_iconst (v := 1) hx hb dX4_takesWord_40 (by decide) ?_
        cases hm
        exact k_zret hx hb hr hlocks (by decide) hP hS dX4_takesWord_41
      · replace hm := it_f c7 hm
        refine lv_aload_n hx hb dX4_takesWord_10 rfl (lv_at hl 0 rfl) ?_
        refine lv_aload_n hx hb dX4_takesWord_11 rfl (lv_at hl 1 rfl) ?_
        refine lv_iload_n hx hb dX4_takesWord_12 rfl (lv_at hl 2 rfl) ?_
        obtain ⟨r13, hc13, hm⟩ := bd1_e hm
        refine k_callXGVi (dC := dC) (dI := dI) (kc := kc) (As := [.int l2_2]) (rest := [.ref d_o]) (Gs' := [wdX4 kc d_o d_text dtext dlength dat_2 dlibrary]) hx hb hml hown hts hK hP hD hS hA xW_ok hX (ctJ0_charAt_5068e (s_q := s_q) (s_v := s_v) (sL := sL) (sb := sb) (sf := sf) (x1 := l2_2) hc13) (cwV 1 hts gX4_takesWord_J0_charAt_5068e rfl rfl rfl (by decide +kernel) ⟨Nat.le_of_ble_eq_true rfl, Nat.le_of_ble_eq_true rfl⟩) [] rfl (by decide) (xW_recv hX hS) rfl hl rfl (Nat.le_of_ble_eq_true rfl) dX4_takesWord_13 ⟨Nat.zero_le _, Nat.zero_le _⟩ rfl rfl rfl (fun H locs hP hD hS => ?_)
        obtain ⟨r16, hc16, hm⟩ := bd1_e hm
        refine k_callGVi (dC := dC) (dI := dI) (kc := kc) (As := [.int r13]) (rest := []) (Gs' := [wdX4 kc d_o d_text dtext dlength dat_2 dlibrary]) hx hb hml hown hts hK hP hD hS hA (ctX4_isAt (d_o := d_o) (d_text := d_text) (dtext := dtext) (dlength := dlength) (dat := dat_2) (dlibrary := dlibrary) (x1 := r13) hc16) (cwV 1 hts gX4_takesWord_X4_isAt rfl rfl rfl (by decide +kernel) ⟨Nat.le_of_ble_eq_true rfl, Nat.le_of_ble_eq_true rfl⟩) [0] rfl (by decide) 4 rfl rfl rfl rfl hl rfl (Nat.le_of_ble_eq_true rfl) dX4_takesWord_16 ⟨Nat.zero_le _, Nat.zero_le _⟩ rfl rfl rfl (fun H locs hP hD hS => ?_)
        refine lv_if_ne (tgt := 24) hx hb dX4_takesWord_19 (by decide) (fun c19 => ?_) (fun c19 => ?_)
        · replace hm := it_f c19 hm
          refine lv_aload_n hx hb dX4_takesWord_24 rfl (lv_at hl 0 rfl) ?_
          refine lv_dup hx hb dX4_takesWord_25 rfl ?_
          refine va_get (D := (dC, dI)) (ci := 4) (v := .int dat_2) (C := RX4) (T := TX4) (N := 4) hx hb hts hinX4_takesWord_X4 hown hK hP 0 rfl rfl 2 (by decide) (hts _ (List.mem_of_getElem? (i := 1) rfl)) (fun _ h9 => h9) rfl dX4_takesWord_26 ?_
          refine lv_iconst (v := 1) hx hb dX4_takesWord_29 (by decide) ?_
          refine lv_iadd hx hb dX4_takesWord_30 ?_
          refine va_put (D := (dC, dI)) (ci := 4) (v := .int (dat_2 + 1)) (ty := .int) (C := RX4) (T := TX4) (N := 4) hx hb hts hinX4_takesWord_X4 tyX4 tyX4_ok nmX4 hown hK hP hD hS 0 rfl rfl 2 (by decide) (hts _ (List.mem_of_getElem? (i := 1) rfl)) (fun _ h9 => h9) rfl (by decide +kernel) rfl rfl (Nat.le_of_ble_eq_true rfl) dX4_takesWord_31 (fun H locs hP hD hS => ?_)
          have hP : va_P (dC, dI) vwCl (fl [wdX4 kc d_o d_text dtext dlength (dat_2 + 1) dlibrary]) H := hP
          have hD : va_D A (fl [wdX4 kc d_o d_text dtext dlength (dat_2 + 1) dlibrary]) := hD
          refine lv_iinc (v := l2_2 + 1) (lv' := [(2, .int (l2_2 + 1)), (0, .ref d_o), (1, .ref s_q)]) hx hb dX4_takesWord_34 hl (k := 2) rfl rfl (by decide) rfl (fun ls hl => ?_)
          refine lv_goto (tgt := 2) hx hb dX4_takesWord_37 (by decide) ?_
          exact ih2 (l2_2 + 1) (dat_2 + 1) hm _ _ hP hD hS _ (lv_sub hl [1, 2, 0] rfl)
        · replace hm := it_t c19 hm
          refine lv_iconst (v := 0) hx hb dX4_takesWord_22 (by decide) ?_
          cases hm
          exact k_zret hx hb hr hlocks (by decide) hP hS dX4_takesWord_23
  exact hL2 _ _ _ hm _ _ hP hD hS _ (lv_sub hl [1, 2, 0] rfl)
def fX4_takesOneOf (fu : Nat) (dtext : Nat → Int32) (dlength : Int32) (dat : Int32) (sL : Nat) (sb : Nat → Int32) : Option (Int32 × Int32) := if dlength ≤ dat then (some (((-1) : Int32), dat)) else (gd (inb dat 100) (bd1 (fJ0_indexOf_0f7a4 fu sL sb (dtext (dat.toNatClampNeg))) (fun r21 => if r21 < 0 then (some (r21, dat)) else (some (r21, dat + 1)))))
theorem hinX4_takesOneOf_X4 : ∀ w ∈ u_ws RX4 TX4 4, w ∈ wsX4_takesOneOf := fun _ h => List.mem_cons_of_mem _ (List.mem_append_right _ h)
abbrev rmX4_takesOneOf : Room := { frames := 4, cells := 0, slots := 0, locals := 103 }
set_option maxHeartbeats 4000000 in
set_option maxRecDepth 100000 in
theorem ctX4_takesOneOf {l : Launch} {dC : Nat → ClassId} {dI : Nat → Nat → Nat} {kc : Nat → ClassId} {d_o d_text s_q s_v : Nat} {dtext : Nat → Int32} {dlength : Int32} {dat : Int32} {dlibrary : Option Nat} {sL : Nat} {sb : Nat → Int32} {sf : Option Nat} {fu : Nat} {r : Int32} {dat' : Int32} (hm : fX4_takesOneOf fu dtext dlength dat sL sb = some (r, dat')) : ∀ sz : Nat, Met l yX4_takesOneOf wsX4_takesOneOf rmX4_takesOneOf (kPcX dC dI kc (xW s_q s_v sL sb sf) [.ref d_o, .ref s_q] (fl [wdX4 kc d_o d_text dtext dlength dat dlibrary]) sz) (kQi dC dI r (fl [wdX4 kc d_o d_text dtext dlength dat' dlibrary]) (va_A (fl [wdX4 kc d_o d_text dtext dlength dat dlibrary]) sz)) 0 0 (va_A (fl [wdX4 kc d_o d_text dtext dlength dat dlibrary]) sz) := by
  intro sz
  refine kMetX (cc := cX4_takesOneOf) (maxL := 3) (ret := (some .int)) (Qf := fun A => kQi dC dI r (fl [wdX4 kc d_o d_text dtext dlength dat' dlibrary]) A) (by decide) rfl (Nat.le_of_ble_eq_true rfl) ?_
  intro p e s m below meth c A ls hx hb hr hml hts hown hlocks hname hsz hA hP hK hD hX hl
  have hS : va_S A s.heap s.heap [] := va_S.rf
  have hl : lv_has ls 3 [(0, .ref d_o), (1, .ref s_q)] := hl
  unfold fX4_takesOneOf at hm
  refine lv_aload_n hx hb dX4_takesOneOf_0 rfl (lv_at hl 0 rfl) ?_
  refine va_get (D := (dC, dI)) (ci := 4) (v := .int dat) (C := RX4) (T := TX4) (N := 4) hx hb hts hinX4_takesOneOf_X4 hown hK hP 0 rfl rfl 2 (by decide) (hts _ (List.mem_of_getElem? (i := 1) rfl)) (fun _ h9 => h9) rfl dX4_takesOneOf_1 ?_
  refine lv_aload_n hx hb dX4_takesOneOf_4 rfl (lv_at hl 0 rfl) ?_
  refine va_get (D := (dC, dI)) (ci := 4) (v := .int dlength) (C := RX4) (T := TX4) (N := 4) hx hb hts hinX4_takesOneOf_X4 hown hK hP 0 rfl rfl 1 (by decide) (hts _ (List.mem_of_getElem? (i := 2) rfl)) (fun _ h9 => h9) rfl dX4_takesOneOf_5 ?_
  refine lv_icmp_ge (tgt := 27) hx hb dX4_takesOneOf_8 (by decide) (fun c8 => ?_) (fun c8 => ?_)
  · replace hm := it_t c8 hm
    refine lv_iconst (v := (-1)) hx hb dX4_takesOneOf_27 (by decide) ?_
    refine lv_istore_n (lv' := [(2, .int (-1)), (0, .ref d_o), (1, .ref s_q)]) hx hb dX4_takesOneOf_28 rfl hl (by decide) rfl (fun ls hl => ?_)
    refine lv_iload_n hx hb dX4_takesOneOf_29 rfl (lv_at hl 0 rfl) ?_
    refine lv_if_lt (tgt := 43) hx hb dX4_takesOneOf_30 (by decide) (fun c30 => ?_) (fun c30 => ?_)
    rotate_left
    · exact absurd c30 (by decide)
    refine lv_iload_n hx hb dX4_takesOneOf_43 rfl (lv_at hl 0 rfl) ?_
    cases hm
    exact k_iret hx hb hr hlocks hP hS dX4_takesOneOf_44
  · replace hm := it_f c8 hm
    refine lv_aload_n hx hb dX4_takesOneOf_11 rfl (lv_at hl 1 rfl) ?_
    refine lv_aload_n hx hb dX4_takesOneOf_12 rfl (lv_at hl 0 rfl) ?_
    refine va_get (D := (dC, dI)) (ci := 4) (v := .ref d_text) (C := RX4) (T := TX4) (N := 4) hx hb hts hinX4_takesOneOf_X4 hown hK hP 0 rfl rfl 0 (by decide) (hts _ (List.mem_of_getElem? (i := 3) rfl)) (fun _ h9 => h9) rfl dX4_takesOneOf_13 ?_
    refine lv_aload_n hx hb dX4_takesOneOf_16 rfl (lv_at hl 0 rfl) ?_
    refine va_get (D := (dC, dI)) (ci := 4) (v := .int dat) (C := RX4) (T := TX4) (N := 4) hx hb hts hinX4_takesOneOf_X4 hown hK hP 0 rfl rfl 2 (by decide) (hts _ (List.mem_of_getElem? (i := 1) rfl)) (fun _ h9 => h9) rfl dX4_takesOneOf_17 ?_
    obtain ⟨hg20, hm⟩ := gd_e hm
    refine k_cald (D := (dC, dI)) hx hb hK hP 1 0 rfl rfl (k := dat.toNatClampNeg) rfl hg20 dX4_takesOneOf_20 ?_
    obtain ⟨r21, hc21, hm⟩ := bd1_e hm
    refine k_callXGVi (dC := dC) (dI := dI) (kc := kc) (As := [.int (dtext (dat.toNatClampNeg))]) (rest := []) (Gs' := [wdX4 kc d_o d_text dtext dlength dat dlibrary]) hx hb hml hown hts hK hP hD hS hA xW_ok hX (ctJ0_indexOf_0f7a4 (s_q := s_q) (s_v := s_v) (sL := sL) (sb := sb) (sf := sf) (x1 := dtext (dat.toNatClampNeg)) hc21) (cwV 1 hts gX4_takesOneOf_J0_indexOf_0f7a4 rfl rfl rfl (by decide +kernel) ⟨Nat.le_of_ble_eq_true rfl, Nat.le_of_ble_eq_true rfl⟩) [] rfl (by decide) (xW_recv hX hS) rfl hl rfl (Nat.le_of_ble_eq_true rfl) dX4_takesOneOf_21 ⟨Nat.zero_le _, Nat.zero_le _⟩ rfl rfl rfl (fun H locs hP hD hS => ?_)
    refine lv_goto (tgt := 28) hx hb dX4_takesOneOf_24 (by decide) ?_
    refine lv_istore_n (lv' := [(2, .int r21), (0, .ref d_o), (1, .ref s_q)]) hx hb dX4_takesOneOf_28 rfl hl (by decide) rfl (fun ls hl => ?_)
    refine lv_iload_n hx hb dX4_takesOneOf_29 rfl (lv_at hl 0 rfl) ?_
    refine lv_if_lt (tgt := 43) hx hb dX4_takesOneOf_30 (by decide) (fun c30 => ?_) (fun c30 => ?_)
    · replace hm := it_t c30 hm
      refine lv_iload_n hx hb dX4_takesOneOf_43 rfl (lv_at hl 0 rfl) ?_
      cases hm
      exact k_iret hx hb hr hlocks hP hS dX4_takesOneOf_44
    · replace hm := it_f c30 hm
      refine lv_aload_n hx hb dX4_takesOneOf_33 rfl (lv_at hl 1 rfl) ?_
      refine lv_dup hx hb dX4_takesOneOf_34 rfl ?_
      refine va_get (D := (dC, dI)) (ci := 4) (v := .int dat) (C := RX4) (T := TX4) (N := 4) hx hb hts hinX4_takesOneOf_X4 hown hK hP 0 rfl rfl 2 (by decide) (hts _ (List.mem_of_getElem? (i := 1) rfl)) (fun _ h9 => h9) rfl dX4_takesOneOf_35 ?_
      refine lv_iconst (v := 1) hx hb dX4_takesOneOf_38 (by decide) ?_
      refine lv_iadd hx hb dX4_takesOneOf_39 ?_
      refine va_put (D := (dC, dI)) (ci := 4) (v := .int (dat + 1)) (ty := .int) (C := RX4) (T := TX4) (N := 4) hx hb hts hinX4_takesOneOf_X4 tyX4 tyX4_ok nmX4 hown hK hP hD hS 0 rfl rfl 2 (by decide) (hts _ (List.mem_of_getElem? (i := 1) rfl)) (fun _ h9 => h9) rfl (by decide +kernel) rfl rfl (Nat.le_of_ble_eq_true rfl) dX4_takesOneOf_40 (fun H locs hP hD hS => ?_)
      have hP : va_P (dC, dI) vwCl (fl [wdX4 kc d_o d_text dtext dlength (dat + 1) dlibrary]) H := hP
      have hD : va_D A (fl [wdX4 kc d_o d_text dtext dlength (dat + 1) dlibrary]) := hD
      refine lv_iload_n hx hb dX4_takesOneOf_43 rfl (lv_at hl 0 rfl) ?_
      cases hm
      exact k_iret hx hb hr hlocks hP hS dX4_takesOneOf_44
def fX4_takesTest (fu : Nat) (dtext : Nat → Int32) (dlength : Int32) (dat : Int32) (dlibrary : Option Nat) (bsorts : Nat → Int32) (bletters : Nat → Int32) (bnumbers : Nat → Int32) (bsize : Int32) : Option (Int32 × Int32 × (Nat → Int32) × (Nat → Int32) × (Nat → Int32) × Int32) := bd2 (fX4_takesOneOf fu dtext dlength dat 6 (tx 6)) (fun r3 dat_3 => if 0 ≤ r3 then (bd2 (fX4_takesOneOf fu dtext dlength dat_3 3 (tx 7)) (fun r16 dat_16 => if 0 ≤ r16 then (bd2 (fX4_takesNumber fu dtext dlength dat_16) (fun r27 dat_27 => if 0 ≤ r27 then (bd4 (fX3_put bsorts bletters bnumbers bsize r16 r3 r27) (fun bsorts_44 bletters_44 bnumbers_44 bsize_44 => some ((1 : Int32), dat_27, bsorts_44, bletters_44, bnumbers_44, bsize_44))) else (some ((0 : Int32), dat_27, bsorts, bletters, bnumbers, bsize)))) else (some ((0 : Int32), dat_16, bsorts, bletters, bnumbers, bsize)))) else (some ((0 : Int32), dat_3, bsorts, bletters, bnumbers, bsize)))
theorem hinX4_takesTest_X4 : ∀ w ∈ u_ws RX4 TX4 4, w ∈ wsX4_takesTest := fun _ h => List.mem_cons_of_mem _ (List.mem_append_left _ (List.mem_append_right _ h))
abbrev rmX4_takesTest : Room := { frames := 5, cells := 0, slots := 0, locals := 125 }
set_option maxHeartbeats 4000000 in
set_option maxRecDepth 100000 in
theorem ctX4_takesTest {l : Launch} {dC : Nat → ClassId} {dI : Nat → Nat → Nat} {kc : Nat → ClassId} {d_o d_text b_o b_sorts b_letters b_numbers : Nat} {adK adV : Nat → Nat} {sf : Option Nat} {dtext : Nat → Int32} {dlength : Int32} {dat : Int32} {dlibrary : Option Nat} {bsorts : Nat → Int32} {bletters : Nat → Int32} {bnumbers : Nat → Int32} {bsize : Int32} {bbear : Int32} {fu : Nat} {r : Int32} {dat' : Int32} {bsorts' : Nat → Int32} {bletters' : Nat → Int32} {bnumbers' : Nat → Int32} {bsize' : Int32} (hm : fX4_takesTest fu dtext dlength dat dlibrary bsorts bletters bnumbers bsize = some (r, dat', bsorts', bletters', bnumbers', bsize')) (hkdlibrary : dlibrary = some b_o) : ∀ sz : Nat, Met l yX4_takesTest wsX4_takesTest rmX4_takesTest (kPcX dC dI kc (xR adK adV sf) [.ref d_o] (fl [wdX4 kc d_o d_text dtext dlength dat dlibrary, wdX3 kc b_o b_sorts b_letters b_numbers bsorts bletters bnumbers bsize bbear]) sz) (kQi dC dI r (fl [wdX4 kc d_o d_text dtext dlength dat' dlibrary, wdX3 kc b_o b_sorts b_letters b_numbers bsorts' bletters' bnumbers' bsize' bbear]) (va_A (fl [wdX4 kc d_o d_text dtext dlength dat dlibrary, wdX3 kc b_o b_sorts b_letters b_numbers bsorts bletters bnumbers bsize bbear]) sz)) 0 0 (va_A (fl [wdX4 kc d_o d_text dtext dlength dat dlibrary, wdX3 kc b_o b_sorts b_letters b_numbers bsorts bletters bnumbers bsize bbear]) sz) := by
  intro sz
  refine kMetX (cc := cX4_takesTest) (maxL := 4) (ret := (some .boolean)) (Qf := fun A => kQi dC dI r (fl [wdX4 kc d_o d_text dtext dlength dat' dlibrary, wdX3 kc b_o b_sorts b_letters b_numbers bsorts' bletters' bnumbers' bsize' bbear]) A) (by decide) rfl (Nat.le_of_ble_eq_true rfl) ?_
  intro p e s m below meth c A ls hx hb hr hml hts hown hlocks hname hsz hA hP hK hD hX hl
  have hS : va_S A s.heap s.heap [] := va_S.rf
  have hl : lv_has ls 4 [(0, .ref d_o)] := hl
  unfold fX4_takesTest at hm
  refine lv_aload_n hx hb dX4_takesTest_0 rfl (lv_at hl 0 rfl) ?_
  refine va_ldcS (index := 100) (tx := "pkvxjs") (q := adK 6) hx hb hown (hX.2 6 (by decide)) dX4_takesTest_1 ?_
  obtain ⟨r3, dat_3, hc3, hm⟩ := bd2_e hm
  refine k_callXGVi (dC := dC) (dI := dI) (kc := kc) (As := [.ref (adK 6)]) (rest := []) (Gs' := [wdX4 kc d_o d_text dtext dlength dat_3 dlibrary, wdX3 kc b_o b_sorts b_letters b_numbers bsorts bletters bnumbers bsize bbear]) hx hb hml hown hts hK hP hD hS hA xW_ok (hX.1 6 (by decide)) (ctX4_takesOneOf (d_o := d_o) (d_text := d_text) (s_q := (adK 6)) (s_v := (adV 6)) (dtext := dtext) (dlength := dlength) (dat := dat) (dlibrary := dlibrary) (sL := 6) (sb := (tx 6)) (sf := sf) hc3) (cwV 1 hts gX4_takesTest_X4_takesOneOf rfl rfl rfl (by decide +kernel) ⟨Nat.le_of_ble_eq_true rfl, Nat.le_of_ble_eq_true rfl⟩) [0] rfl (by decide) (va_recv (q0 := 0) (ci := 4) hK hP rfl rfl) rfl hl rfl (Nat.le_of_ble_eq_true rfl) dX4_takesTest_3 ⟨Nat.zero_le _, Nat.zero_le _⟩ rfl rfl rfl (fun H locs hP hD hS => ?_)
  refine lv_istore_n (lv' := [(1, .int r3), (0, .ref d_o)]) hx hb dX4_takesTest_6 rfl hl (by decide) rfl (fun ls hl => ?_)
  refine lv_iload_n hx hb dX4_takesTest_7 rfl (lv_at hl 0 rfl) ?_
  refine lv_if_ge (tgt := 13) hx hb dX4_takesTest_8 (by decide) (fun c8 => ?_) (fun c8 => ?_)
  · replace hm := it_t c8 hm
    refine lv_aload_n hx hb dX4_takesTest_13 rfl (lv_at hl 1 rfl) ?_
    refine va_ldcS (index := 106) (tx := "<=>") (q := adK 7) hx hb hown (hX.2 7 (by decide)) dX4_takesTest_14 ?_
    obtain ⟨r16, dat_16, hc16, hm⟩ := bd2_e hm
    refine k_callXGVi (dC := dC) (dI := dI) (kc := kc) (As := [.ref (adK 7)]) (rest := []) (Gs' := [wdX4 kc d_o d_text dtext dlength dat_16 dlibrary, wdX3 kc b_o b_sorts b_letters b_numbers bsorts bletters bnumbers bsize bbear]) hx hb hml hown hts hK hP hD hS hA xW_ok (hX.1 7 (by decide)) (ctX4_takesOneOf (d_o := d_o) (d_text := d_text) (s_q := (adK 7)) (s_v := (adV 7)) (dtext := dtext) (dlength := dlength) (dat := dat_3) (dlibrary := dlibrary) (sL := 3) (sb := (tx 7)) (sf := sf) hc16) (cwV 1 hts gX4_takesTest_X4_takesOneOf rfl rfl rfl (by decide +kernel) ⟨Nat.le_of_ble_eq_true rfl, Nat.le_of_ble_eq_true rfl⟩) [0] rfl (by decide) (va_recv (q0 := 0) (ci := 4) hK hP rfl rfl) rfl hl rfl (Nat.le_of_ble_eq_true rfl) dX4_takesTest_16 ⟨Nat.zero_le _, Nat.zero_le _⟩ rfl rfl rfl (fun H locs hP hD hS => ?_)
    refine lv_istore_n (lv' := [(2, .int r16), (1, .int r3), (0, .ref d_o)]) hx hb dX4_takesTest_19 rfl hl (by decide) rfl (fun ls hl => ?_)
    refine lv_iload_n hx hb dX4_takesTest_20 rfl (lv_at hl 0 rfl) ?_
    refine lv_if_ge (tgt := 26) hx hb dX4_takesTest_21 (by decide) (fun c21 => ?_) (fun c21 => ?_)
    · replace hm := it_t c21 hm
      refine lv_aload_n hx hb dX4_takesTest_26 rfl (lv_at hl 2 rfl) ?_
      obtain ⟨r27, dat_27, hc27, hm⟩ := bd2_e hm
      refine k_callGVi (dC := dC) (dI := dI) (kc := kc) (As := []) (rest := []) (Gs' := [wdX4 kc d_o d_text dtext dlength dat_27 dlibrary, wdX3 kc b_o b_sorts b_letters b_numbers bsorts bletters bnumbers bsize bbear]) hx hb hml hown hts hK hP hD hS hA (ctX4_takesNumber (d_o := d_o) (d_text := d_text) (dtext := dtext) (dlength := dlength) (dat := dat_16) (dlibrary := dlibrary) hc27) (cwV 0 hts gX4_takesTest_X4_takesNumber rfl rfl rfl (by decide +kernel) ⟨Nat.le_of_ble_eq_true rfl, Nat.le_of_ble_eq_true rfl⟩) [0] rfl (by decide) 4 rfl rfl rfl rfl hl rfl (Nat.le_of_ble_eq_true rfl) dX4_takesTest_27 ⟨Nat.zero_le _, Nat.zero_le _⟩ rfl rfl rfl (fun H locs hP hD hS => ?_)
      refine lv_istore_n (lv' := [(3, .int r27), (2, .int r16), (1, .int r3), (0, .ref d_o)]) hx hb dX4_takesTest_30 rfl hl (by decide) rfl (fun ls hl => ?_)
      refine lv_iload_n hx hb dX4_takesTest_31 rfl (lv_at hl 0 rfl) ?_
      refine lv_if_ge (tgt := 37) hx hb dX4_takesTest_32 (by decide) (fun c32 => ?_) (fun c32 => ?_)
      · replace hm := it_t c32 hm
        refine lv_aload_n hx hb dX4_takesTest_37 rfl (lv_at hl 3 rfl) ?_
        refine va_get (D := (dC, dI)) (ci := 4) (v := .ref b_o) (C := RX4) (T := TX4) (N := 4) hx hb hts hinX4_takesTest_X4 hown hK hP 0 rfl rfl 3 (by decide) (hts _ (List.mem_of_getElem? (i := 1) rfl)) (fun _ h9 => h9) (by show some (va_rf dlibrary) = some (.ref b_o); rw [hkdlibrary]; rfl) dX4_takesTest_38 ?_
        refine lv_iload_n hx hb dX4_takesTest_41 rfl (lv_at hl 1 rfl) ?_
        refine lv_iload_n hx hb dX4_takesTest_42 rfl (lv_at hl 2 rfl) ?_
        refine lv_iload_n hx hb dX4_takesTest_43 rfl (lv_at hl 0 rfl) ?_
        obtain ⟨bsorts_44, bletters_44, bnumbers_44, bsize_44, hc44, hm⟩ := bd4_e hm
        refine k_callGVv (dC := dC) (dI := dI) (kc := kc) (As := [.int r16, .int r3, .int r27]) (rest := []) (Gs' := [wdX4 kc d_o d_text dtext dlength dat_27 dlibrary, wdX3 kc b_o b_sorts b_letters b_numbers bsorts_44 bletters_44 bnumbers_44 bsize_44 bbear]) hx hb hml hown hts hK hP hD hS hA (ctX3_put (b_o := b_o) (b_sorts := b_sorts) (b_letters := b_letters) (b_numbers := b_numbers) (bsorts := bsorts) (bletters := bletters) (bnumbers := bnumbers) (bsize := bsize) (bbear := bbear) (x1 := r16) (x2 := r3) (x3 := r27) hc44) (cwV 3 hts gX4_takesTest_X3_put rfl rfl rfl (by decide +kernel) ⟨Nat.le_of_ble_eq_true rfl, Nat.le_of_ble_eq_true rfl⟩) [1] rfl (by decide) 3 rfl rfl rfl rfl hl rfl (Nat.le_of_ble_eq_true rfl) dX4_takesTest_44 ⟨Nat.zero_le _, Nat.zero_le _⟩ rfl rfl rfl (fun H locs hP hD hS => ?_)
        refine lv_iconst (v := 1) hx hb dX4_takesTest_47 (by decide) ?_
        cases hm
        exact k_zret hx hb hr hlocks (by decide) hP hS dX4_takesTest_48
      · replace hm := it_f c32 hm
        refine lv_iconst (v := 0) hx hb dX4_takesTest_35 (by decide) ?_
        cases hm
        exact k_zret hx hb hr hlocks (by decide) hP hS dX4_takesTest_36
    · replace hm := it_f c21 hm
      refine lv_iconst (v := 0) hx hb dX4_takesTest_24 (by decide) ?_
      cases hm
      exact k_zret hx hb hr hlocks (by decide) hP hS dX4_takesTest_25
  · replace hm := it_f c8 hm
    refine lv_iconst (v := 0) hx hb dX4_takesTest_11 (by decide) ?_
    cases hm
    exact k_zret hx hb hr hlocks (by decide) hP hS dX4_takesTest_12
abbrev rmX4_takesPart (n : Nat) : Room := { frames := 40 * n, cells := 0, slots := 0, locals := 1000 * n }
def HFX4_takesPart (l : Launch) (dC : Nat → ClassId) (dI : Nat → Nat → Nat) (kc : Nat → ClassId) (d_o d_text b_o b_sorts b_letters b_numbers : Nat) (adK adV : Nat → Nat) (sf : Option Nat) (F : (Nat → Int32) → Int32 → Int32 → (Option Nat) → (Nat → Int32) → (Nat → Int32) → (Nat → Int32) → Int32 → Int32 → Option (Int32 × Int32 × (Nat → Int32) × (Nat → Int32) × (Nat → Int32) × Int32)) (n : Nat) : Prop := ∀ (dtext : Nat → Int32) (dlength : Int32) (dat : Int32) (dlibrary : Option Nat) (bsorts : Nat → Int32) (bletters : Nat → Int32) (bnumbers : Nat → Int32) (bsize : Int32) (bbear : Int32) (x1 : Int32) (r : Int32) (dat' : Int32) (bsorts' : Nat → Int32) (bletters' : Nat → Int32) (bnumbers' : Nat → Int32) (bsize' : Int32), F dtext dlength dat dlibrary bsorts bletters bnumbers bsize x1 = some (r, dat', bsorts', bletters', bnumbers', bsize') → dlibrary = some b_o → ∀ sz : Nat, Met l yX4_takesPart wsX4_takesPart (rmX4_takesPart n) (kPcX dC dI kc (xR adK adV sf) [.ref d_o, .int x1] (fl [wdX4 kc d_o d_text dtext dlength dat dlibrary, wdX3 kc b_o b_sorts b_letters b_numbers bsorts bletters bnumbers bsize bbear]) sz) (kQi dC dI r (fl [wdX4 kc d_o d_text dtext dlength dat' dlibrary, wdX3 kc b_o b_sorts b_letters b_numbers bsorts' bletters' bnumbers' bsize' bbear]) (va_A (fl [wdX4 kc d_o d_text dtext dlength dat dlibrary, wdX3 kc b_o b_sorts b_letters b_numbers bsorts bletters bnumbers bsize bbear]) sz)) 0 0 (va_A (fl [wdX4 kc d_o d_text dtext dlength dat dlibrary, wdX3 kc b_o b_sorts b_letters b_numbers bsorts bletters bnumbers bsize bbear]) sz)
def LX4_takesAllOf_12 (F : (Nat → Int32) → Int32 → Int32 → (Option Nat) → (Nat → Int32) → (Nat → Int32) → (Nat → Int32) → Int32 → Int32 → Option (Int32 × Int32 × (Nat → Int32) × (Nat → Int32) × (Nat → Int32) × Int32)) (dtext : Nat → Int32) (dlength : Int32) (dlibrary : Option Nat) (x1 : Int32) : Nat → Int32 → Int32 → (Nat → Int32) → (Nat → Int32) → (Nat → Int32) → Int32 → Option (Int32 × Int32 × (Nat → Int32) × (Nat → Int32) × (Nat → Int32) × Int32)
  | 0, _, _, _, _, _, _ => none
  | n12 + 1, l2_12, dat_12, bsorts_12, bletters_12, bnumbers_12, bsize_12 => if 100 ≤ l2_12 then (some ((1 : Int32), dat_12, bsorts_12, bletters_12, bnumbers_12, bsize_12)) else (bd1 (fX4_isAt dtext dlength dat_12 38) (fun r21 => if r21 = 0 then (some ((1 : Int32), dat_12, bsorts_12, bletters_12, bnumbers_12, bsize_12)) else (bd6 (F dtext dlength (dat_12 + 1) dlibrary bsorts_12 bletters_12 bnumbers_12 bsize_12 x1) (fun r39 dat_39 bsorts_39 bletters_39 bnumbers_39 bsize_39 => if r39 = 0 then (some ((0 : Int32), dat_39, bsorts_39, bletters_39, bnumbers_39, bsize_39)) else (bd4 (fX3_put bsorts_39 bletters_39 bnumbers_39 bsize_39 4 0 0) (fun bsorts_54 bletters_54 bnumbers_54 bsize_54 => LX4_takesAllOf_12 F dtext dlength dlibrary x1 n12 (l2_12 + 1) dat_39 bsorts_54 bletters_54 bnumbers_54 bsize_54))))))
def fX4_takesAllOf (F : (Nat → Int32) → Int32 → Int32 → (Option Nat) → (Nat → Int32) → (Nat → Int32) → (Nat → Int32) → Int32 → Int32 → Option (Int32 × Int32 × (Nat → Int32) × (Nat → Int32) × (Nat → Int32) × Int32)) (fu : Nat) (dtext : Nat → Int32) (dlength : Int32) (dat : Int32) (dlibrary : Option Nat) (bsorts : Nat → Int32) (bletters : Nat → Int32) (bnumbers : Nat → Int32) (bsize : Int32) (x1 : Int32) : Option (Int32 × Int32 × (Nat → Int32) × (Nat → Int32) × (Nat → Int32) × Int32) := bd6 (F dtext dlength dat dlibrary bsorts bletters bnumbers bsize x1) (fun r2 dat_2 bsorts_2 bletters_2 bnumbers_2 bsize_2 => if r2 = 0 then (some ((0 : Int32), dat_2, bsorts_2, bletters_2, bnumbers_2, bsize_2)) else (LX4_takesAllOf_12 F dtext dlength dlibrary x1 fu 0 dat_2 bsorts_2 bletters_2 bnumbers_2 bsize_2))
theorem hinX4_takesAllOf_X4 : ∀ w ∈ u_ws RX4 TX4 4, w ∈ wsX4_takesAllOf := fun _ h => List.mem_cons_of_mem _ (List.mem_append_left _ (List.mem_append_right _ h))
abbrev rmX4_takesAllOf (n : Nat) : Room := { frames := 40 * n + 12, cells := 0, slots := 0, locals := 1000 * n + 700 }
set_option maxHeartbeats 4000000 in
set_option maxRecDepth 100000 in
theorem ctX4_takesAllOf {l : Launch} {dC : Nat → ClassId} {dI : Nat → Nat → Nat} {kc : Nat → ClassId} {d_o d_text b_o b_sorts b_letters b_numbers : Nat} {adK adV : Nat → Nat} {sf : Option Nat} {dtext : Nat → Int32} {dlength : Int32} {dat : Int32} {dlibrary : Option Nat} {bsorts : Nat → Int32} {bletters : Nat → Int32} {bnumbers : Nat → Int32} {bsize : Int32} {bbear : Int32} {x1 : Int32} {fu : Nat} {r : Int32} {dat' : Int32} {bsorts' : Nat → Int32} {bletters' : Nat → Int32} {bnumbers' : Nat → Int32} {bsize' : Int32} {F : (Nat → Int32) → Int32 → Int32 → (Option Nat) → (Nat → Int32) → (Nat → Int32) → (Nat → Int32) → Int32 → Int32 → Option (Int32 × Int32 × (Nat → Int32) × (Nat → Int32) × (Nat → Int32) × Int32)} {n : Nat} (hF : HFX4_takesPart l dC dI kc d_o d_text b_o b_sorts b_letters b_numbers adK adV sf F n) (hm : fX4_takesAllOf F fu dtext dlength dat dlibrary bsorts bletters bnumbers bsize x1 = some (r, dat', bsorts', bletters', bnumbers', bsize')) (hkdlibrary : dlibrary = some b_o) : ∀ sz : Nat, Met l yX4_takesAllOf wsX4_takesAllOf (rmX4_takesAllOf n) (kPcX dC dI kc (xR adK adV sf) [.ref d_o, .int x1] (fl [wdX4 kc d_o d_text dtext dlength dat dlibrary, wdX3 kc b_o b_sorts b_letters b_numbers bsorts bletters bnumbers bsize bbear]) sz) (kQi dC dI r (fl [wdX4 kc d_o d_text dtext dlength dat' dlibrary, wdX3 kc b_o b_sorts b_letters b_numbers bsorts' bletters' bnumbers' bsize' bbear]) (va_A (fl [wdX4 kc d_o d_text dtext dlength dat dlibrary, wdX3 kc b_o b_sorts b_letters b_numbers bsorts bletters bnumbers bsize bbear]) sz)) 0 0 (va_A (fl [wdX4 kc d_o d_text dtext dlength dat dlibrary, wdX3 kc b_o b_sorts b_letters b_numbers bsorts bletters bnumbers bsize bbear]) sz) := by
  intro sz
  refine kMetX (cc := cX4_takesAllOf) (maxL := 3) (ret := (some .boolean)) (Qf := fun A => kQi dC dI r (fl [wdX4 kc d_o d_text dtext dlength dat' dlibrary, wdX3 kc b_o b_sorts b_letters b_numbers bsorts' bletters' bnumbers' bsize' bbear]) A) (by decide) rfl (Nat.le_of_ble_eq_true rfl) ?_
  intro p e s m below meth c A ls hx hb hr hml hts hown hlocks hname hsz hA hP hK hD hX hl
  have hS : va_S A s.heap s.heap [] := va_S.rf
  have hl : lv_has ls 3 [(0, .ref d_o), (1, .int x1)] := hl
  unfold fX4_takesAllOf at hm
  refine lv_aload_n hx hb dX4_takesAllOf_0 rfl (lv_at hl 0 rfl) ?_
  refine lv_iload_n hx hb dX4_takesAllOf_1 rfl (lv_at hl 1 rfl) ?_
  obtain ⟨r2, dat_2, bsorts_2, bletters_2, bnumbers_2, bsize_2, hc2, hm⟩ := bd6_e hm
  refine k_callXGVi (dC := dC) (dI := dI) (kc := kc) (As := [.int x1]) (rest := []) (Gs' := [wdX4 kc d_o d_text dtext dlength dat_2 dlibrary, wdX3 kc b_o b_sorts b_letters b_numbers bsorts_2 bletters_2 bnumbers_2 bsize_2 bbear]) hx hb hml hown hts hK hP hD hS hA xR_ok hX (hF dtext dlength dat dlibrary bsorts bletters bnumbers bsize bbear x1 _ _ _ _ _ _ hc2 hkdlibrary) (cwV 1 hts gX4_takesAllOf_X4_takesPart rfl rfl rfl (by decide +kernel) ⟨by dsimp only [headSpec, rmX4_takesAllOf, rmX4_takesPart]; omega, by dsimp only [headSpec, rmX4_takesAllOf, rmX4_takesPart]; omega⟩) [0, 1] rfl (by decide) (va_recv (q0 := 0) (ci := 4) hK hP rfl rfl) rfl hl rfl (Nat.le_of_ble_eq_true rfl) dX4_takesAllOf_2 ⟨Nat.zero_le _, Nat.zero_le _⟩ rfl rfl rfl (fun H locs hP hD hS => ?_)
  refine lv_if_ne (tgt := 10) hx hb dX4_takesAllOf_5 (by decide) (fun c5 => ?_) (fun c5 => ?_)
  · replace hm := it_f c5 hm
    refine lv_iconst (v := 0) hx hb dX4_takesAllOf_10 (by decide) ?_
    refine lv_istore_n (lv' := [(2, .int 0), (0, .ref d_o), (1, .int x1)]) hx hb dX4_takesAllOf_11 rfl hl (by decide) rfl (fun ls hl => ?_)
    have hL12 : ∀ (n : Nat) (l2_12 : Int32) (dat_12 : Int32) (bsorts_12 : Nat → Int32) (bletters_12 : Nat → Int32) (bnumbers_12 : Nat → Int32) (bsize_12 : Int32), LX4_takesAllOf_12 F dtext dlength dlibrary x1 n l2_12 dat_12 bsorts_12 bletters_12 bnumbers_12 bsize_12 = some (r, dat', bsorts', bletters', bnumbers', bsize') → ∀ (H : Heap) (locs : List Loc), va_P (dC, dI) vwCl (fl [wdX4 kc d_o d_text dtext dlength dat_12 dlibrary, wdX3 kc b_o b_sorts b_letters b_numbers bsorts_12 bletters_12 bnumbers_12 bsize_12 bbear]) H → va_D A (fl [wdX4 kc d_o d_text dtext dlength dat_12 dlibrary, wdX3 kc b_o b_sorts b_letters b_numbers bsorts_12 bletters_12 bnumbers_12 bsize_12 bbear]) → va_S A s.heap H locs → ∀ ls : Array Slot, lv_has ls 3 [(0, .ref d_o), (1, .int x1), (2, .int l2_12)] → W p l e (headSpec wsX4_takesAllOf (rmX4_takesAllOf n)).room s m [.ref d_o, .int x1].toArray below meth c H locs 0 0 (MQ below (kQi dC dI r (fl [wdX4 kc d_o d_text dtext dlength dat' dlibrary, wdX3 kc b_o b_sorts b_letters b_numbers bsorts' bletters' bnumbers' bsize' bbear]) A) [.ref d_o, .int x1].toArray s 0 0 A) (F0 m 12 ls []) := by
      clear hm hP hD hS hl
      intro n12
      induction n12 with
      | zero => intro l2_12 dat_12 bsorts_12 bletters_12 bnumbers_12 bsize_12 hm; rw [LX4_takesAllOf_12] at hm; cases hm
      | succ n12 ih12 =>
        intro l2_12 dat_12 bsorts_12 bletters_12 bnumbers_12 bsize_12 hm H locs hP hD hS ls hl
        rw [LX4_takesAllOf_12] at hm
        refine lv_iload_n hx hb dX4_takesAllOf_12 rfl (lv_at hl 2 rfl) ?_
        refine lv_bipush (v := 100) hx hb dX4_takesAllOf_13 (by decide) ?_
        refine lv_icmp_ge (tgt := 63) hx hb dX4_takesAllOf_15 (by decide) (fun c15 => ?_) (fun c15 => ?_)
        · replace hm := it_t c15 hm
          refine lv_iconst (v := 1) hx hb dX4_takesAllOf_63 (by decide) ?_
          cases hm
          exact k_zret hx hb hr hlocks (by decide) hP hS dX4_takesAllOf_64
        · replace hm := it_f c15 hm
          refine lv_aload_n hx hb dX4_takesAllOf_18 rfl (lv_at hl 0 rfl) ?_
          refine lv_bipush (v := 38) hx hb dX4_takesAllOf_19 (by decide) ?_
          obtain ⟨r21, hc21, hm⟩ := bd1_e hm
          refine k_callGVi (dC := dC) (dI := dI) (kc := kc) (As := [.int 38]) (rest := []) (Gs' := [wdX4 kc d_o d_text dtext dlength dat_12 dlibrary, wdX3 kc b_o b_sorts b_letters b_numbers bsorts_12 bletters_12 bnumbers_12 bsize_12 bbear]) hx hb hml hown hts hK hP hD hS hA (ctX4_isAt (d_o := d_o) (d_text := d_text) (dtext := dtext) (dlength := dlength) (dat := dat_12) (dlibrary := dlibrary) (x1 := 38) hc21) (cwV 1 hts gX4_takesAllOf_X4_isAt rfl rfl rfl (by decide +kernel) ⟨by dsimp only [headSpec, rmX4_takesAllOf, rmX4_isAt]; omega, by dsimp only [headSpec, rmX4_takesAllOf, rmX4_isAt]; omega⟩) [0] rfl (by decide) 4 rfl rfl rfl rfl hl rfl (Nat.le_of_ble_eq_true rfl) dX4_takesAllOf_21 ⟨Nat.zero_le _, Nat.zero_le _⟩ rfl rfl rfl (fun H locs hP hD hS => ?_)
          refine lv_if_eq (tgt := 63) hx hb dX4_takesAllOf_24 (by decide) (fun c24 => ?_) (fun c24 => ?_)
          · replace hm := it_t c24 hm
            refine lv_iconst (v := 1) hx hb dX4_takesAllOf_63 (by decide) ?_
            cases hm
            exact k_zret hx hb hr hlocks (by decide) hP hS dX4_takesAllOf_64
          · replace hm := it_f c24 hm
            refine lv_aload_n hx hb dX4_takesAllOf_27 rfl (lv_at hl 0 rfl) ?_
            refine lv_dup hx hb dX4_takesAllOf_28 rfl ?_
            refine va_get (D := (dC, dI)) (ci := 4) (v := .int dat_12) (C := RX4) (T := TX4) (N := 4) hx hb hts hinX4_takesAllOf_X4 hown hK hP 0 rfl rfl 2 (by decide) (hts _ (List.mem_of_getElem? (i := 1) rfl)) (fun _ h9 => h9) rfl dX4_takesAllOf_29 ?_
            refine lv_iconst (v := 1) hx hb dX4_takesAllOf_32 (by decide) ?_
            refine lv_iadd hx hb dX4_takesAllOf_33 ?_
            refine va_put (D := (dC, dI)) (ci := 4) (v := .int (dat_12 + 1)) (ty := .int) (C := RX4) (T := TX4) (N := 4) hx hb hts hinX4_takesAllOf_X4 tyX4 tyX4_ok nmX4 hown hK hP hD hS 0 rfl rfl 2 (by decide) (hts _ (List.mem_of_getElem? (i := 1) rfl)) (fun _ h9 => h9) rfl (by decide +kernel) rfl rfl (Nat.le_of_ble_eq_true rfl) dX4_takesAllOf_34 (fun H locs hP hD hS => ?_)
            have hP : va_P (dC, dI) vwCl (fl [wdX4 kc d_o d_text dtext dlength (dat_12 + 1) dlibrary, wdX3 kc b_o b_sorts b_letters b_numbers bsorts_12 bletters_12 bnumbers_12 bsize_12 bbear]) H := hP
            have hD : va_D A (fl [wdX4 kc d_o d_text dtext dlength (dat_12 + 1) dlibrary, wdX3 kc b_o b_sorts b_letters b_numbers bsorts_12 bletters_12 bnumbers_12 bsize_12 bbear]) := hD
            refine lv_aload_n hx hb dX4_takesAllOf_37 rfl (lv_at hl 0 rfl) ?_
            refine lv_iload_n hx hb dX4_takesAllOf_38 rfl (lv_at hl 1 rfl) ?_
            obtain ⟨r39, dat_39, bsorts_39, bletters_39, bnumbers_39, bsize_39, hc39, hm⟩ := bd6_e hm
            refine k_callXGVi (dC := dC) (dI := dI) (kc := kc) (As := [.int x1]) (rest := []) (Gs' := [wdX4 kc d_o d_text dtext dlength dat_39 dlibrary, wdX3 kc b_o b_sorts b_letters b_numbers bsorts_39 bletters_39 bnumbers_39 bsize_39 bbear]) hx hb hml hown hts hK hP hD hS hA xR_ok hX (hF dtext dlength (dat_12 + 1) dlibrary bsorts_12 bletters_12 bnumbers_12 bsize_12 bbear x1 _ _ _ _ _ _ hc39 hkdlibrary) (cwV 1 hts gX4_takesAllOf_X4_takesPart rfl rfl rfl (by decide +kernel) ⟨by dsimp only [headSpec, rmX4_takesAllOf, rmX4_takesPart]; omega, by dsimp only [headSpec, rmX4_takesAllOf, rmX4_takesPart]; omega⟩) [0, 1] rfl (by decide) (va_recv (q0 := 0) (ci := 4) hK hP rfl rfl) rfl hl rfl (Nat.le_of_ble_eq_true rfl) dX4_takesAllOf_39 ⟨Nat.zero_le _, Nat.zero_le _⟩ rfl rfl rfl (fun H locs hP hD hS => ?_)
            refine lv_if_ne (tgt := 47) hx hb dX4_takesAllOf_42 (by decide) (fun c42 => ?_) (fun c42 => ?_)
            · replace hm := it_f c42 hm
              refine lv_aload_n hx hb dX4_takesAllOf_47 rfl (lv_at hl 0 rfl) ?_
              refine va_get (D := (dC, dI)) (ci := 4) (v := .ref b_o) (C := RX4) (T := TX4) (N := 4) hx hb hts hinX4_takesAllOf_X4 hown hK hP 0 rfl rfl 3 (by decide) (hts _ (List.mem_of_getElem? (i := 2) rfl)) (fun _ h9 => h9) (by show some (va_rf dlibrary) = some (.ref b_o); rw [hkdlibrary]; rfl) dX4_takesAllOf_48 ?_
              refine lv_iconst (v := 4) hx hb dX4_takesAllOf_51 (by decide) ?_
              refine lv_iconst (v := 0) hx hb dX4_takesAllOf_52 (by decide) ?_
              refine lv_iconst (v := 0) hx hb dX4_takesAllOf_53 (by decide) ?_
              obtain ⟨bsorts_54, bletters_54, bnumbers_54, bsize_54, hc54, hm⟩ := bd4_e hm
              refine k_callGVv (dC := dC) (dI := dI) (kc := kc) (As := [.int 4, .int 0, .int 0]) (rest := []) (Gs' := [wdX4 kc d_o d_text dtext dlength dat_39 dlibrary, wdX3 kc b_o b_sorts b_letters b_numbers bsorts_54 bletters_54 bnumbers_54 bsize_54 bbear]) hx hb hml hown hts hK hP hD hS hA (ctX3_put (b_o := b_o) (b_sorts := b_sorts) (b_letters := b_letters) (b_numbers := b_numbers) (bsorts := bsorts_39) (bletters := bletters_39) (bnumbers := bnumbers_39) (bsize := bsize_39) (bbear := bbear) (x1 := 4) (x2 := 0) (x3 := 0) hc54) (cwV 3 hts gX4_takesAllOf_X3_put rfl rfl rfl (by decide +kernel) ⟨by dsimp only [headSpec, rmX4_takesAllOf, rmX3_put]; omega, by dsimp only [headSpec, rmX4_takesAllOf, rmX3_put]; omega⟩) [1] rfl (by decide) 3 rfl rfl rfl rfl hl rfl (Nat.le_of_ble_eq_true rfl) dX4_takesAllOf_54 ⟨Nat.zero_le _, Nat.zero_le _⟩ rfl rfl rfl (fun H locs hP hD hS => ?_)
              refine lv_iinc (v := l2_12 + 1) (lv' := [(2, .int (l2_12 + 1)), (0, .ref d_o), (1, .int x1)]) hx hb dX4_takesAllOf_57 hl (k := 2) rfl rfl (by decide) rfl (fun ls hl => ?_)
              refine lv_goto (tgt := 12) hx hb dX4_takesAllOf_60 (by decide) ?_
              exact ih12 (l2_12 + 1) dat_39 bsorts_54 bletters_54 bnumbers_54 bsize_54 hm _ _ hP hD hS _ (lv_sub hl [1, 2, 0] rfl)
            · replace hm := it_t c42 hm
              refine lv_iconst (v := 0) hx hb dX4_takesAllOf_45 (by decide) ?_
              cases hm
              exact k_zret hx hb hr hlocks (by decide) hP hS dX4_takesAllOf_46
    exact hL12 _ _ _ _ _ _ _ hm _ _ hP hD hS _ (lv_sub hl [1, 2, 0] rfl)
  · replace hm := it_t c5 hm
    refine lv_iconst (v := 0) hx hb dX4_takesAllOf_8 (by decide) ?_
    cases hm
    exact k_zret hx hb hr hlocks (by decide) hP hS dX4_takesAllOf_9
def LX4_takesAnyOf_12 (fu : Nat) (F : (Nat → Int32) → Int32 → Int32 → (Option Nat) → (Nat → Int32) → (Nat → Int32) → (Nat → Int32) → Int32 → Int32 → Option (Int32 × Int32 × (Nat → Int32) × (Nat → Int32) × (Nat → Int32) × Int32)) (dtext : Nat → Int32) (dlength : Int32) (dlibrary : Option Nat) (x1 : Int32) : Nat → Int32 → Int32 → (Nat → Int32) → (Nat → Int32) → (Nat → Int32) → Int32 → Option (Int32 × Int32 × (Nat → Int32) × (Nat → Int32) × (Nat → Int32) × Int32)
  | 0, _, _, _, _, _, _ => none
  | n12 + 1, l2_12, dat_12, bsorts_12, bletters_12, bnumbers_12, bsize_12 => if 100 ≤ l2_12 then (some ((1 : Int32), dat_12, bsorts_12, bletters_12, bnumbers_12, bsize_12)) else (bd1 (fX4_isAt dtext dlength dat_12 124) (fun r21 => if r21 = 0 then (some ((1 : Int32), dat_12, bsorts_12, bletters_12, bnumbers_12, bsize_12)) else (bd6 (fX4_takesAllOf F fu dtext dlength (dat_12 + 1) dlibrary bsorts_12 bletters_12 bnumbers_12 bsize_12 x1) (fun r39 dat_39 bsorts_39 bletters_39 bnumbers_39 bsize_39 => if r39 = 0 then (some ((0 : Int32), dat_39, bsorts_39, bletters_39, bnumbers_39, bsize_39)) else (bd4 (fX3_put bsorts_39 bletters_39 bnumbers_39 bsize_39 5 0 0) (fun bsorts_54 bletters_54 bnumbers_54 bsize_54 => LX4_takesAnyOf_12 fu F dtext dlength dlibrary x1 n12 (l2_12 + 1) dat_39 bsorts_54 bletters_54 bnumbers_54 bsize_54))))))
def fX4_takesAnyOf (F : (Nat → Int32) → Int32 → Int32 → (Option Nat) → (Nat → Int32) → (Nat → Int32) → (Nat → Int32) → Int32 → Int32 → Option (Int32 × Int32 × (Nat → Int32) × (Nat → Int32) × (Nat → Int32) × Int32)) (fu : Nat) (dtext : Nat → Int32) (dlength : Int32) (dat : Int32) (dlibrary : Option Nat) (bsorts : Nat → Int32) (bletters : Nat → Int32) (bnumbers : Nat → Int32) (bsize : Int32) (x1 : Int32) : Option (Int32 × Int32 × (Nat → Int32) × (Nat → Int32) × (Nat → Int32) × Int32) := bd6 (fX4_takesAllOf F fu dtext dlength dat dlibrary bsorts bletters bnumbers bsize x1) (fun r2 dat_2 bsorts_2 bletters_2 bnumbers_2 bsize_2 => if r2 = 0 then (some ((0 : Int32), dat_2, bsorts_2, bletters_2, bnumbers_2, bsize_2)) else (LX4_takesAnyOf_12 fu F dtext dlength dlibrary x1 fu 0 dat_2 bsorts_2 bletters_2 bnumbers_2 bsize_2))
theorem hinX4_takesAnyOf_X4 : ∀ w ∈ u_ws RX4 TX4 4, w ∈ wsX4_takesAnyOf := fun _ h => List.mem_cons_of_mem _ (List.mem_append_left _ (List.mem_append_right _ h))
abbrev rmX4_takesAnyOf (n : Nat) : Room := { frames := 40 * n + 13, cells := 0, slots := 0, locals := 1000 * n + 800 }
set_option maxHeartbeats 4000000 in
set_option maxRecDepth 100000 in
theorem ctX4_takesAnyOf {l : Launch} {dC : Nat → ClassId} {dI : Nat → Nat → Nat} {kc : Nat → ClassId} {d_o d_text b_o b_sorts b_letters b_numbers : Nat} {adK adV : Nat → Nat} {sf : Option Nat} {dtext : Nat → Int32} {dlength : Int32} {dat : Int32} {dlibrary : Option Nat} {bsorts : Nat → Int32} {bletters : Nat → Int32} {bnumbers : Nat → Int32} {bsize : Int32} {bbear : Int32} {x1 : Int32} {fu : Nat} {r : Int32} {dat' : Int32} {bsorts' : Nat → Int32} {bletters' : Nat → Int32} {bnumbers' : Nat → Int32} {bsize' : Int32} {F : (Nat → Int32) → Int32 → Int32 → (Option Nat) → (Nat → Int32) → (Nat → Int32) → (Nat → Int32) → Int32 → Int32 → Option (Int32 × Int32 × (Nat → Int32) × (Nat → Int32) × (Nat → Int32) × Int32)} {n : Nat} (hF : HFX4_takesPart l dC dI kc d_o d_text b_o b_sorts b_letters b_numbers adK adV sf F n) (hm : fX4_takesAnyOf F fu dtext dlength dat dlibrary bsorts bletters bnumbers bsize x1 = some (r, dat', bsorts', bletters', bnumbers', bsize')) (hkdlibrary : dlibrary = some b_o) : ∀ sz : Nat, Met l yX4_takesAnyOf wsX4_takesAnyOf (rmX4_takesAnyOf n) (kPcX dC dI kc (xR adK adV sf) [.ref d_o, .int x1] (fl [wdX4 kc d_o d_text dtext dlength dat dlibrary, wdX3 kc b_o b_sorts b_letters b_numbers bsorts bletters bnumbers bsize bbear]) sz) (kQi dC dI r (fl [wdX4 kc d_o d_text dtext dlength dat' dlibrary, wdX3 kc b_o b_sorts b_letters b_numbers bsorts' bletters' bnumbers' bsize' bbear]) (va_A (fl [wdX4 kc d_o d_text dtext dlength dat dlibrary, wdX3 kc b_o b_sorts b_letters b_numbers bsorts bletters bnumbers bsize bbear]) sz)) 0 0 (va_A (fl [wdX4 kc d_o d_text dtext dlength dat dlibrary, wdX3 kc b_o b_sorts b_letters b_numbers bsorts bletters bnumbers bsize bbear]) sz) := by
  intro sz
  refine kMetX (cc := cX4_takesAnyOf) (maxL := 3) (ret := (some .boolean)) (Qf := fun A => kQi dC dI r (fl [wdX4 kc d_o d_text dtext dlength dat' dlibrary, wdX3 kc b_o b_sorts b_letters b_numbers bsorts' bletters' bnumbers' bsize' bbear]) A) (by decide) rfl (Nat.le_of_ble_eq_true rfl) ?_
  intro p e s m below meth c A ls hx hb hr hml hts hown hlocks hname hsz hA hP hK hD hX hl
  have hS : va_S A s.heap s.heap [] := va_S.rf
  have hl : lv_has ls 3 [(0, .ref d_o), (1, .int x1)] := hl
  unfold fX4_takesAnyOf at hm
  refine lv_aload_n hx hb dX4_takesAnyOf_0 rfl (lv_at hl 0 rfl) ?_
  refine lv_iload_n hx hb dX4_takesAnyOf_1 rfl (lv_at hl 1 rfl) ?_
  obtain ⟨r2, dat_2, bsorts_2, bletters_2, bnumbers_2, bsize_2, hc2, hm⟩ := bd6_e hm
  refine k_callXGVi (dC := dC) (dI := dI) (kc := kc) (As := [.int x1]) (rest := []) (Gs' := [wdX4 kc d_o d_text dtext dlength dat_2 dlibrary, wdX3 kc b_o b_sorts b_letters b_numbers bsorts_2 bletters_2 bnumbers_2 bsize_2 bbear]) hx hb hml hown hts hK hP hD hS hA xR_ok hX (ctX4_takesAllOf (F := F) (n := n) (fu := fu) (d_o := d_o) (d_text := d_text) (b_o := b_o) (b_sorts := b_sorts) (b_letters := b_letters) (b_numbers := b_numbers) (dtext := dtext) (dlength := dlength) (dat := dat) (dlibrary := dlibrary) (bsorts := bsorts) (bletters := bletters) (bnumbers := bnumbers) (bsize := bsize) (bbear := bbear) (x1 := x1) (adK := adK) (adV := adV) (sf := sf) hF hc2 hkdlibrary) (cwV 1 hts gX4_takesAnyOf_X4_takesAllOf rfl rfl rfl (by decide +kernel) ⟨by dsimp only [headSpec, rmX4_takesAnyOf, rmX4_takesAllOf]; omega, by dsimp only [headSpec, rmX4_takesAnyOf, rmX4_takesAllOf]; omega⟩) [0, 1] rfl (by decide) (va_recv (q0 := 0) (ci := 4) hK hP rfl rfl) rfl hl rfl (Nat.le_of_ble_eq_true rfl) dX4_takesAnyOf_2 ⟨Nat.zero_le _, Nat.zero_le _⟩ rfl rfl rfl (fun H locs hP hD hS => ?_)
  refine lv_if_ne (tgt := 10) hx hb dX4_takesAnyOf_5 (by decide) (fun c5 => ?_) (fun c5 => ?_)
  · replace hm := it_f c5 hm
    refine lv_iconst (v := 0) hx hb dX4_takesAnyOf_10 (by decide) ?_
    refine lv_istore_n (lv' := [(2, .int 0), (0, .ref d_o), (1, .int x1)]) hx hb dX4_takesAnyOf_11 rfl hl (by decide) rfl (fun ls hl => ?_)
    have hL12 : ∀ (n : Nat) (l2_12 : Int32) (dat_12 : Int32) (bsorts_12 : Nat → Int32) (bletters_12 : Nat → Int32) (bnumbers_12 : Nat → Int32) (bsize_12 : Int32), LX4_takesAnyOf_12 fu F dtext dlength dlibrary x1 n l2_12 dat_12 bsorts_12 bletters_12 bnumbers_12 bsize_12 = some (r, dat', bsorts', bletters', bnumbers', bsize') → ∀ (H : Heap) (locs : List Loc), va_P (dC, dI) vwCl (fl [wdX4 kc d_o d_text dtext dlength dat_12 dlibrary, wdX3 kc b_o b_sorts b_letters b_numbers bsorts_12 bletters_12 bnumbers_12 bsize_12 bbear]) H → va_D A (fl [wdX4 kc d_o d_text dtext dlength dat_12 dlibrary, wdX3 kc b_o b_sorts b_letters b_numbers bsorts_12 bletters_12 bnumbers_12 bsize_12 bbear]) → va_S A s.heap H locs → ∀ ls : Array Slot, lv_has ls 3 [(0, .ref d_o), (1, .int x1), (2, .int l2_12)] → W p l e (headSpec wsX4_takesAnyOf (rmX4_takesAnyOf n)).room s m [.ref d_o, .int x1].toArray below meth c H locs 0 0 (MQ below (kQi dC dI r (fl [wdX4 kc d_o d_text dtext dlength dat' dlibrary, wdX3 kc b_o b_sorts b_letters b_numbers bsorts' bletters' bnumbers' bsize' bbear]) A) [.ref d_o, .int x1].toArray s 0 0 A) (F0 m 12 ls []) := by
      clear hm hP hD hS hl
      intro n12
      induction n12 with
      | zero => intro l2_12 dat_12 bsorts_12 bletters_12 bnumbers_12 bsize_12 hm; rw [LX4_takesAnyOf_12] at hm; cases hm
      | succ n12 ih12 =>
        intro l2_12 dat_12 bsorts_12 bletters_12 bnumbers_12 bsize_12 hm H locs hP hD hS ls hl
        rw [LX4_takesAnyOf_12] at hm
        refine lv_iload_n hx hb dX4_takesAnyOf_12 rfl (lv_at hl 2 rfl) ?_
        refine lv_bipush (v := 100) hx hb dX4_takesAnyOf_13 (by decide) ?_
        refine lv_icmp_ge (tgt := 63) hx hb dX4_takesAnyOf_15 (by decide) (fun c15 => ?_) (fun c15 => ?_)
        · replace hm := it_t c15 hm
          refine lv_iconst (v := 1) hx hb dX4_takesAnyOf_63 (by decide) ?_
          cases hm
          exact k_zret hx hb hr hlocks (by decide) hP hS dX4_takesAnyOf_64
        · replace hm := it_f c15 hm
          refine lv_aload_n hx hb dX4_takesAnyOf_18 rfl (lv_at hl 0 rfl) ?_
          refine lv_bipush (v := 124) hx hb dX4_takesAnyOf_19 (by decide) ?_
          obtain ⟨r21, hc21, hm⟩ := bd1_e hm
          refine k_callGVi (dC := dC) (dI := dI) (kc := kc) (As := [.int 124]) (rest := []) (Gs' := [wdX4 kc d_o d_text dtext dlength dat_12 dlibrary, wdX3 kc b_o b_sorts b_letters b_numbers bsorts_12 bletters_12 bnumbers_12 bsize_12 bbear]) hx hb hml hown hts hK hP hD hS hA (ctX4_isAt (d_o := d_o) (d_text := d_text) (dtext := dtext) (dlength := dlength) (dat := dat_12) (dlibrary := dlibrary) (x1 := 124) hc21) (cwV 1 hts gX4_takesAnyOf_X4_isAt rfl rfl rfl (by decide +kernel) ⟨by dsimp only [headSpec, rmX4_takesAnyOf, rmX4_isAt]; omega, by dsimp only [headSpec, rmX4_takesAnyOf, rmX4_isAt]; omega⟩) [0] rfl (by decide) 4 rfl rfl rfl rfl hl rfl (Nat.le_of_ble_eq_true rfl) dX4_takesAnyOf_21 ⟨Nat.zero_le _, Nat.zero_le _⟩ rfl rfl rfl (fun H locs hP hD hS => ?_)
          refine lv_if_eq (tgt := 63) hx hb dX4_takesAnyOf_24 (by decide) (fun c24 => ?_) (fun c24 => ?_)
          · replace hm := it_t c24 hm
            refine lv_iconst (v := 1) hx hb dX4_takesAnyOf_63 (by decide) ?_
            cases hm
            exact k_zret hx hb hr hlocks (by decide) hP hS dX4_takesAnyOf_64
          · replace hm := it_f c24 hm
            refine lv_aload_n hx hb dX4_takesAnyOf_27 rfl (lv_at hl 0 rfl) ?_
            refine lv_dup hx hb dX4_takesAnyOf_28 rfl ?_
            refine va_get (D := (dC, dI)) (ci := 4) (v := .int dat_12) (C := RX4) (T := TX4) (N := 4) hx hb hts hinX4_takesAnyOf_X4 hown hK hP 0 rfl rfl 2 (by decide) (hts _ (List.mem_of_getElem? (i := 1) rfl)) (fun _ h9 => h9) rfl dX4_takesAnyOf_29 ?_
            refine lv_iconst (v := 1) hx hb dX4_takesAnyOf_32 (by decide) ?_
            refine lv_iadd hx hb dX4_takesAnyOf_33 ?_
            refine va_put (D := (dC, dI)) (ci := 4) (v := .int (dat_12 + 1)) (ty := .int) (C := RX4) (T := TX4) (N := 4) hx hb hts hinX4_takesAnyOf_X4 tyX4 tyX4_ok nmX4 hown hK hP hD hS 0 rfl rfl 2 (by decide) (hts _ (List.mem_of_getElem? (i := 1) rfl)) (fun _ h9 => h9) rfl (by decide +kernel) rfl rfl (Nat.le_of_ble_eq_true rfl) dX4_takesAnyOf_34 (fun H locs hP hD hS => ?_)
            have hP : va_P (dC, dI) vwCl (fl [wdX4 kc d_o d_text dtext dlength (dat_12 + 1) dlibrary, wdX3 kc b_o b_sorts b_letters b_numbers bsorts_12 bletters_12 bnumbers_12 bsize_12 bbear]) H := hP
            have hD : va_D A (fl [wdX4 kc d_o d_text dtext dlength (dat_12 + 1) dlibrary, wdX3 kc b_o b_sorts b_letters b_numbers bsorts_12 bletters_12 bnumbers_12 bsize_12 bbear]) := hD
            refine lv_aload_n hx hb dX4_takesAnyOf_37 rfl (lv_at hl 0 rfl) ?_
            refine lv_iload_n hx hb dX4_takesAnyOf_38 rfl (lv_at hl 1 rfl) ?_
            obtain ⟨r39, dat_39, bsorts_39, bletters_39, bnumbers_39, bsize_39, hc39, hm⟩ := bd6_e hm
            refine k_callXGVi (dC := dC) (dI := dI) (kc := kc) (As := [.int x1]) (rest := []) (Gs' := [wdX4 kc d_o d_text dtext dlength dat_39 dlibrary, wdX3 kc b_o b_sorts b_letters b_numbers bsorts_39 bletters_39 bnumbers_39 bsize_39 bbear]) hx hb hml hown hts hK hP hD hS hA xR_ok hX (ctX4_takesAllOf (F := F) (n := n) (fu := fu) (d_o := d_o) (d_text := d_text) (b_o := b_o) (b_sorts := b_sorts) (b_letters := b_letters) (b_numbers := b_numbers) (dtext := dtext) (dlength := dlength) (dat := dat_12 + 1) (dlibrary := dlibrary) (bsorts := bsorts_12) (bletters := bletters_12) (bnumbers := bnumbers_12) (bsize := bsize_12) (bbear := bbear) (x1 := x1) (adK := adK) (adV := adV) (sf := sf) hF hc39 hkdlibrary) (cwV 1 hts gX4_takesAnyOf_X4_takesAllOf rfl rfl rfl (by decide +kernel) ⟨by dsimp only [headSpec, rmX4_takesAnyOf, rmX4_takesAllOf]; omega, by dsimp only [headSpec, rmX4_takesAnyOf, rmX4_takesAllOf]; omega⟩) [0, 1] rfl (by decide) (va_recv (q0 := 0) (ci := 4) hK hP rfl rfl) rfl hl rfl (Nat.le_of_ble_eq_true rfl) dX4_takesAnyOf_39 ⟨Nat.zero_le _, Nat.zero_le _⟩ rfl rfl rfl (fun H locs hP hD hS => ?_)
            refine lv_if_ne (tgt := 47) hx hb dX4_takesAnyOf_42 (by decide) (fun c42 => ?_) (fun c42 => ?_)
            · replace hm := it_f c42 hm
              refine lv_aload_n hx hb dX4_takesAnyOf_47 rfl (lv_at hl 0 rfl) ?_
              refine va_get (D := (dC, dI)) (ci := 4) (v := .ref b_o) (C := RX4) (T := TX4) (N := 4) hx hb hts hinX4_takesAnyOf_X4 hown hK hP 0 rfl rfl 3 (by decide) (hts _ (List.mem_of_getElem? (i := 2) rfl)) (fun _ h9 => h9) (by show some (va_rf dlibrary) = some (.ref b_o); rw [hkdlibrary]; rfl) dX4_takesAnyOf_48 ?_
              refine lv_iconst (v := 5) hx hb dX4_takesAnyOf_51 (by decide) ?_
              refine lv_iconst (v := 0) hx hb dX4_takesAnyOf_52 (by decide) ?_
              refine lv_iconst (v := 0) hx hb dX4_takesAnyOf_53 (by decide) ?_
              obtain ⟨bsorts_54, bletters_54, bnumbers_54, bsize_54, hc54, hm⟩ := bd4_e hm
              refine k_callGVv (dC := dC) (dI := dI) (kc := kc) (As := [.int 5, .int 0, .int 0]) (rest := []) (Gs' := [wdX4 kc d_o d_text dtext dlength dat_39 dlibrary, wdX3 kc b_o b_sorts b_letters b_numbers bsorts_54 bletters_54 bnumbers_54 bsize_54 bbear]) hx hb hml hown hts hK hP hD hS hA (ctX3_put (b_o := b_o) (b_sorts := b_sorts) (b_letters := b_letters) (b_numbers := b_numbers) (bsorts := bsorts_39) (bletters := bletters_39) (bnumbers := bnumbers_39) (bsize := bsize_39) (bbear := bbear) (x1 := 5) (x2 := 0) (x3 := 0) hc54) (cwV 3 hts gX4_takesAnyOf_X3_put rfl rfl rfl (by decide +kernel) ⟨by dsimp only [headSpec, rmX4_takesAnyOf, rmX3_put]; omega, by dsimp only [headSpec, rmX4_takesAnyOf, rmX3_put]; omega⟩) [1] rfl (by decide) 3 rfl rfl rfl rfl hl rfl (Nat.le_of_ble_eq_true rfl) dX4_takesAnyOf_54 ⟨Nat.zero_le _, Nat.zero_le _⟩ rfl rfl rfl (fun H locs hP hD hS => ?_)
              refine lv_iinc (v := l2_12 + 1) (lv' := [(2, .int (l2_12 + 1)), (0, .ref d_o), (1, .int x1)]) hx hb dX4_takesAnyOf_57 hl (k := 2) rfl rfl (by decide) rfl (fun ls hl => ?_)
              refine lv_goto (tgt := 12) hx hb dX4_takesAnyOf_60 (by decide) ?_
              exact ih12 (l2_12 + 1) dat_39 bsorts_54 bletters_54 bnumbers_54 bsize_54 hm _ _ hP hD hS _ (lv_sub hl [1, 2, 0] rfl)
            · replace hm := it_t c42 hm
              refine lv_iconst (v := 0) hx hb dX4_takesAnyOf_45 (by decide) ?_
              cases hm
              exact k_zret hx hb hr hlocks (by decide) hP hS dX4_takesAnyOf_46
    exact hL12 _ _ _ _ _ _ _ hm _ _ hP hD hS _ (lv_sub hl [1, 2, 0] rfl)
  · replace hm := it_t c5 hm
    refine lv_iconst (v := 0) hx hb dX4_takesAnyOf_8 (by decide) ?_
    cases hm
    exact k_zret hx hb hr hlocks (by decide) hP hS dX4_takesAnyOf_9
def gX4_takesPart (F : (Nat → Int32) → Int32 → Int32 → (Option Nat) → (Nat → Int32) → (Nat → Int32) → (Nat → Int32) → Int32 → Int32 → Option (Int32 × Int32 × (Nat → Int32) × (Nat → Int32) × (Nat → Int32) × Int32)) (fu : Nat) (dtext : Nat → Int32) (dlength : Int32) (dat : Int32) (dlibrary : Option Nat) (bsorts : Nat → Int32) (bletters : Nat → Int32) (bnumbers : Nat → Int32) (bsize : Int32) (x1 : Int32) : Option (Int32 × Int32 × (Nat → Int32) × (Nat → Int32) × (Nat → Int32) × Int32) := bd1 (fX4_isAt dtext dlength dat 33) (fun r3 => if r3 = 0 then (bd1 (fX4_isAt dtext dlength dat 40) (fun r12 => if r12 = 0 then (bd6 (fX4_takesTest fu dtext dlength dat dlibrary bsorts bletters bnumbers bsize) (fun r19 dat_19 bsorts_19 bletters_19 bnumbers_19 bsize_19 => gd (r19 = 0 ∨ r19 = 1) (some (r19, dat_19, bsorts_19, bletters_19, bnumbers_19, bsize_19)))) else (if x1 < 4 then (bd1 (fX4_isAt dtext dlength dat 33) (fun r33 => if r33 = 0 then (bd6 (fX4_takesAnyOf F fu dtext dlength (dat + 1) dlibrary bsorts bletters bnumbers bsize (x1 + 1)) (fun r55 dat_55 bsorts_55 bletters_55 bnumbers_55 bsize_55 => if r55 = 0 then (some ((0 : Int32), dat_55, bsorts_55, bletters_55, bnumbers_55, bsize_55)) else (bd2 (fX4_takesWord fu dtext dlength dat_55 1 (tx 5)) (fun r64 dat_64 => if r64 = 0 then (some ((0 : Int32), dat_64, bsorts_55, bletters_55, bnumbers_55, bsize_55)) else (some ((1 : Int32), dat_64, bsorts_55, bletters_55, bnumbers_55, bsize_55)))))) else (bd6 (F dtext dlength (dat + 1) dlibrary bsorts bletters bnumbers bsize (x1 + 1)) (fun r80 dat_80 bsorts_80 bletters_80 bnumbers_80 bsize_80 => if r80 = 0 then (some ((0 : Int32), dat_80, bsorts_80, bletters_80, bnumbers_80, bsize_80)) else (bd4 (fX3_put bsorts_80 bletters_80 bnumbers_80 bsize_80 3 0 0) (fun bsorts_95 bletters_95 bnumbers_95 bsize_95 => some ((1 : Int32), dat_80, bsorts_95, bletters_95, bnumbers_95, bsize_95))))))) else (some ((0 : Int32), dat, bsorts, bletters, bnumbers, bsize))))) else (if x1 < 4 then (bd1 (fX4_isAt dtext dlength dat 33) (fun r33 => if r33 = 0 then (bd6 (fX4_takesAnyOf F fu dtext dlength (dat + 1) dlibrary bsorts bletters bnumbers bsize (x1 + 1)) (fun r55 dat_55 bsorts_55 bletters_55 bnumbers_55 bsize_55 => if r55 = 0 then (some ((0 : Int32), dat_55, bsorts_55, bletters_55, bnumbers_55, bsize_55)) else (bd2 (fX4_takesWord fu dtext dlength dat_55 1 (tx 5)) (fun r64 dat_64 => if r64 = 0 then (some ((0 : Int32), dat_64, bsorts_55, bletters_55, bnumbers_55, bsize_55)) else (some ((1 : Int32), dat_64, bsorts_55, bletters_55, bnumbers_55, bsize_55)))))) else (bd6 (F dtext dlength (dat + 1) dlibrary bsorts bletters bnumbers bsize (x1 + 1)) (fun r80 dat_80 bsorts_80 bletters_80 bnumbers_80 bsize_80 => if r80 = 0 then (some ((0 : Int32), dat_80, bsorts_80, bletters_80, bnumbers_80, bsize_80)) else (bd4 (fX3_put bsorts_80 bletters_80 bnumbers_80 bsize_80 3 0 0) (fun bsorts_95 bletters_95 bnumbers_95 bsize_95 => some ((1 : Int32), dat_80, bsorts_95, bletters_95, bnumbers_95, bsize_95))))))) else (some ((0 : Int32), dat, bsorts, bletters, bnumbers, bsize))))
theorem hinX4_takesPart_X4 : ∀ w ∈ u_ws RX4 TX4 4, w ∈ wsX4_takesPart := fun _ h => List.mem_cons_of_mem _ (List.mem_append_left _ (List.mem_append_right _ h))
set_option maxHeartbeats 4000000 in
set_option maxRecDepth 100000 in
theorem ctgX4_takesPart {l : Launch} {dC : Nat → ClassId} {dI : Nat → Nat → Nat} {kc : Nat → ClassId} {d_o d_text b_o b_sorts b_letters b_numbers : Nat} {adK adV : Nat → Nat} {sf : Option Nat} {dtext : Nat → Int32} {dlength : Int32} {dat : Int32} {dlibrary : Option Nat} {bsorts : Nat → Int32} {bletters : Nat → Int32} {bnumbers : Nat → Int32} {bsize : Int32} {bbear : Int32} {x1 : Int32} {fu : Nat} {r : Int32} {dat' : Int32} {bsorts' : Nat → Int32} {bletters' : Nat → Int32} {bnumbers' : Nat → Int32} {bsize' : Int32} {F : (Nat → Int32) → Int32 → Int32 → (Option Nat) → (Nat → Int32) → (Nat → Int32) → (Nat → Int32) → Int32 → Int32 → Option (Int32 × Int32 × (Nat → Int32) × (Nat → Int32) × (Nat → Int32) × Int32)} {n : Nat} (hF : HFX4_takesPart l dC dI kc d_o d_text b_o b_sorts b_letters b_numbers adK adV sf F n) (hm : gX4_takesPart F fu dtext dlength dat dlibrary bsorts bletters bnumbers bsize x1 = some (r, dat', bsorts', bletters', bnumbers', bsize')) (hkdlibrary : dlibrary = some b_o) : ∀ sz : Nat, Met l yX4_takesPart wsX4_takesPart (rmX4_takesPart (n + 1)) (kPcX dC dI kc (xR adK adV sf) [.ref d_o, .int x1] (fl [wdX4 kc d_o d_text dtext dlength dat dlibrary, wdX3 kc b_o b_sorts b_letters b_numbers bsorts bletters bnumbers bsize bbear]) sz) (kQi dC dI r (fl [wdX4 kc d_o d_text dtext dlength dat' dlibrary, wdX3 kc b_o b_sorts b_letters b_numbers bsorts' bletters' bnumbers' bsize' bbear]) (va_A (fl [wdX4 kc d_o d_text dtext dlength dat dlibrary, wdX3 kc b_o b_sorts b_letters b_numbers bsorts bletters bnumbers bsize bbear]) sz)) 0 0 (va_A (fl [wdX4 kc d_o d_text dtext dlength dat dlibrary, wdX3 kc b_o b_sorts b_letters b_numbers bsorts bletters bnumbers bsize bbear]) sz) := by
  intro sz
  refine kMetX (cc := cX4_takesPart) (maxL := 3) (ret := (some .boolean)) (Qf := fun A => kQi dC dI r (fl [wdX4 kc d_o d_text dtext dlength dat' dlibrary, wdX3 kc b_o b_sorts b_letters b_numbers bsorts' bletters' bnumbers' bsize' bbear]) A) (by decide) rfl (Nat.le_of_ble_eq_true rfl) ?_
  intro p e s m below meth c A ls hx hb hr hml hts hown hlocks hname hsz hA hP hK hD hX hl
  have hS : va_S A s.heap s.heap [] := va_S.rf
  have hl : lv_has ls 3 [(0, .ref d_o), (1, .int x1)] := hl
  unfold gX4_takesPart at hm
  refine lv_aload_n hx hb dX4_takesPart_0 rfl (lv_at hl 0 rfl) ?_
  refine lv_bipush (v := 33) hx hb dX4_takesPart_1 (by decide) ?_
  obtain ⟨r3, hc3, hm⟩ := bd1_e hm
  refine k_callGVi (dC := dC) (dI := dI) (kc := kc) (As := [.int 33]) (rest := []) (Gs' := [wdX4 kc d_o d_text dtext dlength dat dlibrary, wdX3 kc b_o b_sorts b_letters b_numbers bsorts bletters bnumbers bsize bbear]) hx hb hml hown hts hK hP hD hS hA (ctX4_isAt (d_o := d_o) (d_text := d_text) (dtext := dtext) (dlength := dlength) (dat := dat) (dlibrary := dlibrary) (x1 := 33) hc3) (cwV 1 hts gX4_takesPart_X4_isAt rfl rfl rfl (by decide +kernel) ⟨by dsimp only [headSpec, rmX4_takesPart, rmX4_isAt]; omega, by dsimp only [headSpec, rmX4_takesPart, rmX4_isAt]; omega⟩) [0] rfl (by decide) 4 rfl rfl rfl rfl hl rfl (Nat.le_of_ble_eq_true rfl) dX4_takesPart_3 ⟨Nat.zero_le _, Nat.zero_le _⟩ rfl rfl rfl (fun H locs hP hD hS => ?_)
  refine lv_if_ne (tgt := 23) hx hb dX4_takesPart_6 (by decide) (fun c6 => ?_) (fun c6 => ?_)
  · replace hm := it_f c6 hm
    refine lv_iload_n hx hb dX4_takesPart_23 rfl (lv_at hl 1 rfl) ?_
    refine lv_iconst (v := 4) hx hb dX4_takesPart_24 (by decide) ?_
    refine lv_icmp_lt (tgt := 30) hx hb dX4_takesPart_25 (by decide) (fun c25 => ?_) (fun c25 => ?_)
    · replace hm := it_t c25 hm
      refine lv_aload_n hx hb dX4_takesPart_30 rfl (lv_at hl 0 rfl) ?_
      refine lv_bipush (v := 33) hx hb dX4_takesPart_31 (by decide) ?_
      obtain ⟨r33, hc33, hm⟩ := bd1_e hm
      refine k_callGVi (dC := dC) (dI := dI) (kc := kc) (As := [.int 33]) (rest := []) (Gs' := [wdX4 kc d_o d_text dtext dlength dat dlibrary, wdX3 kc b_o b_sorts b_letters b_numbers bsorts bletters bnumbers bsize bbear]) hx hb hml hown hts hK hP hD hS hA (ctX4_isAt (d_o := d_o) (d_text := d_text) (dtext := dtext) (dlength := dlength) (dat := dat) (dlibrary := dlibrary) (x1 := 33) hc33) (cwV 1 hts gX4_takesPart_X4_isAt rfl rfl rfl (by decide +kernel) ⟨by dsimp only [headSpec, rmX4_takesPart, rmX4_isAt]; omega, by dsimp only [headSpec, rmX4_takesPart, rmX4_isAt]; omega⟩) [0] rfl (by decide) 4 rfl rfl rfl rfl hl rfl (Nat.le_of_ble_eq_true rfl) dX4_takesPart_33 ⟨Nat.zero_le _, Nat.zero_le _⟩ rfl rfl rfl (fun H locs hP hD hS => ?_)
      refine lv_istore_n (lv' := [(2, .int r33), (0, .ref d_o), (1, .int x1)]) hx hb dX4_takesPart_36 rfl hl (by decide) rfl (fun ls hl => ?_)
      refine lv_aload_n hx hb dX4_takesPart_37 rfl (lv_at hl 1 rfl) ?_
      refine lv_dup hx hb dX4_takesPart_38 rfl ?_
      refine va_get (D := (dC, dI)) (ci := 4) (v := .int dat) (C := RX4) (T := TX4) (N := 4) hx hb hts hinX4_takesPart_X4 hown hK hP 0 rfl rfl 2 (by decide) (hts _ (List.mem_of_getElem? (i := 1) rfl)) (fun _ h9 => h9) rfl dX4_takesPart_39 ?_
      refine lv_iconst (v := 1) hx hb dX4_takesPart_42 (by decide) ?_
      refine lv_iadd hx hb dX4_takesPart_43 ?_
      refine va_put (D := (dC, dI)) (ci := 4) (v := .int (dat + 1)) (ty := .int) (C := RX4) (T := TX4) (N := 4) hx hb hts hinX4_takesPart_X4 tyX4 tyX4_ok nmX4 hown hK hP hD hS 0 rfl rfl 2 (by decide) (hts _ (List.mem_of_getElem? (i := 1) rfl)) (fun _ h9 => h9) rfl (by decide +kernel) rfl rfl (Nat.le_of_ble_eq_true rfl) dX4_takesPart_44 (fun H locs hP hD hS => ?_)
      have hP : va_P (dC, dI) vwCl (fl [wdX4 kc d_o d_text dtext dlength (dat + 1) dlibrary, wdX3 kc b_o b_sorts b_letters b_numbers bsorts bletters bnumbers bsize bbear]) H := hP
      have hD : va_D A (fl [wdX4 kc d_o d_text dtext dlength (dat + 1) dlibrary, wdX3 kc b_o b_sorts b_letters b_numbers bsorts bletters bnumbers bsize bbear]) := hD
      refine lv_iload_n hx hb dX4_takesPart_47 rfl (lv_at hl 0 rfl) ?_
      refine lv_if_ne (tgt := 76) hx hb dX4_takesPart_48 (by decide) (fun c48 => ?_) (fun c48 => ?_)
      · replace hm := it_f c48 hm
        refine lv_aload_n hx hb dX4_takesPart_76 rfl (lv_at hl 1 rfl) ?_
        refine lv_iload_n hx hb dX4_takesPart_77 rfl (lv_at hl 2 rfl) ?_
        refine lv_iconst (v := 1) hx hb dX4_takesPart_78 (by decide) ?_
        refine lv_iadd hx hb dX4_takesPart_79 ?_
        obtain ⟨r80, dat_80, bsorts_80, bletters_80, bnumbers_80, bsize_80, hc80, hm⟩ := bd6_e hm
        refine k_callXGVi (dC := dC) (dI := dI) (kc := kc) (As := [.int (x1 + 1)]) (rest := []) (Gs' := [wdX4 kc d_o d_text dtext dlength dat_80 dlibrary, wdX3 kc b_o b_sorts b_letters b_numbers bsorts_80 bletters_80 bnumbers_80 bsize_80 bbear]) hx hb hml hown hts hK hP hD hS hA xR_ok hX (hF dtext dlength (dat + 1) dlibrary bsorts bletters bnumbers bsize bbear (x1 + 1) _ _ _ _ _ _ hc80 hkdlibrary) (cwV 1 hts gX4_takesPart_X4_takesPart rfl rfl rfl (by decide +kernel) ⟨by dsimp only [headSpec, rmX4_takesPart, rmX4_takesPart]; omega, by dsimp only [headSpec, rmX4_takesPart, rmX4_takesPart]; omega⟩) [0, 1] rfl (by decide) (va_recv (q0 := 0) (ci := 4) hK hP rfl rfl) rfl hl rfl (Nat.le_of_ble_eq_true rfl) dX4_takesPart_80 ⟨Nat.zero_le _, Nat.zero_le _⟩ rfl rfl rfl (fun H locs hP hD hS => ?_)
        refine lv_if_ne (tgt := 88) hx hb dX4_takesPart_83 (by decide) (fun c83 => ?_) (fun c83 => ?_)
        · replace hm := it_f c83 hm
          refine lv_aload_n hx hb dX4_takesPart_88 rfl (lv_at hl 1 rfl) ?_
          refine va_get (D := (dC, dI)) (ci := 4) (v := .ref b_o) (C := RX4) (T := TX4) (N := 4) hx hb hts hinX4_takesPart_X4 hown hK hP 0 rfl rfl 3 (by decide) (hts _ (List.mem_of_getElem? (i := 2) rfl)) (fun _ h9 => h9) (by show some (va_rf dlibrary) = some (.ref b_o); rw [hkdlibrary]; rfl) dX4_takesPart_89 ?_
          refine lv_iconst (v := 3) hx hb dX4_takesPart_92 (by decide) ?_
          refine lv_iconst (v := 0) hx hb dX4_takesPart_93 (by decide) ?_
          refine lv_iconst (v := 0) hx hb dX4_takesPart_94 (by decide) ?_
          obtain ⟨bsorts_95, bletters_95, bnumbers_95, bsize_95, hc95, hm⟩ := bd4_e hm
          refine k_callGVv (dC := dC) (dI := dI) (kc := kc) (As := [.int 3, .int 0, .int 0]) (rest := []) (Gs' := [wdX4 kc d_o d_text dtext dlength dat_80 dlibrary, wdX3 kc b_o b_sorts b_letters b_numbers bsorts_95 bletters_95 bnumbers_95 bsize_95 bbear]) hx hb hml hown hts hK hP hD hS hA (ctX3_put (b_o := b_o) (b_sorts := b_sorts) (b_letters := b_letters) (b_numbers := b_numbers) (bsorts := bsorts_80) (bletters := bletters_80) (bnumbers := bnumbers_80) (bsize := bsize_80) (bbear := bbear) (x1 := 3) (x2 := 0) (x3 := 0) hc95) (cwV 3 hts gX4_takesPart_X3_put rfl rfl rfl (by decide +kernel) ⟨by dsimp only [headSpec, rmX4_takesPart, rmX3_put]; omega, by dsimp only [headSpec, rmX4_takesPart, rmX3_put]; omega⟩) [1] rfl (by decide) 3 rfl rfl rfl rfl hl rfl (Nat.le_of_ble_eq_true rfl) dX4_takesPart_95 ⟨Nat.zero_le _, Nat.zero_le _⟩ rfl rfl rfl (fun H locs hP hD hS => ?_)
          refine lv_iconst (v := 1) hx hb dX4_takesPart_98 (by decide) ?_
          cases hm
          exact k_zret hx hb hr hlocks (by decide) hP hS dX4_takesPart_99
        · replace hm := it_t c83 hm
          refine lv_iconst (v := 0) hx hb dX4_takesPart_86 (by decide) ?_
          cases hm
          exact k_zret hx hb hr hlocks (by decide) hP hS dX4_takesPart_87
      · replace hm := it_t c48 hm
        refine lv_aload_n hx hb dX4_takesPart_51 rfl (lv_at hl 1 rfl) ?_
        refine lv_iload_n hx hb dX4_takesPart_52 rfl (lv_at hl 2 rfl) ?_
        refine lv_iconst (v := 1) hx hb dX4_takesPart_53 (by decide) ?_
        refine lv_iadd hx hb dX4_takesPart_54 ?_
        obtain ⟨r55, dat_55, bsorts_55, bletters_55, bnumbers_55, bsize_55, hc55, hm⟩ := bd6_e hm
        refine k_callXGVi (dC := dC) (dI := dI) (kc := kc) (As := [.int (x1 + 1)]) (rest := []) (Gs' := [wdX4 kc d_o d_text dtext dlength dat_55 dlibrary, wdX3 kc b_o b_sorts b_letters b_numbers bsorts_55 bletters_55 bnumbers_55 bsize_55 bbear]) hx hb hml hown hts hK hP hD hS hA xR_ok hX (ctX4_takesAnyOf (F := F) (n := n) (fu := fu) (d_o := d_o) (d_text := d_text) (b_o := b_o) (b_sorts := b_sorts) (b_letters := b_letters) (b_numbers := b_numbers) (dtext := dtext) (dlength := dlength) (dat := dat + 1) (dlibrary := dlibrary) (bsorts := bsorts) (bletters := bletters) (bnumbers := bnumbers) (bsize := bsize) (bbear := bbear) (x1 := x1 + 1) (adK := adK) (adV := adV) (sf := sf) hF hc55 hkdlibrary) (cwV 1 hts gX4_takesPart_X4_takesAnyOf rfl rfl rfl (by decide +kernel) ⟨by dsimp only [headSpec, rmX4_takesPart, rmX4_takesAnyOf]; omega, by dsimp only [headSpec, rmX4_takesPart, rmX4_takesAnyOf]; omega⟩) [0, 1] rfl (by decide) (va_recv (q0 := 0) (ci := 4) hK hP rfl rfl) rfl hl rfl (Nat.le_of_ble_eq_true rfl) dX4_takesPart_55 ⟨Nat.zero_le _, Nat.zero_le _⟩ rfl rfl rfl (fun H locs hP hD hS => ?_)
        refine lv_if_eq (tgt := 74) hx hb dX4_takesPart_58 (by decide) (fun c58 => ?_) (fun c58 => ?_)
        · replace hm := it_t c58 hm
          refine lv_iconst (v := 0) hx hb dX4_takesPart_74 (by decide) ?_
          cases hm
          exact k_zret hx hb hr hlocks (by decide) hP hS dX4_takesPart_75
        · replace hm := it_f c58 hm
          refine lv_aload_n hx hb dX4_takesPart_61 rfl (lv_at hl 1 rfl) ?_
          refine va_ldcS (index := 98) (tx := ")") (q := adK 5) hx hb hown (hX.2 5 (by decide)) dX4_takesPart_62 ?_
          obtain ⟨r64, dat_64, hc64, hm⟩ := bd2_e hm
          refine k_callXGVi (dC := dC) (dI := dI) (kc := kc) (As := [.ref (adK 5)]) (rest := []) (Gs' := [wdX4 kc d_o d_text dtext dlength dat_64 dlibrary, wdX3 kc b_o b_sorts b_letters b_numbers bsorts_55 bletters_55 bnumbers_55 bsize_55 bbear]) hx hb hml hown hts hK hP hD hS hA xW_ok (hX.1 5 (by decide)) (ctX4_takesWord (d_o := d_o) (d_text := d_text) (s_q := (adK 5)) (s_v := (adV 5)) (dtext := dtext) (dlength := dlength) (dat := dat_55) (dlibrary := dlibrary) (sL := 1) (sb := (tx 5)) (sf := sf) hc64) (cwV 1 hts gX4_takesPart_X4_takesWord rfl rfl rfl (by decide +kernel) ⟨by dsimp only [headSpec, rmX4_takesPart, rmX4_takesWord]; omega, by dsimp only [headSpec, rmX4_takesPart, rmX4_takesWord]; omega⟩) [0] rfl (by decide) (va_recv (q0 := 0) (ci := 4) hK hP rfl rfl) rfl hl rfl (Nat.le_of_ble_eq_true rfl) dX4_takesPart_64 ⟨Nat.zero_le _, Nat.zero_le _⟩ rfl rfl rfl (fun H locs hP hD hS => ?_)
          refine lv_if_eq (tgt := 74) hx hb dX4_takesPart_67 (by decide) (fun c67 => ?_) (fun c67 => ?_)
          · replace hm := it_t c67 hm
            refine lv_iconst (v := 0) hx hb dX4_takesPart_74 (by decide) ?_
            cases hm
            exact k_zret hx hb hr hlocks (by decide) hP hS dX4_takesPart_75
          · replace hm := it_f c67 hm
            refine lv_iconst (v := 1) hx hb dX4_takesPart_70 (by decide) ?_
            refine lv_goto (tgt := 75) hx hb dX4_takesPart_71 (by decide) ?_
            cases hm
            exact k_zret hx hb hr hlocks (by decide) hP hS dX4_takesPart_75
    · replace hm := it_f c25 hm
      refine lv_iconst (v := 0) hx hb dX4_takesPart_28 (by decide) ?_
      cases hm
      exact k_zret hx hb hr hlocks (by decide) hP hS dX4_takesPart_29
  · replace hm := it_t c6 hm
    refine lv_aload_n hx hb dX4_takesPart_9 rfl (lv_at hl 0 rfl) ?_
    refine lv_bipush (v := 40) hx hb dX4_takesPart_10 (by decide) ?_
    obtain ⟨r12, hc12, hm⟩ := bd1_e hm
    refine k_callGVi (dC := dC) (dI := dI) (kc := kc) (As := [.int 40]) (rest := []) (Gs' := [wdX4 kc d_o d_text dtext dlength dat dlibrary, wdX3 kc b_o b_sorts b_letters b_numbers bsorts bletters bnumbers bsize bbear]) hx hb hml hown hts hK hP hD hS hA (ctX4_isAt (d_o := d_o) (d_text := d_text) (dtext := dtext) (dlength := dlength) (dat := dat) (dlibrary := dlibrary) (x1 := 40) hc12) (cwV 1 hts gX4_takesPart_X4_isAt rfl rfl rfl (by decide +kernel) ⟨by dsimp only [headSpec, rmX4_takesPart, rmX4_isAt]; omega, by dsimp only [headSpec, rmX4_takesPart, rmX4_isAt]; omega⟩) [0] rfl (by decide) 4 rfl rfl rfl rfl hl rfl (Nat.le_of_ble_eq_true rfl) dX4_takesPart_12 ⟨Nat.zero_le _, Nat.zero_le _⟩ rfl rfl rfl (fun H locs hP hD hS => ?_)
    refine lv_if_ne (tgt := 23) hx hb dX4_takesPart_15 (by decide) (fun c15 => ?_) (fun c15 => ?_)
    · replace hm := it_f c15 hm
      refine lv_iload_n hx hb dX4_takesPart_23 rfl (lv_at hl 1 rfl) ?_
      refine lv_iconst (v := 4) hx hb dX4_takesPart_24 (by decide) ?_
      refine lv_icmp_lt (tgt := 30) hx hb dX4_takesPart_25 (by decide) (fun c25 => ?_) (fun c25 => ?_)
      · replace hm := it_t c25 hm
        refine lv_aload_n hx hb dX4_takesPart_30 rfl (lv_at hl 0 rfl) ?_
        refine lv_bipush (v := 33) hx hb dX4_takesPart_31 (by decide) ?_
        obtain ⟨r33, hc33, hm⟩ := bd1_e hm
        refine k_callGVi (dC := dC) (dI := dI) (kc := kc) (As := [.int 33]) (rest := []) (Gs' := [wdX4 kc d_o d_text dtext dlength dat dlibrary, wdX3 kc b_o b_sorts b_letters b_numbers bsorts bletters bnumbers bsize bbear]) hx hb hml hown hts hK hP hD hS hA (ctX4_isAt (d_o := d_o) (d_text := d_text) (dtext := dtext) (dlength := dlength) (dat := dat) (dlibrary := dlibrary) (x1 := 33) hc33) (cwV 1 hts gX4_takesPart_X4_isAt rfl rfl rfl (by decide +kernel) ⟨by dsimp only [headSpec, rmX4_takesPart, rmX4_isAt]; omega, by dsimp only [headSpec, rmX4_takesPart, rmX4_isAt]; omega⟩) [0] rfl (by decide) 4 rfl rfl rfl rfl hl rfl (Nat.le_of_ble_eq_true rfl) dX4_takesPart_33 ⟨Nat.zero_le _, Nat.zero_le _⟩ rfl rfl rfl (fun H locs hP hD hS => ?_)
        refine lv_istore_n (lv' := [(2, .int r33), (0, .ref d_o), (1, .int x1)]) hx hb dX4_takesPart_36 rfl hl (by decide) rfl (fun ls hl => ?_)
        refine lv_aload_n hx hb dX4_takesPart_37 rfl (lv_at hl 1 rfl) ?_
        refine lv_dup hx hb dX4_takesPart_38 rfl ?_
        refine va_get (D := (dC, dI)) (ci := 4) (v := .int dat) (C := RX4) (T := TX4) (N := 4) hx hb hts hinX4_takesPart_X4 hown hK hP 0 rfl rfl 2 (by decide) (hts _ (List.mem_of_getElem? (i := 1) rfl)) (fun _ h9 => h9) rfl dX4_takesPart_39 ?_
        refine lv_iconst (v := 1) hx hb dX4_takesPart_42 (by decide) ?_
        refine lv_iadd hx hb dX4_takesPart_43 ?_
        refine va_put (D := (dC, dI)) (ci := 4) (v := .int (dat + 1)) (ty := .int) (C := RX4) (T := TX4) (N := 4) hx hb hts hinX4_takesPart_X4 tyX4 tyX4_ok nmX4 hown hK hP hD hS 0 rfl rfl 2 (by decide) (hts _ (List.mem_of_getElem? (i := 1) rfl)) (fun _ h9 => h9) rfl (by decide +kernel) rfl rfl (Nat.le_of_ble_eq_true rfl) dX4_takesPart_44 (fun H locs hP hD hS => ?_)
        have hP : va_P (dC, dI) vwCl (fl [wdX4 kc d_o d_text dtext dlength (dat + 1) dlibrary, wdX3 kc b_o b_sorts b_letters b_numbers bsorts bletters bnumbers bsize bbear]) H := hP
        have hD : va_D A (fl [wdX4 kc d_o d_text dtext dlength (dat + 1) dlibrary, wdX3 kc b_o b_sorts b_letters b_numbers bsorts bletters bnumbers bsize bbear]) := hD
        refine lv_iload_n hx hb dX4_takesPart_47 rfl (lv_at hl 0 rfl) ?_
        refine lv_if_ne (tgt := 76) hx hb dX4_takesPart_48 (by decide) (fun c48 => ?_) (fun c48 => ?_)
        · replace hm := it_f c48 hm
          refine lv_aload_n hx hb dX4_takesPart_76 rfl (lv_at hl 1 rfl) ?_
          refine lv_iload_n hx hb dX4_takesPart_77 rfl (lv_at hl 2 rfl) ?_
          refine lv_iconst (v := 1) hx hb dX4_takesPart_78 (by decide) ?_
          refine lv_iadd hx hb dX4_takesPart_79 ?_
          obtain ⟨r80, dat_80, bsorts_80, bletters_80, bnumbers_80, bsize_80, hc80, hm⟩ := bd6_e hm
          refine k_callXGVi (dC := dC) (dI := dI) (kc := kc) (As := [.int (x1 + 1)]) (rest := []) (Gs' := [wdX4 kc d_o d_text dtext dlength dat_80 dlibrary, wdX3 kc b_o b_sorts b_letters b_numbers bsorts_80 bletters_80 bnumbers_80 bsize_80 bbear]) hx hb hml hown hts hK hP hD hS hA xR_ok hX (hF dtext dlength (dat + 1) dlibrary bsorts bletters bnumbers bsize bbear (x1 + 1) _ _ _ _ _ _ hc80 hkdlibrary) (cwV 1 hts gX4_takesPart_X4_takesPart rfl rfl rfl (by decide +kernel) ⟨by dsimp only [headSpec, rmX4_takesPart, rmX4_takesPart]; omega, by dsimp only [headSpec, rmX4_takesPart, rmX4_takesPart]; omega⟩) [0, 1] rfl (by decide) (va_recv (q0 := 0) (ci := 4) hK hP rfl rfl) rfl hl rfl (Nat.le_of_ble_eq_true rfl) dX4_takesPart_80 ⟨Nat.zero_le _, Nat.zero_le _⟩ rfl rfl rfl (fun H locs hP hD hS => ?_)
          refine lv_if_ne (tgt := 88) hx hb dX4_takesPart_83 (by decide) (fun c83 => ?_) (fun c83 => ?_)
          · replace hm := it_f c83 hm
            refine lv_aload_n hx hb dX4_takesPart_88 rfl (lv_at hl 1 rfl) ?_
            refine va_get (D := (dC, dI)) (ci := 4) (v := .ref b_o) (C := RX4) (T := TX4) (N := 4) hx hb hts hinX4_takesPart_X4 hown hK hP 0 rfl rfl 3 (by decide) (hts _ (List.mem_of_getElem? (i := 2) rfl)) (fun _ h9 => h9) (by show some (va_rf dlibrary) = some (.ref b_o); rw [hkdlibrary]; rfl) dX4_takesPart_89 ?_
            refine lv_iconst (v := 3) hx hb dX4_takesPart_92 (by decide) ?_
            refine lv_iconst (v := 0) hx hb dX4_takesPart_93 (by decide) ?_
            refine lv_iconst (v := 0) hx hb dX4_takesPart_94 (by decide) ?_
            obtain ⟨bsorts_95, bletters_95, bnumbers_95, bsize_95, hc95, hm⟩ := bd4_e hm
            refine k_callGVv (dC := dC) (dI := dI) (kc := kc) (As := [.int 3, .int 0, .int 0]) (rest := []) (Gs' := [wdX4 kc d_o d_text dtext dlength dat_80 dlibrary, wdX3 kc b_o b_sorts b_letters b_numbers bsorts_95 bletters_95 bnumbers_95 bsize_95 bbear]) hx hb hml hown hts hK hP hD hS hA (ctX3_put (b_o := b_o) (b_sorts := b_sorts) (b_letters := b_letters) (b_numbers := b_numbers) (bsorts := bsorts_80) (bletters := bletters_80) (bnumbers := bnumbers_80) (bsize := bsize_80) (bbear := bbear) (x1 := 3) (x2 := 0) (x3 := 0) hc95) (cwV 3 hts gX4_takesPart_X3_put rfl rfl rfl (by decide +kernel) ⟨by dsimp only [headSpec, rmX4_takesPart, rmX3_put]; omega, by dsimp only [headSpec, rmX4_takesPart, rmX3_put]; omega⟩) [1] rfl (by decide) 3 rfl rfl rfl rfl hl rfl (Nat.le_of_ble_eq_true rfl) dX4_takesPart_95 ⟨Nat.zero_le _, Nat.zero_le _⟩ rfl rfl rfl (fun H locs hP hD hS => ?_)
            refine lv_iconst (v := 1) hx hb dX4_takesPart_98 (by decide) ?_
            cases hm
            exact k_zret hx hb hr hlocks (by decide) hP hS dX4_takesPart_99
          · replace hm := it_t c83 hm
            refine lv_iconst (v := 0) hx hb dX4_takesPart_86 (by decide) ?_
            cases hm
            exact k_zret hx hb hr hlocks (by decide) hP hS dX4_takesPart_87
        · replace hm := it_t c48 hm
          refine lv_aload_n hx hb dX4_takesPart_51 rfl (lv_at hl 1 rfl) ?_
          refine lv_iload_n hx hb dX4_takesPart_52 rfl (lv_at hl 2 rfl) ?_
          refine lv_iconst (v := 1) hx hb dX4_takesPart_53 (by decide) ?_
          refine lv_iadd hx hb dX4_takesPart_54 ?_
          obtain ⟨r55, dat_55, bsorts_55, bletters_55, bnumbers_55, bsize_55, hc55, hm⟩ := bd6_e hm
          refine k_callXGVi (dC := dC) (dI := dI) (kc := kc) (As := [.int (x1 + 1)]) (rest := []) (Gs' := [wdX4 kc d_o d_text dtext dlength dat_55 dlibrary, wdX3 kc b_o b_sorts b_letters b_numbers bsorts_55 bletters_55 bnumbers_55 bsize_55 bbear]) hx hb hml hown hts hK hP hD hS hA xR_ok hX (ctX4_takesAnyOf (F := F) (n := n) (fu := fu) (d_o := d_o) (d_text := d_text) (b_o := b_o) (b_sorts := b_sorts) (b_letters := b_letters) (b_numbers := b_numbers) (dtext := dtext) (dlength := dlength) (dat := dat + 1) (dlibrary := dlibrary) (bsorts := bsorts) (bletters := bletters) (bnumbers := bnumbers) (bsize := bsize) (bbear := bbear) (x1 := x1 + 1) (adK := adK) (adV := adV) (sf := sf) hF hc55 hkdlibrary) (cwV 1 hts gX4_takesPart_X4_takesAnyOf rfl rfl rfl (by decide +kernel) ⟨by dsimp only [headSpec, rmX4_takesPart, rmX4_takesAnyOf]; omega, by dsimp only [headSpec, rmX4_takesPart, rmX4_takesAnyOf]; omega⟩) [0, 1] rfl (by decide) (va_recv (q0 := 0) (ci := 4) hK hP rfl rfl) rfl hl rfl (Nat.le_of_ble_eq_true rfl) dX4_takesPart_55 ⟨Nat.zero_le _, Nat.zero_le _⟩ rfl rfl rfl (fun H locs hP hD hS => ?_)
          refine lv_if_eq (tgt := 74) hx hb dX4_takesPart_58 (by decide) (fun c58 => ?_) (fun c58 => ?_)
          · replace hm := it_t c58 hm
            refine lv_iconst (v := 0) hx hb dX4_takesPart_74 (by decide) ?_
            cases hm
            exact k_zret hx hb hr hlocks (by decide) hP hS dX4_takesPart_75
          · replace hm := it_f c58 hm
            refine lv_aload_n hx hb dX4_takesPart_61 rfl (lv_at hl 1 rfl) ?_
            refine va_ldcS (index := 98) (tx := ")") (q := adK 5) hx hb hown (hX.2 5 (by decide)) dX4_takesPart_62 ?_
            obtain ⟨r64, dat_64, hc64, hm⟩ := bd2_e hm
            refine k_callXGVi (dC := dC) (dI := dI) (kc := kc) (As := [.ref (adK 5)]) (rest := []) (Gs' := [wdX4 kc d_o d_text dtext dlength dat_64 dlibrary, wdX3 kc b_o b_sorts b_letters b_numbers bsorts_55 bletters_55 bnumbers_55 bsize_55 bbear]) hx hb hml hown hts hK hP hD hS hA xW_ok (hX.1 5 (by decide)) (ctX4_takesWord (d_o := d_o) (d_text := d_text) (s_q := (adK 5)) (s_v := (adV 5)) (dtext := dtext) (dlength := dlength) (dat := dat_55) (dlibrary := dlibrary) (sL := 1) (sb := (tx 5)) (sf := sf) hc64) (cwV 1 hts gX4_takesPart_X4_takesWord rfl rfl rfl (by decide +kernel) ⟨by dsimp only [headSpec, rmX4_takesPart, rmX4_takesWord]; omega, by dsimp only [headSpec, rmX4_takesPart, rmX4_takesWord]; omega⟩) [0] rfl (by decide) (va_recv (q0 := 0) (ci := 4) hK hP rfl rfl) rfl hl rfl (Nat.le_of_ble_eq_true rfl) dX4_takesPart_64 ⟨Nat.zero_le _, Nat.zero_le _⟩ rfl rfl rfl (fun H locs hP hD hS => ?_)
            refine lv_if_eq (tgt := 74) hx hb dX4_takesPart_67 (by decide) (fun c67 => ?_) (fun c67 => ?_)
            · replace hm := it_t c67 hm
              refine lv_iconst (v := 0) hx hb dX4_takesPart_74 (by decide) ?_
              cases hm
              exact k_zret hx hb hr hlocks (by decide) hP hS dX4_takesPart_75
            · replace hm := it_f c67 hm
              refine lv_iconst (v := 1) hx hb dX4_takesPart_70 (by decide) ?_
              refine lv_goto (tgt := 75) hx hb dX4_takesPart_71 (by decide) ?_
              cases hm
              exact k_zret hx hb hr hlocks (by decide) hP hS dX4_takesPart_75
      · replace hm := it_f c25 hm
        refine lv_iconst (v := 0) hx hb dX4_takesPart_28 (by decide) ?_
        cases hm
        exact k_zret hx hb hr hlocks (by decide) hP hS dX4_takesPart_29
    · replace hm := it_t c15 hm
      refine lv_aload_n hx hb dX4_takesPart_18 rfl (lv_at hl 0 rfl) ?_
      obtain ⟨r19, dat_19, bsorts_19, bletters_19, bnumbers_19, bsize_19, hc19, hm⟩ := bd6_e hm
      refine k_callXGVi (dC := dC) (dI := dI) (kc := kc) (As := []) (rest := []) (Gs' := [wdX4 kc d_o d_text dtext dlength dat_19 dlibrary, wdX3 kc b_o b_sorts b_letters b_numbers bsorts_19 bletters_19 bnumbers_19 bsize_19 bbear]) hx hb hml hown hts hK hP hD hS hA xR_ok hX (ctX4_takesTest (d_o := d_o) (d_text := d_text) (b_o := b_o) (b_sorts := b_sorts) (b_letters := b_letters) (b_numbers := b_numbers) (dtext := dtext) (dlength := dlength) (dat := dat) (dlibrary := dlibrary) (bsorts := bsorts) (bletters := bletters) (bnumbers := bnumbers) (bsize := bsize) (bbear := bbear) (adK := adK) (adV := adV) (sf := sf) hc19 hkdlibrary) (cwV 0 hts gX4_takesPart_X4_takesTest rfl rfl rfl (by decide +kernel) ⟨by dsimp only [headSpec, rmX4_takesPart, rmX4_takesTest]; omega, by dsimp only [headSpec, rmX4_takesPart, rmX4_takesTest]; omega⟩) [0, 1] rfl (by decide) (va_recv (q0 := 0) (ci := 4) hK hP rfl rfl) rfl hl rfl (Nat.le_of_ble_eq_true rfl) dX4_takesPart_19 ⟨Nat.zero_le _, Nat.zero_le _⟩ rfl rfl rfl (fun H locs hP hD hS => ?_)
      obtain ⟨hz22, hm⟩ := gd_e hm
      cases hm
      exact k_zret hx hb hr hlocks hz22 hP hS dX4_takesPart_22
def fX4_takesPart (fu : Nat) : Nat → (Nat → Int32) → Int32 → Int32 → (Option Nat) → (Nat → Int32) → (Nat → Int32) → (Nat → Int32) → Int32 → Int32 → Option (Int32 × Int32 × (Nat → Int32) × (Nat → Int32) × (Nat → Int32) × Int32)
  | 0, _, _, _, _, _, _, _, _, _ => none
  | n + 1, dtext, dlength, dat, dlibrary, bsorts, bletters, bnumbers, bsize, x1 => gX4_takesPart (fX4_takesPart fu n) fu dtext dlength dat dlibrary bsorts bletters bnumbers bsize x1
theorem hFX4_takesPart {l : Launch} {dC : Nat → ClassId} {dI : Nat → Nat → Nat} {kc : Nat → ClassId} {d_o d_text b_o b_sorts b_letters b_numbers : Nat} {adK adV : Nat → Nat} {sf : Option Nat} {fu : Nat} : ∀ {n : Nat}, HFX4_takesPart l dC dI kc d_o d_text b_o b_sorts b_letters b_numbers adK adV sf (fX4_takesPart fu n) n := by
  intro n
  induction n with
  | zero => intro dtext dlength dat dlibrary bsorts bletters bnumbers bsize bbear x1 r dat' bsorts' bletters' bnumbers' bsize' hm; rw [fX4_takesPart] at hm; cases hm
  | succ n ih => intro dtext dlength dat dlibrary bsorts bletters bnumbers bsize bbear x1 r dat' bsorts' bletters' bnumbers' bsize' hm hkdlibrary; rw [fX4_takesPart] at hm; exact ctgX4_takesPart ih hm hkdlibrary
def fX4_takesClause (fu : Nat) (dtext : Nat → Int32) (dlength : Int32) (dat : Int32) (dlibrary : Option Nat) (bsorts : Nat → Int32) (bletters : Nat → Int32) (bnumbers : Nat → Int32) (bsize : Int32) (bbear : Int32) : Option (Int32 × Int32 × (Nat → Int32) × (Nat → Int32) × (Nat → Int32) × Int32 × Int32) := bd1 (fX4_isAt dtext dlength dat 98) (fun r3 => bd1 (fX4_isAt dtext dlength dat 100) (fun r10 => if r3 = 0 then (if r10 = 0 then (bd2 (fX4_takesWord fu dtext dlength dat 3 (tx 3)) (fun r35 dat_35 => if r35 = 0 then (some ((0 : Int32), dat_35, bsorts, bletters, bnumbers, bsize, bbear)) else (bd2 (fX4_takesNumber fu dtext dlength dat_35) (fun r44 dat_44 => if 0 ≤ r44 then (if r3 = 0 then (bd2 (fX4_takesWord fu dtext dlength dat_44 1 (tx 4)) (fun r71 dat_71 => if r71 = 0 then (some ((0 : Int32), dat_71, bsorts, bletters, bnumbers, bsize, bbear)) else (bd6 (fX4_takesAnyOf (fX4_takesPart fu 6) fu dtext dlength dat_71 dlibrary bsorts bletters bnumbers bsize 0) (fun r79 dat_79 bsorts_79 bletters_79 bnumbers_79 bsize_79 => if r79 = 0 then (some ((0 : Int32), dat_79, bsorts_79, bletters_79, bnumbers_79, bsize_79, bbear)) else (if r10 = 0 then (bd4 (fX3_put bsorts_79 bletters_79 bnumbers_79 bsize_79 6 0 r44) (fun bsorts_104 bletters_104 bnumbers_104 bsize_104 => some ((1 : Int32), dat_79, bsorts_104, bletters_104, bnumbers_104, bsize_104, bbear))) else (bd4 (fX3_put bsorts_79 bletters_79 bnumbers_79 bsize_79 7 0 r44) (fun bsorts_104 bletters_104 bnumbers_104 bsize_104 => some ((1 : Int32), dat_79, bsorts_104, bletters_104, bnumbers_104, bsize_104, bbear)))))))) else (some ((1 : Int32), dat_44, bsorts, bletters, bnumbers, bsize, r44))) else (some ((0 : Int32), dat_44, bsorts, bletters, bnumbers, bsize, bbear)))))) else (bd2 (fX4_takesWord fu dtext dlength dat 5 (tx 2)) (fun r35 dat_35 => if r35 = 0 then (some ((0 : Int32), dat_35, bsorts, bletters, bnumbers, bsize, bbear)) else (bd2 (fX4_takesNumber fu dtext dlength dat_35) (fun r44 dat_44 => if 0 ≤ r44 then (if r3 = 0 then (bd2 (fX4_takesWord fu dtext dlength dat_44 1 (tx 4)) (fun r71 dat_71 => if r71 = 0 then (some ((0 : Int32), dat_71, bsorts, bletters, bnumbers, bsize, bbear)) else (bd6 (fX4_takesAnyOf (fX4_takesPart fu 6) fu dtext dlength dat_71 dlibrary bsorts bletters bnumbers bsize 0) (fun r79 dat_79 bsorts_79 bletters_79 bnumbers_79 bsize_79 => if r79 = 0 then (some ((0 : Int32), dat_79, bsorts_79, bletters_79, bnumbers_79, bsize_79, bbear)) else (if r10 = 0 then (bd4 (fX3_put bsorts_79 bletters_79 bnumbers_79 bsize_79 6 0 r44) (fun bsorts_104 bletters_104 bnumbers_104 bsize_104 => some ((1 : Int32), dat_79, bsorts_104, bletters_104, bnumbers_104, bsize_104, bbear))) else (bd4 (fX3_put bsorts_79 bletters_79 bnumbers_79 bsize_79 7 0 r44) (fun bsorts_104 bletters_104 bnumbers_104 bsize_104 => some ((1 : Int32), dat_79, bsorts_104, bletters_104, bnumbers_104, bsize_104, bbear)))))))) else (some ((1 : Int32), dat_44, bsorts, bletters, bnumbers, bsize, r44))) else (some ((0 : Int32), dat_44, bsorts, bletters, bnumbers, bsize, bbear))))))) else (bd2 (fX4_takesWord fu dtext dlength dat 5 (tx 1)) (fun r35 dat_35 => if r35 = 0 then (some ((0 : Int32), dat_35, bsorts, bletters, bnumbers, bsize, bbear)) else (bd2 (fX4_takesNumber fu dtext dlength dat_35) (fun r44 dat_44 => if 0 ≤ r44 then (if r3 = 0 then (bd2 (fX4_takesWord fu dtext dlength dat_44 1 (tx 4)) (fun r71 dat_71 => if r71 = 0 then (some ((0 : Int32), dat_71, bsorts, bletters, bnumbers, bsize, bbear)) else (bd6 (fX4_takesAnyOf (fX4_takesPart fu 6) fu dtext dlength dat_71 dlibrary bsorts bletters bnumbers bsize 0) (fun r79 dat_79 bsorts_79 bletters_79 bnumbers_79 bsize_79 => if r79 = 0 then (some ((0 : Int32), dat_79, bsorts_79, bletters_79, bnumbers_79, bsize_79, bbear)) else (if r10 = 0 then (bd4 (fX3_put bsorts_79 bletters_79 bnumbers_79 bsize_79 6 0 r44) (fun bsorts_104 bletters_104 bnumbers_104 bsize_104 => some ((1 : Int32), dat_79, bsorts_104, bletters_104, bnumbers_104, bsize_104, bbear))) else (bd4 (fX3_put bsorts_79 bletters_79 bnumbers_79 bsize_79 7 0 r44) (fun bsorts_104 bletters_104 bnumbers_104 bsize_104 => some ((1 : Int32), dat_79, bsorts_104, bletters_104, bnumbers_104, bsize_104, bbear)))))))) else (some ((1 : Int32), dat_44, bsorts, bletters, bnumbers, bsize, r44))) else (some ((0 : Int32), dat_44, bsorts, bletters, bnumbers, bsize, bbear))))))))
theorem hinX4_takesClause_X3 : ∀ w ∈ u_ws RX3 TX3 5, w ∈ wsX4_takesClause := fun _ h => List.mem_cons_of_mem _ (List.mem_append_right _ h)
theorem hinX4_takesClause_X4 : ∀ w ∈ u_ws RX4 TX4 4, w ∈ wsX4_takesClause := fun _ h => List.mem_cons_of_mem _ (List.mem_append_left _ (List.mem_append_right _ h))
abbrev rmX4_takesClause : Room := { frames := 254, cells := 0, slots := 0, locals := 6900 }
set_option maxHeartbeats 4000000 in
set_option maxRecDepth 100000 in
theorem ctX4_takesClause {l : Launch} {dC : Nat → ClassId} {dI : Nat → Nat → Nat} {kc : Nat → ClassId} {d_o d_text b_o b_sorts b_letters b_numbers : Nat} {adK adV : Nat → Nat} {sf : Option Nat} {dtext : Nat → Int32} {dlength : Int32} {dat : Int32} {dlibrary : Option Nat} {bsorts : Nat → Int32} {bletters : Nat → Int32} {bnumbers : Nat → Int32} {bsize : Int32} {bbear : Int32} {fu : Nat} {r : Int32} {dat' : Int32} {bsorts' : Nat → Int32} {bletters' : Nat → Int32} {bnumbers' : Nat → Int32} {bsize' : Int32} {bbear' : Int32} (hm : fX4_takesClause fu dtext dlength dat dlibrary bsorts bletters bnumbers bsize bbear = some (r, dat', bsorts', bletters', bnumbers', bsize', bbear')) (hkdlibrary : dlibrary = some b_o) : ∀ sz : Nat, Met l yX4_takesClause wsX4_takesClause rmX4_takesClause (kPcX dC dI kc (xR adK adV sf) [.ref d_o] (fl [wdX4 kc d_o d_text dtext dlength dat dlibrary, wdX3 kc b_o b_sorts b_letters b_numbers bsorts bletters bnumbers bsize bbear]) sz) (kQi dC dI r (fl [wdX4 kc d_o d_text dtext dlength dat' dlibrary, wdX3 kc b_o b_sorts b_letters b_numbers bsorts' bletters' bnumbers' bsize' bbear']) (va_A (fl [wdX4 kc d_o d_text dtext dlength dat dlibrary, wdX3 kc b_o b_sorts b_letters b_numbers bsorts bletters bnumbers bsize bbear]) sz)) 0 0 (va_A (fl [wdX4 kc d_o d_text dtext dlength dat dlibrary, wdX3 kc b_o b_sorts b_letters b_numbers bsorts bletters bnumbers bsize bbear]) sz) := by
  intro sz
  refine kMetX (cc := cX4_takesClause) (maxL := 4) (ret := (some .boolean)) (Qf := fun A => kQi dC dI r (fl [wdX4 kc d_o d_text dtext dlength dat' dlibrary, wdX3 kc b_o b_sorts b_letters b_numbers bsorts' bletters' bnumbers' bsize' bbear']) A) (by decide) rfl (Nat.le_of_ble_eq_true rfl) ?_
  intro p e s m below meth c A ls hx hb hr hml hts hown hlocks hname hsz hA hP hK hD hX hl
  have hS : va_S A s.heap s.heap [] := va_S.rf
  have hl : lv_has ls 4 [(0, .ref d_o)] := hl
  unfold fX4_takesClause at hm
  refine lv_aload_n hx hb dX4_takesClause_0 rfl (lv_at hl 0 rfl) ?_
  refine lv_bipush (v := 98) hx hb dX4_takesClause_1 (by decide) ?_
  obtain ⟨r3, hc3, hm⟩ := bd1_e hm
  refine k_callGVi (dC := dC) (dI := dI) (kc := kc) (As := [.int 98]) (rest := []) (Gs' := [wdX4 kc d_o d_text dtext dlength dat dlibrary, wdX3 kc b_o b_sorts b_letters b_numbers bsorts bletters bnumbers bsize bbear]) hx hb hml hown hts hK hP hD hS hA (ctX4_isAt (d_o := d_o) (d_text := d_text) (dtext := dtext) (dlength := dlength) (dat := dat) (dlibrary := dlibrary) (x1 := 98) hc3) (cwV 1 hts gX4_takesClause_X4_isAt rfl rfl rfl (by decide +kernel) ⟨Nat.le_of_ble_eq_true rfl, Nat.le_of_ble_eq_true rfl⟩) [0] rfl (by decide) 4 rfl rfl rfl rfl hl rfl (Nat.le_of_ble_eq_true rfl) dX4_takesClause_3 ⟨Nat.zero_le _, Nat.zero_le _⟩ rfl rfl rfl (fun H locs hP hD hS => ?_)
  refine lv_istore_n (lv' := [(1, .int r3), (0, .ref d_o)]) hx hb dX4_takesClause_6 rfl hl (by decide) rfl (fun ls hl => ?_)
  refine lv_aload_n hx hb dX4_takesClause_7 rfl (lv_at hl 1 rfl) ?_
  refine lv_bipush (v := 100) hx hb dX4_takesClause_8 (by decide) ?_
  obtain ⟨r10, hc10, hm⟩ := bd1_e hm
  refine k_callGVi (dC := dC) (dI := dI) (kc := kc) (As := [.int 100]) (rest := []) (Gs' := [wdX4 kc d_o d_text dtext dlength dat dlibrary, wdX3 kc b_o b_sorts b_letters b_numbers bsorts bletters bnumbers bsize bbear]) hx hb hml hown hts hK hP hD hS hA (ctX4_isAt (d_o := d_o) (d_text := d_text) (dtext := dtext) (dlength := dlength) (dat := dat) (dlibrary := dlibrary) (x1 := 100) hc10) (cwV 1 hts gX4_takesClause_X4_isAt rfl rfl rfl (by decide +kernel) ⟨Nat.le_of_ble_eq_true rfl, Nat.le_of_ble_eq_true rfl⟩) [0] rfl (by decide) 4 rfl rfl rfl rfl hl rfl (Nat.le_of_ble_eq_true rfl) dX4_takesClause_10 ⟨Nat.zero_le _, Nat.zero_le _⟩ rfl rfl rfl (fun H locs hP hD hS => ?_)
  refine lv_istore_n (lv' := [(2, .int r10), (1, .int r3), (0, .ref d_o)]) hx hb dX4_takesClause_13 rfl hl (by decide) rfl (fun ls hl => ?_)
  refine lv_aload_n hx hb dX4_takesClause_14 rfl (lv_at hl 2 rfl) ?_
  refine lv_iload_n hx hb dX4_takesClause_15 rfl (lv_at hl 1 rfl) ?_
  refine lv_if_eq (tgt := 24) hx hb dX4_takesClause_16 (by decide) (fun c16 => ?_) (fun c16 => ?_)
  · replace hm := it_t c16 hm
    refine lv_iload_n hx hb dX4_takesClause_24 rfl (lv_at hl 0 rfl) ?_
    refine lv_if_eq (tgt := 33) hx hb dX4_takesClause_25 (by decide) (fun c25 => ?_) (fun c25 => ?_)
    · replace hm := it_t c25 hm
      refine va_ldcS (index := 71) (tx := "up ") (q := adK 3) hx hb hown (hX.2 3 (by decide)) dX4_takesClause_33 ?_
      obtain ⟨r35, dat_35, hc35, hm⟩ := bd2_e hm
      refine k_callXGVi (dC := dC) (dI := dI) (kc := kc) (As := [.ref (adK 3)]) (rest := []) (Gs' := [wdX4 kc d_o d_text dtext dlength dat_35 dlibrary, wdX3 kc b_o b_sorts b_letters b_numbers bsorts bletters bnumbers bsize bbear]) hx hb hml hown hts hK hP hD hS hA xW_ok (hX.1 3 (by decide)) (ctX4_takesWord (d_o := d_o) (d_text := d_text) (s_q := (adK 3)) (s_v := (adV 3)) (dtext := dtext) (dlength := dlength) (dat := dat) (dlibrary := dlibrary) (sL := 3) (sb := (tx 3)) (sf := sf) hc35) (cwV 1 hts gX4_takesClause_X4_takesWord rfl rfl rfl (by decide +kernel) ⟨Nat.le_of_ble_eq_true rfl, Nat.le_of_ble_eq_true rfl⟩) [0] rfl (by decide) (va_recv (q0 := 0) (ci := 4) hK hP rfl rfl) rfl hl rfl (Nat.le_of_ble_eq_true rfl) dX4_takesClause_35 ⟨Nat.zero_le _, Nat.zero_le _⟩ rfl rfl rfl (fun H locs hP hD hS => ?_)
      refine lv_if_ne (tgt := 43) hx hb dX4_takesClause_38 (by decide) (fun c38 => ?_) (fun c38 => ?_)
      · replace hm := it_f c38 hm
        refine lv_aload_n hx hb dX4_takesClause_43 rfl (lv_at hl 2 rfl) ?_
        obtain ⟨r44, dat_44, hc44, hm⟩ := bd2_e hm
        refine k_callGVi (dC := dC) (dI := dI) (kc := kc) (As := []) (rest := []) (Gs' := [wdX4 kc d_o d_text dtext dlength dat_44 dlibrary, wdX3 kc b_o b_sorts b_letters b_numbers bsorts bletters bnumbers bsize bbear]) hx hb hml hown hts hK hP hD hS hA (ctX4_takesNumber (d_o := d_o) (d_text := d_text) (dtext := dtext) (dlength := dlength) (dat := dat_35) (dlibrary := dlibrary) hc44) (cwV 0 hts gX4_takesClause_X4_takesNumber rfl rfl rfl (by decide +kernel) ⟨Nat.le_of_ble_eq_true rfl, Nat.le_of_ble_eq_true rfl⟩) [0] rfl (by decide) 4 rfl rfl rfl rfl hl rfl (Nat.le_of_ble_eq_true rfl) dX4_takesClause_44 ⟨Nat.zero_le _, Nat.zero_le _⟩ rfl rfl rfl (fun H locs hP hD hS => ?_)
        refine lv_istore_n (lv' := [(3, .int r44), (2, .int r10), (1, .int r3), (0, .ref d_o)]) hx hb dX4_takesClause_47 rfl hl (by decide) rfl (fun ls hl => ?_)
        refine lv_iload_n hx hb dX4_takesClause_48 rfl (lv_at hl 0 rfl) ?_
        refine lv_if_ge (tgt := 54) hx hb dX4_takesClause_49 (by decide) (fun c49 => ?_) (fun c49 => ?_)
        · replace hm := it_t c49 hm
          refine lv_iload_n hx hb dX4_takesClause_54 rfl (lv_at hl 2 rfl) ?_
          refine lv_if_eq (tgt := 68) hx hb dX4_takesClause_55 (by decide) (fun c55 => ?_) (fun c55 => ?_)
          · replace hm := it_t c55 hm
            refine lv_aload_n hx hb dX4_takesClause_68 rfl (lv_at hl 3 rfl) ?_
            refine va_ldcS (index := 79) (tx := " ") (q := adK 4) hx hb hown (hX.2 4 (by decide)) dX4_takesClause_69 ?_
            obtain ⟨r71, dat_71, hc71, hm⟩ := bd2_e hm
            refine k_callXGVi (dC := dC) (dI := dI) (kc := kc) (As := [.ref (adK 4)]) (rest := []) (Gs' := [wdX4 kc d_o d_text dtext dlength dat_71 dlibrary, wdX3 kc b_o b_sorts b_letters b_numbers bsorts bletters bnumbers bsize bbear]) hx hb hml hown hts hK hP hD hS hA xW_ok (hX.1 4 (by decide)) (ctX4_takesWord (d_o := d_o) (d_text := d_text) (s_q := (adK 4)) (s_v := (adV 4)) (dtext := dtext) (dlength := dlength) (dat := dat_44) (dlibrary := dlibrary) (sL := 1) (sb := (tx 4)) (sf := sf) hc71) (cwV 1 hts gX4_takesClause_X4_takesWord rfl rfl rfl (by decide +kernel) ⟨Nat.le_of_ble_eq_true rfl, Nat.le_of_ble_eq_true rfl⟩) [0] rfl (by decide) (va_recv (q0 := 0) (ci := 4) hK hP rfl rfl) rfl hl rfl (Nat.le_of_ble_eq_true rfl) dX4_takesClause_71 ⟨Nat.zero_le _, Nat.zero_le _⟩ rfl rfl rfl (fun H locs hP hD hS => ?_)
            refine lv_if_eq (tgt := 85) hx hb dX4_takesClause_74 (by decide) (fun c74 => ?_) (fun c74 => ?_)
            · replace hm := it_t c74 hm
              refine lv_iconst (v := 0) hx hb dX4_takesClause_85 (by decide) ?_
              cases hm
              exact k_zret hx hb hr hlocks (by decide) hP hS dX4_takesClause_86
            · replace hm := it_f c74 hm
              refine lv_aload_n hx hb dX4_takesClause_77 rfl (lv_at hl 3 rfl) ?_
              refine lv_iconst (v := 0) hx hb dX4_takesClause_78 (by decide) ?_
              obtain ⟨r79, dat_79, bsorts_79, bletters_79, bnumbers_79, bsize_79, hc79, hm⟩ := bd6_e hm
              refine k_callXGVi (dC := dC) (dI := dI) (kc := kc) (As := [.int 0]) (rest := []) (Gs' := [wdX4 kc d_o d_text dtext dlength dat_79 dlibrary, wdX3 kc b_o b_sorts b_letters b_numbers bsorts_79 bletters_79 bnumbers_79 bsize_79 bbear]) hx hb hml hown hts hK hP hD hS hA xR_ok hX (ctX4_takesAnyOf (F := fX4_takesPart fu 6) (n := 6) (fu := fu) (d_o := d_o) (d_text := d_text) (b_o := b_o) (b_sorts := b_sorts) (b_letters := b_letters) (b_numbers := b_numbers) (dtext := dtext) (dlength := dlength) (dat := dat_71) (dlibrary := dlibrary) (bsorts := bsorts) (bletters := bletters) (bnumbers := bnumbers) (bsize := bsize) (bbear := bbear) (x1 := 0) (adK := adK) (adV := adV) (sf := sf) hFX4_takesPart hc79 hkdlibrary) (cwV 1 hts gX4_takesClause_X4_takesAnyOf rfl rfl rfl (by decide +kernel) ⟨Nat.le_of_ble_eq_true rfl, Nat.le_of_ble_eq_true rfl⟩) [0, 1] rfl (by decide) (va_recv (q0 := 0) (ci := 4) hK hP rfl rfl) rfl hl rfl (Nat.le_of_ble_eq_true rfl) dX4_takesClause_79 ⟨Nat.zero_le _, Nat.zero_le _⟩ rfl rfl rfl (fun H locs hP hD hS => ?_)
              refine lv_if_ne (tgt := 87) hx hb dX4_takesClause_82 (by decide) (fun c82 => ?_) (fun c82 => ?_)
              · replace hm := it_f c82 hm
                refine lv_aload_n hx hb dX4_takesClause_87 rfl (lv_at hl 3 rfl) ?_
                refine va_get (D := (dC, dI)) (ci := 4) (v := .ref b_o) (C := RX4) (T := TX4) (N := 4) hx hb hts hinX4_takesClause_X4 hown hK hP 0 rfl rfl 3 (by decide) (hts _ (List.mem_of_getElem? (i := 1) rfl)) (fun _ h9 => h9) (by show some (va_rf dlibrary) = some (.ref b_o); rw [hkdlibrary]; rfl) dX4_takesClause_88 ?_
                refine lv_iload_n hx hb dX4_takesClause_91 rfl (lv_at hl 1 rfl) ?_
                refine lv_if_eq (tgt := 100) hx hb dX4_takesClause_92 (by decide) (fun c92 => ?_) (fun c92 => ?_)
                · replace hm := it_t c92 hm
                  refine lv_bipush (v := 6) hx hb dX4_takesClause_100 (by decide) ?_
                  refine lv_iconst (v := 0) hx hb dX4_takesClause_102 (by decide) ?_
                  refine lv_iload_n hx hb dX4_takesClause_103 rfl (lv_at hl 0 rfl) ?_
                  obtain ⟨bsorts_104, bletters_104, bnumbers_104, bsize_104, hc104, hm⟩ := bd4_e hm
                  refine k_callGVv (dC := dC) (dI := dI) (kc := kc) (As := [.int 6, .int 0, .int r44]) (rest := []) (Gs' := [wdX4 kc d_o d_text dtext dlength dat_79 dlibrary, wdX3 kc b_o b_sorts b_letters b_numbers bsorts_104 bletters_104 bnumbers_104 bsize_104 bbear]) hx hb hml hown hts hK hP hD hS hA (ctX3_put (b_o := b_o) (b_sorts := b_sorts) (b_letters := b_letters) (b_numbers := b_numbers) (bsorts := bsorts_79) (bletters := bletters_79) (bnumbers := bnumbers_79) (bsize := bsize_79) (bbear := bbear) (x1 := 6) (x2 := 0) (x3 := r44) hc104) (cwV 3 hts gX4_takesClause_X3_put rfl rfl rfl (by decide +kernel) ⟨Nat.le_of_ble_eq_true rfl, Nat.le_of_ble_eq_true rfl⟩) [1] rfl (by decide) 3 rfl rfl rfl rfl hl rfl (Nat.le_of_ble_eq_true rfl) dX4_takesClause_104 ⟨Nat.zero_le _, Nat.zero_le _⟩ rfl rfl rfl (fun H locs hP hD hS => ?_)
                  refine lv_iconst (v := 1) hx hb dX4_takesClause_107 (by decide) ?_
                  cases hm
                  exact k_zret hx hb hr hlocks (by decide) hP hS dX4_takesClause_108
                · replace hm := it_f c92 hm
                  refine lv_bipush (v := 7) hx hb dX4_takesClause_95 (by decide) ?_
                  refine lv_goto (tgt := 102) hx hb dX4_takesClause_97 (by decide) ?_
                  refine lv_iconst (v := 0) hx hb dX4_takesClause_102 (by decide) ?_
                  refine lv_iload_n hx hb dX4_takesClause_103 rfl (lv_at hl 0 rfl) ?_
                  obtain ⟨bsorts_104, bletters_104, bnumbers_104, bsize_104, hc104, hm⟩ := bd4_e hm
                  refine k_callGVv (dC := dC) (dI := dI) (kc := kc) (As := [.int 7, .int 0, .int r44]) (rest := []) (Gs' := [wdX4 kc d_o d_text dtext dlength dat_79 dlibrary, wdX3 kc b_o b_sorts b_letters b_numbers bsorts_104 bletters_104 bnumbers_104 bsize_104 bbear]) hx hb hml hown hts hK hP hD hS hA (ctX3_put (b_o := b_o) (b_sorts := b_sorts) (b_letters := b_letters) (b_numbers := b_numbers) (bsorts := bsorts_79) (bletters := bletters_79) (bnumbers := bnumbers_79) (bsize := bsize_79) (bbear := bbear) (x1 := 7) (x2 := 0) (x3 := r44) hc104) (cwV 3 hts gX4_takesClause_X3_put rfl rfl rfl (by decide +kernel) ⟨Nat.le_of_ble_eq_true rfl, Nat.le_of_ble_eq_true rfl⟩) [1] rfl (by decide) 3 rfl rfl rfl rfl hl rfl (Nat.le_of_ble_eq_true rfl) dX4_takesClause_104 ⟨Nat.zero_le _, Nat.zero_le _⟩ rfl rfl rfl (fun H locs hP hD hS => ?_)
                  refine lv_iconst (v := 1) hx hb dX4_takesClause_107 (by decide) ?_
                  cases hm
                  exact k_zret hx hb hr hlocks (by decide) hP hS dX4_takesClause_108
              · replace hm := it_t c82 hm
                refine lv_iconst (v := 0) hx hb dX4_takesClause_85 (by decide) ?_
                cases hm
                exact k_zret hx hb hr hlocks (by decide) hP hS dX4_takesClause_86
          · replace hm := it_f c55 hm
            refine lv_aload_n hx hb dX4_takesClause_58 rfl (lv_at hl 3 rfl) ?_
            refine va_get (D := (dC, dI)) (ci := 4) (v := .ref b_o) (C := RX4) (T := TX4) (N := 4) hx hb hts hinX4_takesClause_X4 hown hK hP 0 rfl rfl 3 (by decide) (hts _ (List.mem_of_getElem? (i := 1) rfl)) (fun _ h9 => h9) (by show some (va_rf dlibrary) = some (.ref b_o); rw [hkdlibrary]; rfl) dX4_takesClause_59 ?_
            refine lv_iload_n hx hb dX4_takesClause_62 rfl (lv_at hl 0 rfl) ?_
            refine va_put (D := (dC, dI)) (ci := 3) (v := .int r44) (ty := .int) (C := RX3) (T := TX3) (N := 5) hx hb hts hinX4_takesClause_X3 tyX3 tyX3_ok nmX3 hown hK hP hD hS 2 rfl rfl 4 (by decide) (hts _ (List.mem_of_getElem? (i := 2) rfl)) (fun _ h9 => h9) rfl (by decide +kernel) rfl rfl (Nat.le_of_ble_eq_true rfl) dX4_takesClause_63 (fun H locs hP hD hS => ?_)
            have hP : va_P (dC, dI) vwCl (fl [wdX4 kc d_o d_text dtext dlength dat_44 dlibrary, wdX3 kc b_o b_sorts b_letters b_numbers bsorts bletters bnumbers bsize r44]) H := hP
            have hD : va_D A (fl [wdX4 kc d_o d_text dtext dlength dat_44 dlibrary, wdX3 kc b_o b_sorts b_letters b_numbers bsorts bletters bnumbers bsize r44]) := hD
            refine lv_iconst (v := 1) hx hb dX4_takesClause_66 (by decide) ?_
            cases hm
            exact k_zret hx hb hr hlocks (by decide) hP hS dX4_takesClause_67
        · replace hm := it_f c49 hm
          refine lv_iconst (v := 0) hx hb dX4_takesClause_52 (by decide) ?_
          cases hm
          exact k_zret hx hb hr hlocks (by decide) hP hS dX4_takesClause_53
      · replace hm := it_t c38 hm
        refine lv_iconst (v := 0) hx hb dX4_takesClause_41 (by decide) ?_
        cases hm
        exact k_zret hx hb hr hlocks (by decide) hP hS dX4_takesClause_42
    · replace hm := it_f c25 hm
      refine va_ldcS (index := 69) (tx := "down ") (q := adK 2) hx hb hown (hX.2 2 (by decide)) dX4_takesClause_28 ?_
      refine lv_goto (tgt := 35) hx hb dX4_takesClause_30 (by decide) ?_
      obtain ⟨r35, dat_35, hc35, hm⟩ := bd2_e hm
      refine k_callXGVi (dC := dC) (dI := dI) (kc := kc) (As := [.ref (adK 2)]) (rest := []) (Gs' := [wdX4 kc d_o d_text dtext dlength dat_35 dlibrary, wdX3 kc b_o b_sorts b_letters b_numbers bsorts bletters bnumbers bsize bbear]) hx hb hml hown hts hK hP hD hS hA xW_ok (hX.1 2 (by decide)) (ctX4_takesWord (d_o := d_o) (d_text := d_text) (s_q := (adK 2)) (s_v := (adV 2)) (dtext := dtext) (dlength := dlength) (dat := dat) (dlibrary := dlibrary) (sL := 5) (sb := (tx 2)) (sf := sf) hc35) (cwV 1 hts gX4_takesClause_X4_takesWord rfl rfl rfl (by decide +kernel) ⟨Nat.le_of_ble_eq_true rfl, Nat.le_of_ble_eq_true rfl⟩) [0] rfl (by decide) (va_recv (q0 := 0) (ci := 4) hK hP rfl rfl) rfl hl rfl (Nat.le_of_ble_eq_true rfl) dX4_takesClause_35 ⟨Nat.zero_le _, Nat.zero_le _⟩ rfl rfl rfl (fun H locs hP hD hS => ?_)
      refine lv_if_ne (tgt := 43) hx hb dX4_takesClause_38 (by decide) (fun c38 => ?_) (fun c38 => ?_)
      · replace hm := it_f c38 hm
        refine lv_aload_n hx hb dX4_takesClause_43 rfl (lv_at hl 2 rfl) ?_
        obtain ⟨r44, dat_44, hc44, hm⟩ := bd2_e hm
        refine k_callGVi (dC := dC) (dI := dI) (kc := kc) (As := []) (rest := []) (Gs' := [wdX4 kc d_o d_text dtext dlength dat_44 dlibrary, wdX3 kc b_o b_sorts b_letters b_numbers bsorts bletters bnumbers bsize bbear]) hx hb hml hown hts hK hP hD hS hA (ctX4_takesNumber (d_o := d_o) (d_text := d_text) (dtext := dtext) (dlength := dlength) (dat := dat_35) (dlibrary := dlibrary) hc44) (cwV 0 hts gX4_takesClause_X4_takesNumber rfl rfl rfl (by decide +kernel) ⟨Nat.le_of_ble_eq_true rfl, Nat.le_of_ble_eq_true rfl⟩) [0] rfl (by decide) 4 rfl rfl rfl rfl hl rfl (Nat.le_of_ble_eq_true rfl) dX4_takesClause_44 ⟨Nat.zero_le _, Nat.zero_le _⟩ rfl rfl rfl (fun H locs hP hD hS => ?_)
        refine lv_istore_n (lv' := [(3, .int r44), (2, .int r10), (1, .int r3), (0, .ref d_o)]) hx hb dX4_takesClause_47 rfl hl (by decide) rfl (fun ls hl => ?_)
        refine lv_iload_n hx hb dX4_takesClause_48 rfl (lv_at hl 0 rfl) ?_
        refine lv_if_ge (tgt := 54) hx hb dX4_takesClause_49 (by decide) (fun c49 => ?_) (fun c49 => ?_)
        · replace hm := it_t c49 hm
          refine lv_iload_n hx hb dX4_takesClause_54 rfl (lv_at hl 2 rfl) ?_
          refine lv_if_eq (tgt := 68) hx hb dX4_takesClause_55 (by decide) (fun c55 => ?_) (fun c55 => ?_)
          · replace hm := it_t c55 hm
            refine lv_aload_n hx hb dX4_takesClause_68 rfl (lv_at hl 3 rfl) ?_
            refine va_ldcS (index := 79) (tx := " ") (q := adK 4) hx hb hown (hX.2 4 (by decide)) dX4_takesClause_69 ?_
            obtain ⟨r71, dat_71, hc71, hm⟩ := bd2_e hm
            refine k_callXGVi (dC := dC) (dI := dI) (kc := kc) (As := [.ref (adK 4)]) (rest := []) (Gs' := [wdX4 kc d_o d_text dtext dlength dat_71 dlibrary, wdX3 kc b_o b_sorts b_letters b_numbers bsorts bletters bnumbers bsize bbear]) hx hb hml hown hts hK hP hD hS hA xW_ok (hX.1 4 (by decide)) (ctX4_takesWord (d_o := d_o) (d_text := d_text) (s_q := (adK 4)) (s_v := (adV 4)) (dtext := dtext) (dlength := dlength) (dat := dat_44) (dlibrary := dlibrary) (sL := 1) (sb := (tx 4)) (sf := sf) hc71) (cwV 1 hts gX4_takesClause_X4_takesWord rfl rfl rfl (by decide +kernel) ⟨Nat.le_of_ble_eq_true rfl, Nat.le_of_ble_eq_true rfl⟩) [0] rfl (by decide) (va_recv (q0 := 0) (ci := 4) hK hP rfl rfl) rfl hl rfl (Nat.le_of_ble_eq_true rfl) dX4_takesClause_71 ⟨Nat.zero_le _, Nat.zero_le _⟩ rfl rfl rfl (fun H locs hP hD hS => ?_)
            refine lv_if_eq (tgt := 85) hx hb dX4_takesClause_74 (by decide) (fun c74 => ?_) (fun c74 => ?_)
            · replace hm := it_t c74 hm
              refine lv_iconst (v := 0) hx hb dX4_takesClause_85 (by decide) ?_
              cases hm
              exact k_zret hx hb hr hlocks (by decide) hP hS dX4_takesClause_86
            · replace hm := it_f c74 hm
              refine lv_aload_n hx hb dX4_takesClause_77 rfl (lv_at hl 3 rfl) ?_
              refine lv_iconst (v := 0) hx hb dX4_takesClause_78 (by decide) ?_
              obtain ⟨r79, dat_79, bsorts_79, bletters_79, bnumbers_79, bsize_79, hc79, hm⟩ := bd6_e hm
              refine k_callXGVi (dC := dC) (dI := dI) (kc := kc) (As := [.int 0]) (rest := []) (Gs' := [wdX4 kc d_o d_text dtext dlength dat_79 dlibrary, wdX3 kc b_o b_sorts b_letters b_numbers bsorts_79 bletters_79 bnumbers_79 bsize_79 bbear]) hx hb hml hown hts hK hP hD hS hA xR_ok hX (ctX4_takesAnyOf (F := fX4_takesPart fu 6) (n := 6) (fu := fu) (d_o := d_o) (d_text := d_text) (b_o := b_o) (b_sorts := b_sorts) (b_letters := b_letters) (b_numbers := b_numbers) (dtext := dtext) (dlength := dlength) (dat := dat_71) (dlibrary := dlibrary) (bsorts := bsorts) (bletters := bletters) (bnumbers := bnumbers) (bsize := bsize) (bbear := bbear) (x1 := 0) (adK := adK) (adV := adV) (sf := sf) hFX4_takesPart hc79 hkdlibrary) (cwV 1 hts gX4_takesClause_X4_takesAnyOf rfl rfl rfl (by decide +kernel) ⟨Nat.le_of_ble_eq_true rfl, Nat.le_of_ble_eq_true rfl⟩) [0, 1] rfl (by decide) (va_recv (q0 := 0) (ci := 4) hK hP rfl rfl) rfl hl rfl (Nat.le_of_ble_eq_true rfl) dX4_takesClause_79 ⟨Nat.zero_le _, Nat.zero_le _⟩ rfl rfl rfl (fun H locs hP hD hS => ?_)
              refine lv_if_ne (tgt := 87) hx hb dX4_takesClause_82 (by decide) (fun c82 => ?_) (fun c82 => ?_)
              · replace hm := it_f c82 hm
                refine lv_aload_n hx hb dX4_takesClause_87 rfl (lv_at hl 3 rfl) ?_
                refine va_get (D := (dC, dI)) (ci := 4) (v := .ref b_o) (C := RX4) (T := TX4) (N := 4) hx hb hts hinX4_takesClause_X4 hown hK hP 0 rfl rfl 3 (by decide) (hts _ (List.mem_of_getElem? (i := 1) rfl)) (fun _ h9 => h9) (by show some (va_rf dlibrary) = some (.ref b_o); rw [hkdlibrary]; rfl) dX4_takesClause_88 ?_
                refine lv_iload_n hx hb dX4_takesClause_91 rfl (lv_at hl 1 rfl) ?_
                refine lv_if_eq (tgt := 100) hx hb dX4_takesClause_92 (by decide) (fun c92 => ?_) (fun c92 => ?_)
                · replace hm := it_t c92 hm
                  refine lv_bipush (v := 6) hx hb dX4_takesClause_100 (by decide) ?_
                  refine lv_iconst (v := 0) hx hb dX4_takesClause_102 (by decide) ?_
                  refine lv_iload_n hx hb dX4_takesClause_103 rfl (lv_at hl 0 rfl) ?_
                  obtain ⟨bsorts_104, bletters_104, bnumbers_104, bsize_104, hc104, hm⟩ := bd4_e hm
                  refine k_callGVv (dC := dC) (dI := dI) (kc := kc) (As := [.int 6, .int 0, .int r44]) (rest := []) (Gs' := [wdX4 kc d_o d_text dtext dlength dat_79 dlibrary, wdX3 kc b_o b_sorts b_letters b_numbers bsorts_104 bletters_104 bnumbers_104 bsize_104 bbear]) hx hb hml hown hts hK hP hD hS hA (ctX3_put (b_o := b_o) (b_sorts := b_sorts) (b_letters := b_letters) (b_numbers := b_numbers) (bsorts := bsorts_79) (bletters := bletters_79) (bnumbers := bnumbers_79) (bsize := bsize_79) (bbear := bbear) (x1 := 6) (x2 := 0) (x3 := r44) hc104) (cwV 3 hts gX4_takesClause_X3_put rfl rfl rfl (by decide +kernel) ⟨Nat.le_of_ble_eq_true rfl, Nat.le_of_ble_eq_true rfl⟩) [1] rfl (by decide) 3 rfl rfl rfl rfl hl rfl (Nat.le_of_ble_eq_true rfl) dX4_takesClause_104 ⟨Nat.zero_le _, Nat.zero_le _⟩ rfl rfl rfl (fun H locs hP hD hS => ?_)
                  refine lv_iconst (v := 1) hx hb dX4_takesClause_107 (by decide) ?_
                  cases hm
                  exact k_zret hx hb hr hlocks (by decide) hP hS dX4_takesClause_108
                · replace hm := it_f c92 hm
                  refine lv_bipush (v := 7) hx hb dX4_takesClause_95 (by decide) ?_
                  refine lv_goto (tgt := 102) hx hb dX4_takesClause_97 (by decide) ?_
                  refine lv_iconst (v := 0) hx hb dX4_takesClause_102 (by decide) ?_
                  refine lv_iload_n hx hb dX4_takesClause_103 rfl (lv_at hl 0 rfl) ?_
                  obtain ⟨bsorts_104, bletters_104, bnumbers_104, bsize_104, hc104, hm⟩ := bd4_e hm
                  refine k_callGVv (dC := dC) (dI := dI) (kc := kc) (As := [.int 7, .int 0, .int r44]) (rest := []) (Gs' := [wdX4 kc d_o d_text dtext dlength dat_79 dlibrary, wdX3 kc b_o b_sorts b_letters b_numbers bsorts_104 bletters_104 bnumbers_104 bsize_104 bbear]) hx hb hml hown hts hK hP hD hS hA (ctX3_put (b_o := b_o) (b_sorts := b_sorts) (b_letters := b_letters) (b_numbers := b_numbers) (bsorts := bsorts_79) (bletters := bletters_79) (bnumbers := bnumbers_79) (bsize := bsize_79) (bbear := bbear) (x1 := 7) (x2 := 0) (x3 := r44) hc104) (cwV 3 hts gX4_takesClause_X3_put rfl rfl rfl (by decide +kernel) ⟨Nat.le_of_ble_eq_true rfl, Nat.le_of_ble_eq_true rfl⟩) [1] rfl (by decide) 3 rfl rfl rfl rfl hl rfl (Nat.le_of_ble_eq_true rfl) dX4_takesClause_104 ⟨Nat.zero_le _, Nat.zero_le _⟩ rfl rfl rfl (fun H locs hP hD hS => ?_)
                  refine lv_iconst (v := 1) hx hb dX4_takesClause_107 (by decide) ?_
                  cases hm
                  exact k_zret hx hb hr hlocks (by decide) hP hS dX4_takesClause_108
              · replace hm := it_t c82 hm
                refine lv_iconst (v := 0) hx hb dX4_takesClause_85 (by decide) ?_
                cases hm
                exact k_zret hx hb hr hlocks (by decide) hP hS dX4_takesClause_86
          · replace hm := it_f c55 hm
            refine lv_aload_n hx hb dX4_takesClause_58 rfl (lv_at hl 3 rfl) ?_
            refine va_get (D := (dC, dI)) (ci := 4) (v := .ref b_o) (C := RX4) (T := TX4) (N := 4) hx hb hts hinX4_takesClause_X4 hown hK hP 0 rfl rfl 3 (by decide) (hts _ (List.mem_of_getElem? (i := 1) rfl)) (fun _ h9 => h9) (by show some (va_rf dlibrary) = some (.ref b_o); rw [hkdlibrary]; rfl) dX4_takesClause_59 ?_
            refine lv_iload_n hx hb dX4_takesClause_62 rfl (lv_at hl 0 rfl) ?_
            refine va_put (D := (dC, dI)) (ci := 3) (v := .int r44) (ty := .int) (C := RX3) (T := TX3) (N := 5) hx hb hts hinX4_takesClause_X3 tyX3 tyX3_ok nmX3 hown hK hP hD hS 2 rfl rfl 4 (by decide) (hts _ (List.mem_of_getElem? (i := 2) rfl)) (fun _ h9 => h9) rfl (by decide +kernel) rfl rfl (Nat.le_of_ble_eq_true rfl) dX4_takesClause_63 (fun H locs hP hD hS => ?_)
            have hP : va_P (dC, dI) vwCl (fl [wdX4 kc d_o d_text dtext dlength dat_44 dlibrary, wdX3 kc b_o b_sorts b_letters b_numbers bsorts bletters bnumbers bsize r44]) H := hP
            have hD : va_D A (fl [wdX4 kc d_o d_text dtext dlength dat_44 dlibrary, wdX3 kc b_o b_sorts b_letters b_numbers bsorts bletters bnumbers bsize r44]) := hD
            refine lv_iconst (v := 1) hx hb dX4_takesClause_66 (by decide) ?_
            cases hm
            exact k_zret hx hb hr hlocks (by decide) hP hS dX4_takesClause_67
        · replace hm := it_f c49 hm
          refine lv_iconst (v := 0) hx hb dX4_takesClause_52 (by decide) ?_
          cases hm
          exact k_zret hx hb hr hlocks (by decide) hP hS dX4_takesClause_53
      · replace hm := it_t c38 hm
        refine lv_iconst (v := 0) hx hb dX4_takesClause_41 (by decide) ?_
        cases hm
        exact k_zret hx hb hr hlocks (by decide) hP hS dX4_takesClause_42
  · replace hm := it_f c16 hm
    refine va_ldcS (index := 67) (tx := "bear ") (q := adK 1) hx hb hown (hX.2 1 (by decide)) dX4_takesClause_19 ?_
    refine lv_goto (tgt := 35) hx hb dX4_takesClause_21 (by decide) ?_
    obtain ⟨r35, dat_35, hc35, hm⟩ := bd2_e hm
    refine k_callXGVi (dC := dC) (dI := dI) (kc := kc) (As := [.ref (adK 1)]) (rest := []) (Gs' := [wdX4 kc d_o d_text dtext dlength dat_35 dlibrary, wdX3 kc b_o b_sorts b_letters b_numbers bsorts bletters bnumbers bsize bbear]) hx hb hml hown hts hK hP hD hS hA xW_ok (hX.1 1 (by decide)) (ctX4_takesWord (d_o := d_o) (d_text := d_text) (s_q := (adK 1)) (s_v := (adV 1)) (dtext := dtext) (dlength := dlength) (dat := dat) (dlibrary := dlibrary) (sL := 5) (sb := (tx 1)) (sf := sf) hc35) (cwV 1 hts gX4_takesClause_X4_takesWord rfl rfl rfl (by decide +kernel) ⟨Nat.le_of_ble_eq_true rfl, Nat.le_of_ble_eq_true rfl⟩) [0] rfl (by decide) (va_recv (q0 := 0) (ci := 4) hK hP rfl rfl) rfl hl rfl (Nat.le_of_ble_eq_true rfl) dX4_takesClause_35 ⟨Nat.zero_le _, Nat.zero_le _⟩ rfl rfl rfl (fun H locs hP hD hS => ?_)
    refine lv_if_ne (tgt := 43) hx hb dX4_takesClause_38 (by decide) (fun c38 => ?_) (fun c38 => ?_)
    · replace hm := it_f c38 hm
      refine lv_aload_n hx hb dX4_takesClause_43 rfl (lv_at hl 2 rfl) ?_
      obtain ⟨r44, dat_44, hc44, hm⟩ := bd2_e hm
      refine k_callGVi (dC := dC) (dI := dI) (kc := kc) (As := []) (rest := []) (Gs' := [wdX4 kc d_o d_text dtext dlength dat_44 dlibrary, wdX3 kc b_o b_sorts b_letters b_numbers bsorts bletters bnumbers bsize bbear]) hx hb hml hown hts hK hP hD hS hA (ctX4_takesNumber (d_o := d_o) (d_text := d_text) (dtext := dtext) (dlength := dlength) (dat := dat_35) (dlibrary := dlibrary) hc44) (cwV 0 hts gX4_takesClause_X4_takesNumber rfl rfl rfl (by decide +kernel) ⟨Nat.le_of_ble_eq_true rfl, Nat.le_of_ble_eq_true rfl⟩) [0] rfl (by decide) 4 rfl rfl rfl rfl hl rfl (Nat.le_of_ble_eq_true rfl) dX4_takesClause_44 ⟨Nat.zero_le _, Nat.zero_le _⟩ rfl rfl rfl (fun H locs hP hD hS => ?_)
      refine lv_istore_n (lv' := [(3, .int r44), (2, .int r10), (1, .int r3), (0, .ref d_o)]) hx hb dX4_takesClause_47 rfl hl (by decide) rfl (fun ls hl => ?_)
      refine lv_iload_n hx hb dX4_takesClause_48 rfl (lv_at hl 0 rfl) ?_
      refine lv_if_ge (tgt := 54) hx hb dX4_takesClause_49 (by decide) (fun c49 => ?_) (fun c49 => ?_)
      · replace hm := it_t c49 hm
        refine lv_iload_n hx hb dX4_takesClause_54 rfl (lv_at hl 2 rfl) ?_
        refine lv_if_eq (tgt := 68) hx hb dX4_takesClause_55 (by decide) (fun c55 => ?_) (fun c55 => ?_)
        · replace hm := it_t c55 hm
          refine lv_aload_n hx hb dX4_takesClause_68 rfl (lv_at hl 3 rfl) ?_
          refine va_ldcS (index := 79) (tx := " ") (q := adK 4) hx hb hown (hX.2 4 (by decide)) dX4_takesClause_69 ?_
          obtain ⟨r71, dat_71, hc71, hm⟩ := bd2_e hm
          refine k_callXGVi (dC := dC) (dI := dI) (kc := kc) (As := [.ref (adK 4)]) (rest := []) (Gs' := [wdX4 kc d_o d_text dtext dlength dat_71 dlibrary, wdX3 kc b_o b_sorts b_letters b_numbers bsorts bletters bnumbers bsize bbear]) hx hb hml hown hts hK hP hD hS hA xW_ok (hX.1 4 (by decide)) (ctX4_takesWord (d_o := d_o) (d_text := d_text) (s_q := (adK 4)) (s_v := (adV 4)) (dtext := dtext) (dlength := dlength) (dat := dat_44) (dlibrary := dlibrary) (sL := 1) (sb := (tx 4)) (sf := sf) hc71) (cwV 1 hts gX4_takesClause_X4_takesWord rfl rfl rfl (by decide +kernel) ⟨Nat.le_of_ble_eq_true rfl, Nat.le_of_ble_eq_true rfl⟩) [0] rfl (by decide) (va_recv (q0 := 0) (ci := 4) hK hP rfl rfl) rfl hl rfl (Nat.le_of_ble_eq_true rfl) dX4_takesClause_71 ⟨Nat.zero_le _, Nat.zero_le _⟩ rfl rfl rfl (fun H locs hP hD hS => ?_)
          refine lv_if_eq (tgt := 85) hx hb dX4_takesClause_74 (by decide) (fun c74 => ?_) (fun c74 => ?_)
          · replace hm := it_t c74 hm
            refine lv_iconst (v := 0) hx hb dX4_takesClause_85 (by decide) ?_
            cases hm
            exact k_zret hx hb hr hlocks (by decide) hP hS dX4_takesClause_86
          · replace hm := it_f c74 hm
            refine lv_aload_n hx hb dX4_takesClause_77 rfl (lv_at hl 3 rfl) ?_
            refine lv_iconst (v := 0) hx hb dX4_takesClause_78 (by decide) ?_
            obtain ⟨r79, dat_79, bsorts_79, bletters_79, bnumbers_79, bsize_79, hc79, hm⟩ := bd6_e hm
            refine k_callXGVi (dC := dC) (dI := dI) (kc := kc) (As := [.int 0]) (rest := []) (Gs' := [wdX4 kc d_o d_text dtext dlength dat_79 dlibrary, wdX3 kc b_o b_sorts b_letters b_numbers bsorts_79 bletters_79 bnumbers_79 bsize_79 bbear]) hx hb hml hown hts hK hP hD hS hA xR_ok hX (ctX4_takesAnyOf (F := fX4_takesPart fu 6) (n := 6) (fu := fu) (d_o := d_o) (d_text := d_text) (b_o := b_o) (b_sorts := b_sorts) (b_letters := b_letters) (b_numbers := b_numbers) (dtext := dtext) (dlength := dlength) (dat := dat_71) (dlibrary := dlibrary) (bsorts := bsorts) (bletters := bletters) (bnumbers := bnumbers) (bsize := bsize) (bbear := bbear) (x1 := 0) (adK := adK) (adV := adV) (sf := sf) hFX4_takesPart hc79 hkdlibrary) (cwV 1 hts gX4_takesClause_X4_takesAnyOf rfl rfl rfl (by decide +kernel) ⟨Nat.le_of_ble_eq_true rfl, Nat.le_of_ble_eq_true rfl⟩) [0, 1] rfl (by decide) (va_recv (q0 := 0) (ci := 4) hK hP rfl rfl) rfl hl rfl (Nat.le_of_ble_eq_true rfl) dX4_takesClause_79 ⟨Nat.zero_le _, Nat.zero_le _⟩ rfl rfl rfl (fun H locs hP hD hS => ?_)
            refine lv_if_ne (tgt := 87) hx hb dX4_takesClause_82 (by decide) (fun c82 => ?_) (fun c82 => ?_)
            · replace hm := it_f c82 hm
              refine lv_aload_n hx hb dX4_takesClause_87 rfl (lv_at hl 3 rfl) ?_
              refine va_get (D := (dC, dI)) (ci := 4) (v := .ref b_o) (C := RX4) (T := TX4) (N := 4) hx hb hts hinX4_takesClause_X4 hown hK hP 0 rfl rfl 3 (by decide) (hts _ (List.mem_of_getElem? (i := 1) rfl)) (fun _ h9 => h9) (by show some (va_rf dlibrary) = some (.ref b_o); rw [hkdlibrary]; rfl) dX4_takesClause_88 ?_
              refine lv_iload_n hx hb dX4_takesClause_91 rfl (lv_at hl 1 rfl) ?_
              refine lv_if_eq (tgt := 100) hx hb dX4_takesClause_92 (by decide) (fun c92 => ?_) (fun c92 => ?_)
              · replace hm := it_t c92 hm
                refine lv_bipush (v := 6) hx hb dX4_takesClause_100 (by decide) ?_
                refine lv_iconst (v := 0) hx hb dX4_takesClause_102 (by decide) ?_
                refine lv_iload_n hx hb dX4_takesClause_103 rfl (lv_at hl 0 rfl) ?_
                obtain ⟨bsorts_104, bletters_104, bnumbers_104, bsize_104, hc104, hm⟩ := bd4_e hm
                refine k_callGVv (dC := dC) (dI := dI) (kc := kc) (As := [.int 6, .int 0, .int r44]) (rest := []) (Gs' := [wdX4 kc d_o d_text dtext dlength dat_79 dlibrary, wdX3 kc b_o b_sorts b_letters b_numbers bsorts_104 bletters_104 bnumbers_104 bsize_104 bbear]) hx hb hml hown hts hK hP hD hS hA (ctX3_put (b_o := b_o) (b_sorts := b_sorts) (b_letters := b_letters) (b_numbers := b_numbers) (bsorts := bsorts_79) (bletters := bletters_79) (bnumbers := bnumbers_79) (bsize := bsize_79) (bbear := bbear) (x1 := 6) (x2 := 0) (x3 := r44) hc104) (cwV 3 hts gX4_takesClause_X3_put rfl rfl rfl (by decide +kernel) ⟨Nat.le_of_ble_eq_true rfl, Nat.le_of_ble_eq_true rfl⟩) [1] rfl (by decide) 3 rfl rfl rfl rfl hl rfl (Nat.le_of_ble_eq_true rfl) dX4_takesClause_104 ⟨Nat.zero_le _, Nat.zero_le _⟩ rfl rfl rfl (fun H locs hP hD hS => ?_)
                refine lv_iconst (v := 1) hx hb dX4_takesClause_107 (by decide) ?_
                cases hm
                exact k_zret hx hb hr hlocks (by decide) hP hS dX4_takesClause_108
              · replace hm := it_f c92 hm
                refine lv_bipush (v := 7) hx hb dX4_takesClause_95 (by decide) ?_
                refine lv_goto (tgt := 102) hx hb dX4_takesClause_97 (by decide) ?_
                refine lv_iconst (v := 0) hx hb dX4_takesClause_102 (by decide) ?_
                refine lv_iload_n hx hb dX4_takesClause_103 rfl (lv_at hl 0 rfl) ?_
                obtain ⟨bsorts_104, bletters_104, bnumbers_104, bsize_104, hc104, hm⟩ := bd4_e hm
                refine k_callGVv (dC := dC) (dI := dI) (kc := kc) (As := [.int 7, .int 0, .int r44]) (rest := []) (Gs' := [wdX4 kc d_o d_text dtext dlength dat_79 dlibrary, wdX3 kc b_o b_sorts b_letters b_numbers bsorts_104 bletters_104 bnumbers_104 bsize_104 bbear]) hx hb hml hown hts hK hP hD hS hA (ctX3_put (b_o := b_o) (b_sorts := b_sorts) (b_letters := b_letters) (b_numbers := b_numbers) (bsorts := bsorts_79) (bletters := bletters_79) (bnumbers := bnumbers_79) (bsize := bsize_79) (bbear := bbear) (x1 := 7) (x2 := 0) (x3 := r44) hc104) (cwV 3 hts gX4_takesClause_X3_put rfl rfl rfl (by decide +kernel) ⟨Nat.le_of_ble_eq_true rfl, Nat.le_of_ble_eq_true rfl⟩) [1] rfl (by decide) 3 rfl rfl rfl rfl hl rfl (Nat.le_of_ble_eq_true rfl) dX4_takesClause_104 ⟨Nat.zero_le _, Nat.zero_le _⟩ rfl rfl rfl (fun H locs hP hD hS => ?_)
                refine lv_iconst (v := 1) hx hb dX4_takesClause_107 (by decide) ?_
                cases hm
                exact k_zret hx hb hr hlocks (by decide) hP hS dX4_takesClause_108
            · replace hm := it_t c82 hm
              refine lv_iconst (v := 0) hx hb dX4_takesClause_85 (by decide) ?_
              cases hm
              exact k_zret hx hb hr hlocks (by decide) hP hS dX4_takesClause_86
        · replace hm := it_f c55 hm
          refine lv_aload_n hx hb dX4_takesClause_58 rfl (lv_at hl 3 rfl) ?_
          refine va_get (D := (dC, dI)) (ci := 4) (v := .ref b_o) (C := RX4) (T := TX4) (N := 4) hx hb hts hinX4_takesClause_X4 hown hK hP 0 rfl rfl 3 (by decide) (hts _ (List.mem_of_getElem? (i := 1) rfl)) (fun _ h9 => h9) (by show some (va_rf dlibrary) = some (.ref b_o); rw [hkdlibrary]; rfl) dX4_takesClause_59 ?_
          refine lv_iload_n hx hb dX4_takesClause_62 rfl (lv_at hl 0 rfl) ?_
          refine va_put (D := (dC, dI)) (ci := 3) (v := .int r44) (ty := .int) (C := RX3) (T := TX3) (N := 5) hx hb hts hinX4_takesClause_X3 tyX3 tyX3_ok nmX3 hown hK hP hD hS 2 rfl rfl 4 (by decide) (hts _ (List.mem_of_getElem? (i := 2) rfl)) (fun _ h9 => h9) rfl (by decide +kernel) rfl rfl (Nat.le_of_ble_eq_true rfl) dX4_takesClause_63 (fun H locs hP hD hS => ?_)
          have hP : va_P (dC, dI) vwCl (fl [wdX4 kc d_o d_text dtext dlength dat_44 dlibrary, wdX3 kc b_o b_sorts b_letters b_numbers bsorts bletters bnumbers bsize r44]) H := hP
          have hD : va_D A (fl [wdX4 kc d_o d_text dtext dlength dat_44 dlibrary, wdX3 kc b_o b_sorts b_letters b_numbers bsorts bletters bnumbers bsize r44]) := hD
          refine lv_iconst (v := 1) hx hb dX4_takesClause_66 (by decide) ?_
          cases hm
          exact k_zret hx hb hr hlocks (by decide) hP hS dX4_takesClause_67
      · replace hm := it_f c49 hm
        refine lv_iconst (v := 0) hx hb dX4_takesClause_52 (by decide) ?_
        cases hm
        exact k_zret hx hb hr hlocks (by decide) hP hS dX4_takesClause_53
    · replace hm := it_t c38 hm
      refine lv_iconst (v := 0) hx hb dX4_takesClause_41 (by decide) ?_
      cases hm
      exact k_zret hx hb hr hlocks (by decide) hP hS dX4_takesClause_42
def LX4_readInto_19 (fu : Nat) (dtext : Nat → Int32) (dlength : Int32) : Nat → Int32 → Int32 → (Nat → Int32) → (Nat → Int32) → (Nat → Int32) → Int32 → Int32 → Option (Int32 × Int32 × Option Nat × (Nat → Int32) × (Nat → Int32) × (Nat → Int32) × Int32 × Int32)
  | 0, _, _, _, _, _, _, _ => none
  | n19 + 1, l2_19, dat_19, bsorts_19, bletters_19, bnumbers_19, bsize_19, bbear_19 => if 10 < l2_19 then (some (dat_19, dat_19, some b_o, bsorts_19, bletters_19, bnumbers_19, bsize_19, bbear_19)) else (bd7 (fX4_takesClause fu dtext dlength dat_19 (some b_o) bsorts_19 bletters_19 bnumbers_19 bsize_19 bbear_19) (fun r26 dat_26 bsorts_26 bletters_26 bnumbers_26 bsize_26 bbear_26 => if r26 = 0 then (some (dat_26, dat_26, some b_o, bsorts_26, bletters_26, bnumbers_26, bsize_26, bbear_26)) else (if dat_26 < dlength then (if l2_19 = 10 then (some (dat_26, dat_26, some b_o, bsorts_26, bletters_26, bnumbers_26, bsize_26, bbear_26)) else (bd2 (fX4_takesWord fu dtext dlength dat_26 1 (tx 0)) (fun r60 dat_60 => if r60 = 0 then (some (dat_60, dat_60, some b_o, bsorts_26, bletters_26, bnumbers_26, bsize_26, bbear_26)) else (LX4_readInto_19 fu dtext dlength n19 (l2_19 + 1) dat_60 bsorts_26 bletters_26 bnumbers_26 bsize_26 bbear_26)))) else (some (((-5) : Int32), dat_26, some b_o, bsorts_26, bletters_26, bnumbers_26, bsize_26, bbear_26)))))
def fX4_readInto (fu : Nat) (dtext : Nat → Int32) (dlength : Int32) (dat : Int32) (dlibrary : Option Nat) (bsorts : Nat → Int32) (bletters : Nat → Int32) (bnumbers : Nat → Int32) (bsize : Int32) (bbear : Int32) : Option (Int32 × Int32 × Option Nat × (Nat → Int32) × (Nat → Int32) × (Nat → Int32) × Int32 × Int32) := bd2 (fX3_empty bsize bbear) (fun bsize_9 bbear_9 => LX4_readInto_19 fu dtext dlength fu 1 0 bsorts bletters bnumbers bsize_9 bbear_9)
theorem hinX4_readInto_X4 : ∀ w ∈ u_ws RX4 TX4 4, w ∈ wsX4_readInto := fun _ h => List.mem_cons_of_mem _ (List.mem_append_left _ (List.mem_append_right _ h))
abbrev rmX4_readInto : Room := { frames := 255, cells := 0, slots := 0, locals := 6923 }
set_option maxHeartbeats 4000000 in
set_option maxRecDepth 100000 in
theorem ctX4_readInto {l : Launch} {dC : Nat → ClassId} {dI : Nat → Nat → Nat} {kc : Nat → ClassId} {d_o d_text b_o b_sorts b_letters b_numbers : Nat} {adK adV : Nat → Nat} {sf : Option Nat} {dtext : Nat → Int32} {dlength : Int32} {dat : Int32} {dlibrary : Option Nat} {bsorts : Nat → Int32} {bletters : Nat → Int32} {bnumbers : Nat → Int32} {bsize : Int32} {bbear : Int32} {fu : Nat} {r : Int32} {dat' : Int32} {dlibrary' : Option Nat} {bsorts' : Nat → Int32} {bletters' : Nat → Int32} {bnumbers' : Nat → Int32} {bsize' : Int32} {bbear' : Int32} (hm : fX4_readInto fu dtext dlength dat dlibrary bsorts bletters bnumbers bsize bbear = some (r, dat', dlibrary', bsorts', bletters', bnumbers', bsize', bbear')) : ∀ sz : Nat, Met l yX4_readInto wsX4_readInto rmX4_readInto (kPcX dC dI kc (xR adK adV sf) [.ref d_o, .ref b_o] (fl [wdX4 kc d_o d_text dtext dlength dat dlibrary, wdX3 kc b_o b_sorts b_letters b_numbers bsorts bletters bnumbers bsize bbear]) sz) (kQi dC dI r (fl [wdX4 kc d_o d_text dtext dlength dat' dlibrary', wdX3 kc b_o b_sorts b_letters b_numbers bsorts' bletters' bnumbers' bsize' bbear']) (va_A (fl [wdX4 kc d_o d_text dtext dlength dat dlibrary, wdX3 kc b_o b_sorts b_letters b_numbers bsorts bletters bnumbers bsize bbear]) sz)) 0 0 (va_A (fl [wdX4 kc d_o d_text dtext dlength dat dlibrary, wdX3 kc b_o b_sorts b_letters b_numbers bsorts bletters bnumbers bsize bbear]) sz) := by
  intro sz
  refine kMetX (cc := cX4_readInto) (maxL := 3) (ret := (some .int)) (Qf := fun A => kQi dC dI r (fl [wdX4 kc d_o d_text dtext dlength dat' dlibrary', wdX3 kc b_o b_sorts b_letters b_numbers bsorts' bletters' bnumbers' bsize' bbear']) A) (by decide) rfl (Nat.le_of_ble_eq_true rfl) ?_
  intro p e s m below meth c A ls hx hb hr hml hts hown hlocks hname hsz hA hP hK hD hX hl
  have hS : va_S A s.heap s.heap [] := va_S.rf
  have hl : lv_has ls 3 [(0, .ref d_o), (1, .ref b_o)] := hl
  unfold fX4_readInto at hm
  refine lv_aload_n hx hb dX4_readInto_0 rfl (lv_at hl 0 rfl) ?_
  refine lv_aload_n hx hb dX4_readInto_1 rfl (lv_at hl 1 rfl) ?_
  refine va_put (D := (dC, dI)) (ci := 4) (v := .ref b_o) (ty := (.object "AtlasEnds$Library")) (C := RX4) (T := TX4) (N := 4) hx hb hts hinX4_readInto_X4 tyX4 tyX4_ok nmX4 hown hK hP hD hS 0 rfl rfl 3 (by decide) (hts _ (List.mem_of_getElem? (i := 1) rfl)) (fun _ h9 => h9) rfl (by decide +kernel) rfl rfl (Nat.le_of_ble_eq_true rfl) dX4_readInto_2 (fun H locs hP hD hS => ?_)
  have hP : va_P (dC, dI) vwCl (fl [wdX4 kc d_o d_text dtext dlength dat (some b_o), wdX3 kc b_o b_sorts b_letters b_numbers bsorts bletters bnumbers bsize bbear]) H := hP
  have hD : va_D A (fl [wdX4 kc d_o d_text dtext dlength dat (some b_o), wdX3 kc b_o b_sorts b_letters b_numbers bsorts bletters bnumbers bsize bbear]) := hD
  refine lv_aload_n hx hb dX4_readInto_5 rfl (lv_at hl 0 rfl) ?_
  refine va_get (D := (dC, dI)) (ci := 4) (v := .ref b_o) (C := RX4) (T := TX4) (N := 4) hx hb hts hinX4_readInto_X4 hown hK hP 0 rfl rfl 3 (by decide) (hts _ (List.mem_of_getElem? (i := 1) rfl)) (fun _ h9 => h9) rfl dX4_readInto_6 ?_
  obtain ⟨bsize_9, bbear_9, hc9, hm⟩ := bd2_e hm
  refine k_callGVv (dC := dC) (dI := dI) (kc := kc) (As := []) (rest := []) (Gs' := [wdX4 kc d_o d_text dtext dlength dat (some b_o), wdX3 kc b_o b_sorts b_letters b_numbers bsorts bletters bnumbers bsize_9 bbear_9]) hx hb hml hown hts hK hP hD hS hA (ctX3_empty (b_o := b_o) (b_sorts := b_sorts) (b_letters := b_letters) (b_numbers := b_numbers) (bsorts := bsorts) (bletters := bletters) (bnumbers := bnumbers) (bsize := bsize) (bbear := bbear) hc9) (cwV 0 hts gX4_readInto_X3_empty rfl rfl rfl (by decide +kernel) ⟨Nat.le_of_ble_eq_true rfl, Nat.le_of_ble_eq_true rfl⟩) [1] rfl (by decide) 3 rfl rfl rfl rfl hl rfl (Nat.le_of_ble_eq_true rfl) dX4_readInto_9 ⟨Nat.zero_le _, Nat.zero_le _⟩ rfl rfl rfl (fun H locs hP hD hS => ?_)
  refine lv_aload_n hx hb dX4_readInto_12 rfl (lv_at hl 0 rfl) ?_
  refine lv_iconst (v := 0) hx hb dX4_readInto_13 (by decide) ?_
  refine va_put (D := (dC, dI)) (ci := 4) (v := .int 0) (ty := .int) (C := RX4) (T := TX4) (N := 4) hx hb hts hinX4_readInto_X4 tyX4 tyX4_ok nmX4 hown hK hP hD hS 0 rfl rfl 2 (by decide) (hts _ (List.mem_of_getElem? (i := 2) rfl)) (fun _ h9 => h9) rfl (by decide +kernel) rfl rfl (Nat.le_of_ble_eq_true rfl) dX4_readInto_14 (fun H locs hP hD hS => ?_)
  have hP : va_P (dC, dI) vwCl (fl [wdX4 kc d_o d_text dtext dlength 0 (some b_o), wdX3 kc b_o b_sorts b_letters b_numbers bsorts bletters bnumbers bsize_9 bbear_9]) H := hP
  have hD : va_D A (fl [wdX4 kc d_o d_text dtext dlength 0 (some b_o), wdX3 kc b_o b_sorts b_letters b_numbers bsorts bletters bnumbers bsize_9 bbear_9]) := hD
  refine lv_iconst (v := 1) hx hb dX4_readInto_17 (by decide) ?_
  refine lv_istore_n (lv' := [(2, .int 1), (0, .ref d_o), (1, .ref b_o)]) hx hb dX4_readInto_18 rfl hl (by decide) rfl (fun ls hl => ?_)
  have hL19 : ∀ (n : Nat) (l2_19 : Int32) (dat_19 : Int32) (bsorts_19 : Nat → Int32) (bletters_19 : Nat → Int32) (bnumbers_19 : Nat → Int32) (bsize_19 : Int32) (bbear_19 : Int32), LX4_readInto_19 fu dtext dlength n l2_19 dat_19 bsorts_19 bletters_19 bnumbers_19 bsize_19 bbear_19 = some (r, dat', dlibrary', bsorts', bletters', bnumbers', bsize', bbear') → ∀ (H : Heap) (locs : List Loc), va_P (dC, dI) vwCl (fl [wdX4 kc d_o d_text dtext dlength dat_19 (some b_o), wdX3 kc b_o b_sorts b_letters b_numbers bsorts_19 bletters_19 bnumbers_19 bsize_19 bbear_19]) H → va_D A (fl [wdX4 kc d_o d_text dtext dlength dat_19 (some b_o), wdX3 kc b_o b_sorts b_letters b_numbers bsorts_19 bletters_19 bnumbers_19 bsize_19 bbear_19]) → va_S A s.heap H locs → ∀ ls : Array Slot, lv_has ls 3 [(0, .ref d_o), (2, .int l2_19)] → W p l e (headSpec wsX4_readInto rmX4_readInto).room s m [.ref d_o, .ref b_o].toArray below meth c H locs 0 0 (MQ below (kQi dC dI r (fl [wdX4 kc d_o d_text dtext dlength dat' dlibrary', wdX3 kc b_o b_sorts b_letters b_numbers bsorts' bletters' bnumbers' bsize' bbear']) A) [.ref d_o, .ref b_o].toArray s 0 0 A) (F0 m 19 ls []) := by
    clear hm hP hD hS hl
    intro n19
    induction n19 with
    | zero => intro l2_19 dat_19 bsorts_19 bletters_19 bnumbers_19 bsize_19 bbear_19 hm; rw [LX4_readInto_19] at hm; cases hm
    | succ n19 ih19 =>
      intro l2_19 dat_19 bsorts_19 bletters_19 bnumbers_19 bsize_19 bbear_19 hm H locs hP hD hS ls hl
      rw [LX4_readInto_19] at hm
      refine lv_iload_n hx hb dX4_readInto_19 rfl (lv_at hl 1 rfl) ?_
      refine lv_bipush (v := 10) hx hb dX4_readInto_20 (by decide) ?_
      refine lv_icmp_gt (tgt := 77) hx hb dX4_readInto_22 (by decide) (fun c22 => ?_) (fun c22 => ?_)
      · replace hm := it_t c22 hm
        refine lv_aload_n hx hb dX4_readInto_77 rfl (lv_at hl 0 rfl) ?_
        refine va_get (D := (dC, dI)) (ci := 4) (v := .int dat_19) (C := RX4) (T := TX4) (N := 4) hx hb hts hinX4_readInto_X4 hown hK hP 0 rfl rfl 2 (by decide) (hts _ (List.mem_of_getElem? (i := 2) rfl)) (fun _ h9 => h9) rfl dX4_readInto_78 ?_
        cases hm
        exact k_iret hx hb hr hlocks hP hS dX4_readInto_81
      · replace hm := it_f c22 hm
        refine lv_aload_n hx hb dX4_readInto_25 rfl (lv_at hl 0 rfl) ?_
        obtain ⟨r26, dat_26, bsorts_26, bletters_26, bnumbers_26, bsize_26, bbear_26, hc26, hm⟩ := bd7_e hm
        refine k_callXGVi (dC := dC) (dI := dI) (kc := kc) (As := []) (rest := []) (Gs' := [wdX4 kc d_o d_text dtext dlength dat_26 (some b_o), wdX3 kc b_o b_sorts b_letters b_numbers bsorts_26 bletters_26 bnumbers_26 bsize_26 bbear_26]) hx hb hml hown hts hK hP hD hS hA xR_ok hX (ctX4_takesClause (d_o := d_o) (d_text := d_text) (b_o := b_o) (b_sorts := b_sorts) (b_letters := b_letters) (b_numbers := b_numbers) (dtext := dtext) (dlength := dlength) (dat := dat_19) (dlibrary := some b_o) (bsorts := bsorts_19) (bletters := bletters_19) (bnumbers := bnumbers_19) (bsize := bsize_19) (bbear := bbear_19) (adK := adK) (adV := adV) (sf := sf) hc26 rfl) (cwV 0 hts gX4_readInto_X4_takesClause rfl rfl rfl (by decide +kernel) ⟨Nat.le_of_ble_eq_true rfl, Nat.le_of_ble_eq_true rfl⟩) [0, 1] rfl (by decide) (va_recv (q0 := 0) (ci := 4) hK hP rfl rfl) rfl hl rfl (Nat.le_of_ble_eq_true rfl) dX4_readInto_26 ⟨Nat.zero_le _, Nat.zero_le _⟩ rfl rfl rfl (fun H locs hP hD hS => ?_)
        refine lv_if_ne (tgt := 37) hx hb dX4_readInto_29 (by decide) (fun c29 => ?_) (fun c29 => ?_)
        · replace hm := it_f c29 hm
          refine lv_aload_n hx hb dX4_readInto_37 rfl (lv_at hl 0 rfl) ?_
          refine va_get (D := (dC, dI)) (ci := 4) (v := .int dat_26) (C := RX4) (T := TX4) (N := 4) hx hb hts hinX4_readInto_X4 hown hK hP 0 rfl rfl 2 (by decide) (hts _ (List.mem_of_getElem? (i := 2) rfl)) (fun _ h9 => h9) rfl dX4_readInto_38 ?_
          refine lv_aload_n hx hb dX4_readInto_41 rfl (lv_at hl 0 rfl) ?_
          refine va_get (D := (dC, dI)) (ci := 4) (v := .int dlength) (C := RX4) (T := TX4) (N := 4) hx hb hts hinX4_readInto_X4 hown hK hP 0 rfl rfl 1 (by decide) (hts _ (List.mem_of_getElem? (i := 3) rfl)) (fun _ h9 => h9) rfl dX4_readInto_42 ?_
          refine lv_icmp_lt (tgt := 51) hx hb dX4_readInto_45 (by decide) (fun c45 => ?_) (fun c45 => ?_)
          · replace hm := it_t c45 hm
            refine lv_iload_n hx hb dX4_readInto_51 rfl (lv_at hl 1 rfl) ?_
            refine lv_bipush (v := 10) hx hb dX4_readInto_52 (by decide) ?_
            refine lv_icmp_eq (tgt := 66) hx hb dX4_readInto_54 (by decide) (fun c54 => ?_) (fun c54 => ?_)
            · replace hm := it_t c54 hm
              refine lv_aload_n hx hb dX4_readInto_66 rfl (lv_at hl 0 rfl) ?_
              refine va_get (D := (dC, dI)) (ci := 4) (v := .int dat_26) (C := RX4) (T := TX4) (N := 4) hx hb hts hinX4_readInto_X4 hown hK hP 0 rfl rfl 2 (by decide) (hts _ (List.mem_of_getElem? (i := 2) rfl)) (fun _ h9 => h9) rfl dX4_readInto_67 ?_
              cases hm
              exact k_iret hx hb hr hlocks hP hS dX4_readInto_70
            · replace hm := it_f c54 hm
              refine lv_aload_n hx hb dX4_readInto_57 rfl (lv_at hl 0 rfl) ?_
              refine va_ldcS (index := 35) (tx := ";") (q := adK 0) hx hb hown (hX.2 0 (by decide)) dX4_readInto_58 ?_
              obtain ⟨r60, dat_60, hc60, hm⟩ := bd2_e hm
              refine k_callXGVi (dC := dC) (dI := dI) (kc := kc) (As := [.ref (adK 0)]) (rest := []) (Gs' := [wdX4 kc d_o d_text dtext dlength dat_60 (some b_o), wdX3 kc b_o b_sorts b_letters b_numbers bsorts_26 bletters_26 bnumbers_26 bsize_26 bbear_26]) hx hb hml hown hts hK hP hD hS hA xW_ok (hX.1 0 (by decide)) (ctX4_takesWord (d_o := d_o) (d_text := d_text) (s_q := (adK 0)) (s_v := (adV 0)) (dtext := dtext) (dlength := dlength) (dat := dat_26) (dlibrary := some b_o) (sL := 1) (sb := (tx 0)) (sf := sf) hc60) (cwV 1 hts gX4_readInto_X4_takesWord rfl rfl rfl (by decide +kernel) ⟨Nat.le_of_ble_eq_true rfl, Nat.le_of_ble_eq_true rfl⟩) [0] rfl (by decide) (va_recv (q0 := 0) (ci := 4) hK hP rfl rfl) rfl hl rfl (Nat.le_of_ble_eq_true rfl) dX4_readInto_60 ⟨Nat.zero_le _, Nat.zero_le _⟩ rfl rfl rfl (fun H locs hP hD hS => ?_)
              refine lv_if_ne (tgt := 71) hx hb dX4_readInto_63 (by decide) (fun c63 => ?_) (fun c63 => ?_)
              · replace hm := it_f c63 hm
                refine lv_iinc (v := l2_19 + 1) (lv' := [(2, .int (l2_19 + 1)), (0, .ref d_o)]) hx hb dX4_readInto_71 hl (k := 1) rfl rfl (by decide) rfl (fun ls hl => ?_)
                refine lv_goto (tgt := 19) hx hb dX4_readInto_74 (by decide) ?_
                exact ih19 (l2_19 + 1) dat_60 bsorts_26 bletters_26 bnumbers_26 bsize_26 bbear_26 hm _ _ hP hD hS _ (lv_sub hl [1, 0] rfl)
              · replace hm := it_t c63 hm
                refine lv_aload_n hx hb dX4_readInto_66 rfl (lv_at hl 0 rfl) ?_
                refine va_get (D := (dC, dI)) (ci := 4) (v := .int dat_60) (C := RX4) (T := TX4) (N := 4) hx hb hts hinX4_readInto_X4 hown hK hP 0 rfl rfl 2 (by decide) (hts _ (List.mem_of_getElem? (i := 2) rfl)) (fun _ h9 => h9) rfl dX4_readInto_67 ?_
                cases hm
                exact k_iret hx hb hr hlocks hP hS dX4_readInto_70
          · replace hm := it_f c45 hm
            refine lv_bipush (v := (-5)) hx hb dX4_readInto_48 (by decide) ?_
            cases hm
            exact k_iret hx hb hr hlocks hP hS dX4_readInto_50
        · replace hm := it_t c29 hm
          refine lv_aload_n hx hb dX4_readInto_32 rfl (lv_at hl 0 rfl) ?_
          refine va_get (D := (dC, dI)) (ci := 4) (v := .int dat_26) (C := RX4) (T := TX4) (N := 4) hx hb hts hinX4_readInto_X4 hown hK hP 0 rfl rfl 2 (by decide) (hts _ (List.mem_of_getElem? (i := 2) rfl)) (fun _ h9 => h9) rfl dX4_readInto_33 ?_
          cases hm
          exact k_iret hx hb hr hlocks hP hS dX4_readInto_36
  exact hL19 _ _ _ _ _ _ _ _ hm _ _ hP hD hS _ (lv_sub hl [1, 0] rfl)
