abbrev wdX5 (kc : Nat → ClassId) (a_o a_seenLeaf a_seenStep a_seenTaut a_planWhat a_planOf a_bookPerson a_bookPlace : Nat) (c_seenCount : Int32) (c_seenLeaf : Nat → Int32) (c_seenStep : Nat → Int32) (c_seenTaut : Nat → Int32) (c_planCount : Int32) (c_planWhat : Nat → Int32) (c_planOf : Nat → Int32) (c_bookCount : Int32) (c_bookPerson : Nat → Int32) (c_bookPlace : Nat → Int32) : va_W := [(a_o, .inr (5, [.int c_seenCount, .ref a_seenLeaf, .ref a_seenStep, .ref a_seenTaut, .int c_planCount, .ref a_planWhat, .ref a_planOf, .int c_bookCount, .ref a_bookPerson, .ref a_bookPlace])), (a_seenLeaf, .inl (kc 1, 5, .inl c_seenLeaf)), (a_seenStep, .inl (kc 1, 5, .inl c_seenStep)), (a_seenTaut, .inl (kc 3, 5, .inl c_seenTaut)), (a_planWhat, .inl (kc 1, 10, .inl c_planWhat)), (a_planOf, .inl (kc 1, 10, .inl c_planOf)), (a_bookPerson, .inl (kc 1, 8, .inl c_bookPerson)), (a_bookPlace, .inl (kc 1, 8, .inl c_bookPlace))]
def fX5_become (nseenCount : Int32) (nseenLeaf : Nat → Int32) (nseenStep : Nat → Int32) (nseenTaut : Nat → Int32) (nplanCount : Int32) (nplanWhat : Nat → Int32) (nplanOf : Nat → Int32) (nbookCount : Int32) (nbookPerson : Nat → Int32) (nbookPlace : Nat → Int32) (jseenCount : Int32) (jseenLeaf : Nat → Int32) (jseenStep : Nat → Int32) (jseenTaut : Nat → Int32) (jplanCount : Int32) (jplanWhat : Nat → Int32) (jplanOf : Nat → Int32) (jbookCount : Int32) (jbookPerson : Nat → Int32) (jbookPlace : Nat → Int32) : Option (Int32 × (Nat → Int32) × (Nat → Int32) × (Nat → Int32) × Int32 × (Nat → Int32) × (Nat → Int32) × Int32 × (Nat → Int32) × (Nat → Int32)) := gd ((jseenTaut 0 = 0 ∨ jseenTaut 0 = 1) ∧ (jseenTaut 1 = 0 ∨ jseenTaut 1 = 1) ∧ (jseenTaut 2 = 0 ∨ jseenTaut 2 = 1) ∧ (jseenTaut 3 = 0 ∨ jseenTaut 3 = 1) ∧ (jseenTaut 4 = 0 ∨ jseenTaut 4 = 1)) (some (jseenCount, va_cpy jseenLeaf nseenLeaf 0 0 5, va_cpy jseenStep nseenStep 0 0 5, va_cpy jseenTaut nseenTaut 0 0 5, jplanCount, va_cpy jplanWhat nplanWhat 0 0 10, va_cpy jplanOf nplanOf 0 0 10, jbookCount, va_cpy jbookPerson nbookPerson 0 0 8, va_cpy jbookPlace nbookPlace 0 0 8))
theorem hinX5_become_X5 : ∀ w ∈ u_ws RX5 TX5 10, w ∈ wsX5_become := fun _ h => List.mem_cons_of_mem _ (List.mem_append_right _ h)
abbrev rmX5_become : Room := { frames := 1, cells := 0, slots := 0, locals := 30 }
set_option maxHeartbeats 4000000 in
set_option maxRecDepth 100000 in
theorem ctX5_become {l : Launch} {dC : Nat → ClassId} {dI : Nat → Nat → Nat} {kc : Nat → ClassId} {n_o n_seenLeaf n_seenStep n_seenTaut n_planWhat n_planOf n_bookPerson n_bookPlace j_o j_seenLeaf j_seenStep j_seenTaut j_planWhat j_planOf j_bookPerson j_bookPlace : Nat} {nseenCount : Int32} {nseenLeaf : Nat → Int32} {nseenStep : Nat → Int32} {nseenTaut : Nat → Int32} {nplanCount : Int32} {nplanWhat : Nat → Int32} {nplanOf : Nat → Int32} {nbookCount : Int32} {nbookPerson : Nat → Int32} {nbookPlace : Nat → Int32} {jseenCount : Int32} {jseenLeaf : Nat → Int32} {jseenStep : Nat → Int32} {jseenTaut : Nat → Int32} {jplanCount : Int32} {jplanWhat : Nat → Int32} {jplanOf : Nat → Int32} {jbookCount : Int32} {jbookPerson : Nat → Int32} {jbookPlace : Nat → Int32} {nseenCount' : Int32} {nseenLeaf' : Nat → Int32} {nseenStep' : Nat → Int32} {nseenTaut' : Nat → Int32} {nplanCount' : Int32} {nplanWhat' : Nat → Int32} {nplanOf' : Nat → Int32} {nbookCount' : Int32} {nbookPerson' : Nat → Int32} {nbookPlace' : Nat → Int32} (hm : fX5_become nseenCount nseenLeaf nseenStep nseenTaut nplanCount nplanWhat nplanOf nbookCount nbookPerson nbookPlace jseenCount jseenLeaf jseenStep jseenTaut jplanCount jplanWhat jplanOf jbookCount jbookPerson jbookPlace = some (nseenCount', nseenLeaf', nseenStep', nseenTaut', nplanCount', nplanWhat', nplanOf', nbookCount', nbookPerson', nbookPlace')) : ∀ sz : Nat, Met l yX5_become wsX5_become rmX5_become (kPc dC dI kc [.ref n_o, .ref j_o] (fl [wdX5 kc n_o n_seenLeaf n_seenStep n_seenTaut n_planWhat n_planOf n_bookPerson n_bookPlace nseenCount nseenLeaf nseenStep nseenTaut nplanCount nplanWhat nplanOf nbookCount nbookPerson nbookPlace, wdX5 kc j_o j_seenLeaf j_seenStep j_seenTaut j_planWhat j_planOf j_bookPerson j_bookPlace jseenCount jseenLeaf jseenStep jseenTaut jplanCount jplanWhat jplanOf jbookCount jbookPerson jbookPlace]) sz) (kQv dC dI (fl [wdX5 kc n_o n_seenLeaf n_seenStep n_seenTaut n_planWhat n_planOf n_bookPerson n_bookPlace nseenCount' nseenLeaf' nseenStep' nseenTaut' nplanCount' nplanWhat' nplanOf' nbookCount' nbookPerson' nbookPlace', wdX5 kc j_o j_seenLeaf j_seenStep j_seenTaut j_planWhat j_planOf j_bookPerson j_bookPlace jseenCount jseenLeaf jseenStep jseenTaut jplanCount jplanWhat jplanOf jbookCount jbookPerson jbookPlace]) (va_A (fl [wdX5 kc n_o n_seenLeaf n_seenStep n_seenTaut n_planWhat n_planOf n_bookPerson n_bookPlace nseenCount nseenLeaf nseenStep nseenTaut nplanCount nplanWhat nplanOf nbookCount nbookPerson nbookPlace, wdX5 kc j_o j_seenLeaf j_seenStep j_seenTaut j_planWhat j_planOf j_bookPerson j_bookPlace jseenCount jseenLeaf jseenStep jseenTaut jplanCount jplanWhat jplanOf jbookCount jbookPerson jbookPlace]) sz)) 0 0 (va_A (fl [wdX5 kc n_o n_seenLeaf n_seenStep n_seenTaut n_planWhat n_planOf n_bookPerson n_bookPlace nseenCount nseenLeaf nseenStep nseenTaut nplanCount nplanWhat nplanOf nbookCount nbookPerson nbookPlace, wdX5 kc j_o j_seenLeaf j_seenStep j_seenTaut j_planWhat j_planOf j_bookPerson j_bookPlace jseenCount jseenLeaf jseenStep jseenTaut jplanCount jplanWhat jplanOf jbookCount jbookPerson jbookPlace]) sz) := by
  intro sz
  refine kMet (cc := cX5_become) (maxL := 2) (ret := none) (Qf := fun A => kQv dC dI (fl [wdX5 kc n_o n_seenLeaf n_seenStep n_seenTaut n_planWhat n_planOf n_bookPerson n_bookPlace nseenCount' nseenLeaf' nseenStep' nseenTaut' nplanCount' nplanWhat' nplanOf' nbookCount' nbookPerson' nbookPlace', wdX5 kc j_o j_seenLeaf j_seenStep j_seenTaut j_planWhat j_planOf j_bookPerson j_bookPlace jseenCount jseenLeaf jseenStep jseenTaut jplanCount jplanWhat jplanOf jbookCount jbookPerson jbookPlace]) A) (by decide) rfl (Nat.le_of_ble_eq_true rfl) ?_
  intro p e s m below meth c A ls hx hb hr hml hts hown hlocks hname hsz hA hP hK hD hl
  have hS : va_S A s.heap s.heap [] := va_S.rf
  have hl : lv_has ls 2 [(0, .ref n_o), (1, .ref j_o)] := hl
  unfold fX5_become at hm
  refine lv_aload_n hx hb dX5_become_0 rfl (lv_at hl 0 rfl) ?_
  refine lv_aload_n hx hb dX5_become_1 rfl (lv_at hl 1 rfl) ?_
  refine va_get (D := (dC, dI)) (ci := 5) (v := .int jseenCount) (C := RX5) (T := TX5) (N := 10) hx hb hts hinX5_become_X5 hown hK hP 8 rfl rfl 0 (by decide) (hts _ (List.mem_of_getElem? (i := 1) rfl)) (fun _ h9 => h9) rfl dX5_become_2 ?_
  refine va_put (D := (dC, dI)) (ci := 5) (v := .int jseenCount) (ty := .int) (C := RX5) (T := TX5) (N := 10) hx hb hts hinX5_become_X5 tyX5 tyX5_ok nmX5 hown hK hP hD hS 0 rfl rfl 0 (by decide) (hts _ (List.mem_of_getElem? (i := 1) rfl)) (fun _ h9 => h9) rfl (by decide +kernel) rfl rfl (Nat.le_of_ble_eq_true rfl) dX5_become_5 (fun H locs hP hD hS => ?_)
  have hP : va_P (dC, dI) vwCl (fl [wdX5 kc n_o n_seenLeaf n_seenStep n_seenTaut n_planWhat n_planOf n_bookPerson n_bookPlace jseenCount nseenLeaf nseenStep nseenTaut nplanCount nplanWhat nplanOf nbookCount nbookPerson nbookPlace, wdX5 kc j_o j_seenLeaf j_seenStep j_seenTaut j_planWhat j_planOf j_bookPerson j_bookPlace jseenCount jseenLeaf jseenStep jseenTaut jplanCount jplanWhat jplanOf jbookCount jbookPerson jbookPlace]) H := hP
  have hD : va_D A (fl [wdX5 kc n_o n_seenLeaf n_seenStep n_seenTaut n_planWhat n_planOf n_bookPerson n_bookPlace jseenCount nseenLeaf nseenStep nseenTaut nplanCount nplanWhat nplanOf nbookCount nbookPerson nbookPlace, wdX5 kc j_o j_seenLeaf j_seenStep j_seenTaut j_planWhat j_planOf j_bookPerson j_bookPlace jseenCount jseenLeaf jseenStep jseenTaut jplanCount jplanWhat jplanOf jbookCount jbookPerson jbookPlace]) := hD
  refine lv_aload_n hx hb dX5_become_8 rfl (lv_at hl 1 rfl) ?_
  refine va_get (D := (dC, dI)) (ci := 5) (v := .ref j_seenLeaf) (C := RX5) (T := TX5) (N := 10) hx hb hts hinX5_become_X5 hown hK hP 8 rfl rfl 1 (by decide) (hts _ (List.mem_of_getElem? (i := 2) rfl)) (fun _ h9 => h9) rfl dX5_become_9 ?_
  refine lv_iconst (v := 0) hx hb dX5_become_12 (by decide) ?_
  refine lv_aload_n hx hb dX5_become_13 rfl (lv_at hl 0 rfl) ?_
  refine va_get (D := (dC, dI)) (ci := 5) (v := .ref n_seenLeaf) (C := RX5) (T := TX5) (N := 10) hx hb hts hinX5_become_X5 hown hK hP 0 rfl rfl 1 (by decide) (hts _ (List.mem_of_getElem? (i := 2) rfl)) (fun _ h9 => h9) rfl dX5_become_14 ?_
  refine lv_iconst (v := 0) hx hb dX5_become_17 (by decide) ?_
  refine lv_iconst (v := 5) hx hb dX5_become_18 (by decide) ?_
  refine va_copyi (D := (dC, dI)) (ty := .int) hx hb (hml.trans hl.1.symm) hown (hts _ (List.mem_of_getElem? (i := 3) rfl)) (hts _ (List.mem_of_getElem? (i := 4) rfl)) (hts _ (List.mem_of_getElem? (i := 5) rfl)) (hts _ (List.mem_of_getElem? (i := 6) rfl)) hK hP hD hS 9 1 1 1 rfl rfl rfl rfl rfl (by decide) (by decide) (by decide) (by decide) (by decide) (fun _ _ => rfl) (Nat.le_of_ble_eq_true rfl) (Nat.le_of_ble_eq_true rfl) dX5_become_19 (fun H locs hP hD hS => ?_)
  have hP : va_P (dC, dI) vwCl (fl [wdX5 kc n_o n_seenLeaf n_seenStep n_seenTaut n_planWhat n_planOf n_bookPerson n_bookPlace jseenCount (va_cpy jseenLeaf nseenLeaf 0 0 5) nseenStep nseenTaut nplanCount nplanWhat nplanOf nbookCount nbookPerson nbookPlace, wdX5 kc j_o j_seenLeaf j_seenStep j_seenTaut j_planWhat j_planOf j_bookPerson j_bookPlace jseenCount jseenLeaf jseenStep jseenTaut jplanCount jplanWhat jplanOf jbookCount jbookPerson jbookPlace]) H := hP
  have hD : va_D A (fl [wdX5 kc n_o n_seenLeaf n_seenStep n_seenTaut n_planWhat n_planOf n_bookPerson n_bookPlace jseenCount (va_cpy jseenLeaf nseenLeaf 0 0 5) nseenStep nseenTaut nplanCount nplanWhat nplanOf nbookCount nbookPerson nbookPlace, wdX5 kc j_o j_seenLeaf j_seenStep j_seenTaut j_planWhat j_planOf j_bookPerson j_bookPlace jseenCount jseenLeaf jseenStep jseenTaut jplanCount jplanWhat jplanOf jbookCount jbookPerson jbookPlace]) := hD
  refine lv_aload_n hx hb dX5_become_22 rfl (lv_at hl 1 rfl) ?_
  refine va_get (D := (dC, dI)) (ci := 5) (v := .ref j_seenStep) (C := RX5) (T := TX5) (N := 10) hx hb hts hinX5_become_X5 hown hK hP 8 rfl rfl 2 (by decide) (hts _ (List.mem_of_getElem? (i := 7) rfl)) (fun _ h9 => h9) rfl dX5_become_23 ?_
  refine lv_iconst (v := 0) hx hb dX5_become_26 (by decide) ?_
  refine lv_aload_n hx hb dX5_become_27 rfl (lv_at hl 0 rfl) ?_
  refine va_get (D := (dC, dI)) (ci := 5) (v := .ref n_seenStep) (C := RX5) (T := TX5) (N := 10) hx hb hts hinX5_become_X5 hown hK hP 0 rfl rfl 2 (by decide) (hts _ (List.mem_of_getElem? (i := 7) rfl)) (fun _ h9 => h9) rfl dX5_become_28 ?_
  refine lv_iconst (v := 0) hx hb dX5_become_31 (by decide) ?_
  refine lv_iconst (v := 5) hx hb dX5_become_32 (by decide) ?_
  refine va_copyi (D := (dC, dI)) (ty := .int) hx hb (hml.trans hl.1.symm) hown (hts _ (List.mem_of_getElem? (i := 3) rfl)) (hts _ (List.mem_of_getElem? (i := 4) rfl)) (hts _ (List.mem_of_getElem? (i := 5) rfl)) (hts _ (List.mem_of_getElem? (i := 6) rfl)) hK hP hD hS 10 2 1 1 rfl rfl rfl rfl rfl (by decide) (by decide) (by decide) (by decide) (by decide) (fun _ _ => rfl) (Nat.le_of_ble_eq_true rfl) (Nat.le_of_ble_eq_true rfl) dX5_become_33 (fun H locs hP hD hS => ?_)
  have hP : va_P (dC, dI) vwCl (fl [wdX5 kc n_o n_seenLeaf n_seenStep n_seenTaut n_planWhat n_planOf n_bookPerson n_bookPlace jseenCount (va_cpy jseenLeaf nseenLeaf 0 0 5) (va_cpy jseenStep nseenStep 0 0 5) nseenTaut nplanCount nplanWhat nplanOf nbookCount nbookPerson nbookPlace, wdX5 kc j_o j_seenLeaf j_seenStep j_seenTaut j_planWhat j_planOf j_bookPerson j_bookPlace jseenCount jseenLeaf jseenStep jseenTaut jplanCount jplanWhat jplanOf jbookCount jbookPerson jbookPlace]) H := hP
  have hD : va_D A (fl [wdX5 kc n_o n_seenLeaf n_seenStep n_seenTaut n_planWhat n_planOf n_bookPerson n_bookPlace jseenCount (va_cpy jseenLeaf nseenLeaf 0 0 5) (va_cpy jseenStep nseenStep 0 0 5) nseenTaut nplanCount nplanWhat nplanOf nbookCount nbookPerson nbookPlace, wdX5 kc j_o j_seenLeaf j_seenStep j_seenTaut j_planWhat j_planOf j_bookPerson j_bookPlace jseenCount jseenLeaf jseenStep jseenTaut jplanCount jplanWhat jplanOf jbookCount jbookPerson jbookPlace]) := hD
  refine lv_aload_n hx hb dX5_become_36 rfl (lv_at hl 1 rfl) ?_
  refine va_get (D := (dC, dI)) (ci := 5) (v := .ref j_seenTaut) (C := RX5) (T := TX5) (N := 10) hx hb hts hinX5_become_X5 hown hK hP 8 rfl rfl 3 (by decide) (hts _ (List.mem_of_getElem? (i := 8) rfl)) (fun _ h9 => h9) rfl dX5_become_37 ?_
  refine lv_iconst (v := 0) hx hb dX5_become_40 (by decide) ?_
  refine lv_aload_n hx hb dX5_become_41 rfl (lv_at hl 0 rfl) ?_
  refine va_get (D := (dC, dI)) (ci := 5) (v := .ref n_seenTaut) (C := RX5) (T := TX5) (N := 10) hx hb hts hinX5_become_X5 hown hK hP 0 rfl rfl 3 (by decide) (hts _ (List.mem_of_getElem? (i := 8) rfl)) (fun _ h9 => h9) rfl dX5_become_42 ?_
  refine lv_iconst (v := 0) hx hb dX5_become_45 (by decide) ?_
  refine lv_iconst (v := 5) hx hb dX5_become_46 (by decide) ?_
  obtain ⟨hgz47, hm⟩ := gd_e hm
  refine va_copyi (D := (dC, dI)) (ty := .boolean) hx hb (hml.trans hl.1.symm) hown (hts _ (List.mem_of_getElem? (i := 3) rfl)) (hts _ (List.mem_of_getElem? (i := 4) rfl)) (hts _ (List.mem_of_getElem? (i := 5) rfl)) (hts _ (List.mem_of_getElem? (i := 6) rfl)) hK hP hD hS 11 3 3 3 rfl rfl rfl rfl rfl (by decide) (by decide) (by decide) (by decide) (by decide) (k_fit5 hgz47) (Nat.le_of_ble_eq_true rfl) (Nat.le_of_ble_eq_true rfl) dX5_become_47 (fun H locs hP hD hS => ?_)
  have hP : va_P (dC, dI) vwCl (fl [wdX5 kc n_o n_seenLeaf n_seenStep n_seenTaut n_planWhat n_planOf n_bookPerson n_bookPlace jseenCount (va_cpy jseenLeaf nseenLeaf 0 0 5) (va_cpy jseenStep nseenStep 0 0 5) (va_cpy jseenTaut nseenTaut 0 0 5) nplanCount nplanWhat nplanOf nbookCount nbookPerson nbookPlace, wdX5 kc j_o j_seenLeaf j_seenStep j_seenTaut j_planWhat j_planOf j_bookPerson j_bookPlace jseenCount jseenLeaf jseenStep jseenTaut jplanCount jplanWhat jplanOf jbookCount jbookPerson jbookPlace]) H := hP
  have hD : va_D A (fl [wdX5 kc n_o n_seenLeaf n_seenStep n_seenTaut n_planWhat n_planOf n_bookPerson n_bookPlace jseenCount (va_cpy jseenLeaf nseenLeaf 0 0 5) (va_cpy jseenStep nseenStep 0 0 5) (va_cpy jseenTaut nseenTaut 0 0 5) nplanCount nplanWhat nplanOf nbookCount nbookPerson nbookPlace, wdX5 kc j_o j_seenLeaf j_seenStep j_seenTaut j_planWhat j_planOf j_bookPerson j_bookPlace jseenCount jseenLeaf jseenStep jseenTaut jplanCount jplanWhat jplanOf jbookCount jbookPerson jbookPlace]) := hD
  refine lv_aload_n hx hb dX5_become_50 rfl (lv_at hl 0 rfl) ?_
  refine lv_aload_n hx hb dX5_become_51 rfl (lv_at hl 1 rfl) ?_
  refine va_get (D := (dC, dI)) (ci := 5) (v := .int jplanCount) (C := RX5) (T := TX5) (N := 10) hx hb hts hinX5_become_X5 hown hK hP 8 rfl rfl 4 (by decide) (hts _ (List.mem_of_getElem? (i := 9) rfl)) (fun _ h9 => h9) rfl dX5_become_52 ?_
  refine va_put (D := (dC, dI)) (ci := 5) (v := .int jplanCount) (ty := .int) (C := RX5) (T := TX5) (N := 10) hx hb hts hinX5_become_X5 tyX5 tyX5_ok nmX5 hown hK hP hD hS 0 rfl rfl 4 (by decide) (hts _ (List.mem_of_getElem? (i := 9) rfl)) (fun _ h9 => h9) rfl (by decide +kernel) rfl rfl (Nat.le_of_ble_eq_true rfl) dX5_become_55 (fun H locs hP hD hS => ?_)
  have hP : va_P (dC, dI) vwCl (fl [wdX5 kc n_o n_seenLeaf n_seenStep n_seenTaut n_planWhat n_planOf n_bookPerson n_bookPlace jseenCount (va_cpy jseenLeaf nseenLeaf 0 0 5) (va_cpy jseenStep nseenStep 0 0 5) (va_cpy jseenTaut nseenTaut 0 0 5) jplanCount nplanWhat nplanOf nbookCount nbookPerson nbookPlace, wdX5 kc j_o j_seenLeaf j_seenStep j_seenTaut j_planWhat j_planOf j_bookPerson j_bookPlace jseenCount jseenLeaf jseenStep jseenTaut jplanCount jplanWhat jplanOf jbookCount jbookPerson jbookPlace]) H := hP
  have hD : va_D A (fl [wdX5 kc n_o n_seenLeaf n_seenStep n_seenTaut n_planWhat n_planOf n_bookPerson n_bookPlace jseenCount (va_cpy jseenLeaf nseenLeaf 0 0 5) (va_cpy jseenStep nseenStep 0 0 5) (va_cpy jseenTaut nseenTaut 0 0 5) jplanCount nplanWhat nplanOf nbookCount nbookPerson nbookPlace, wdX5 kc j_o j_seenLeaf j_seenStep j_seenTaut j_planWhat j_planOf j_bookPerson j_bookPlace jseenCount jseenLeaf jseenStep jseenTaut jplanCount jplanWhat jplanOf jbookCount jbookPerson jbookPlace]) := hD
  refine lv_aload_n hx hb dX5_become_58 rfl (lv_at hl 1 rfl) ?_
  refine va_get (D := (dC, dI)) (ci := 5) (v := .ref j_planWhat) (C := RX5) (T := TX5) (N := 10) hx hb hts hinX5_become_X5 hown hK hP 8 rfl rfl 5 (by decide) (hts _ (List.mem_of_getElem? (i := 10) rfl)) (fun _ h9 => h9) rfl dX5_become_59 ?_
  refine lv_iconst (v := 0) hx hb dX5_become_62 (by decide) ?_
  refine lv_aload_n hx hb dX5_become_63 rfl (lv_at hl 0 rfl) ?_
  refine va_get (D := (dC, dI)) (ci := 5) (v := .ref n_planWhat) (C := RX5) (T := TX5) (N := 10) hx hb hts hinX5_become_X5 hown hK hP 0 rfl rfl 5 (by decide) (hts _ (List.mem_of_getElem? (i := 10) rfl)) (fun _ h9 => h9) rfl dX5_become_64 ?_
  refine lv_iconst (v := 0) hx hb dX5_become_67 (by decide) ?_
  refine lv_bipush (v := 10) hx hb dX5_become_68 (by decide) ?_
  refine va_copyi (D := (dC, dI)) (ty := .int) hx hb (hml.trans hl.1.symm) hown (hts _ (List.mem_of_getElem? (i := 3) rfl)) (hts _ (List.mem_of_getElem? (i := 4) rfl)) (hts _ (List.mem_of_getElem? (i := 5) rfl)) (hts _ (List.mem_of_getElem? (i := 6) rfl)) hK hP hD hS 12 4 1 1 rfl rfl rfl rfl rfl (by decide) (by decide) (by decide) (by decide) (by decide) (fun _ _ => rfl) (Nat.le_of_ble_eq_true rfl) (Nat.le_of_ble_eq_true rfl) dX5_become_70 (fun H locs hP hD hS => ?_)
  have hP : va_P (dC, dI) vwCl (fl [wdX5 kc n_o n_seenLeaf n_seenStep n_seenTaut n_planWhat n_planOf n_bookPerson n_bookPlace jseenCount (va_cpy jseenLeaf nseenLeaf 0 0 5) (va_cpy jseenStep nseenStep 0 0 5) (va_cpy jseenTaut nseenTaut 0 0 5) jplanCount (va_cpy jplanWhat nplanWhat 0 0 10) nplanOf nbookCount nbookPerson nbookPlace, wdX5 kc j_o j_seenLeaf j_seenStep j_seenTaut j_planWhat j_planOf j_bookPerson j_bookPlace jseenCount jseenLeaf jseenStep jseenTaut jplanCount jplanWhat jplanOf jbookCount jbookPerson jbookPlace]) H := hP
  have hD : va_D A (fl [wdX5 kc n_o n_seenLeaf n_seenStep n_seenTaut n_planWhat n_planOf n_bookPerson n_bookPlace jseenCount (va_cpy jseenLeaf nseenLeaf 0 0 5) (va_cpy jseenStep nseenStep 0 0 5) (va_cpy jseenTaut nseenTaut 0 0 5) jplanCount (va_cpy jplanWhat nplanWhat 0 0 10) nplanOf nbookCount nbookPerson nbookPlace, wdX5 kc j_o j_seenLeaf j_seenStep j_seenTaut j_planWhat j_planOf j_bookPerson j_bookPlace jseenCount jseenLeaf jseenStep jseenTaut jplanCount jplanWhat jplanOf jbookCount jbookPerson jbookPlace]) := hD
  refine lv_aload_n hx hb dX5_become_73 rfl (lv_at hl 1 rfl) ?_
  refine va_get (D := (dC, dI)) (ci := 5) (v := .ref j_planOf) (C := RX5) (T := TX5) (N := 10) hx hb hts hinX5_become_X5 hown hK hP 8 rfl rfl 6 (by decide) (hts _ (List.mem_of_getElem? (i := 11) rfl)) (fun _ h9 => h9) rfl dX5_become_74 ?_
  refine lv_iconst (v := 0) hx hb dX5_become_77 (by decide) ?_
  refine lv_aload_n hx hb dX5_become_78 rfl (lv_at hl 0 rfl) ?_
  refine va_get (D := (dC, dI)) (ci := 5) (v := .ref n_planOf) (C := RX5) (T := TX5) (N := 10) hx hb hts hinX5_become_X5 hown hK hP 0 rfl rfl 6 (by decide) (hts _ (List.mem_of_getElem? (i := 11) rfl)) (fun _ h9 => h9) rfl dX5_become_79 ?_
  refine lv_iconst (v := 0) hx hb dX5_become_82 (by decide) ?_
  refine lv_bipush (v := 10) hx hb dX5_become_83 (by decide) ?_
  refine va_copyi (D := (dC, dI)) (ty := .int) hx hb (hml.trans hl.1.symm) hown (hts _ (List.mem_of_getElem? (i := 3) rfl)) (hts _ (List.mem_of_getElem? (i := 4) rfl)) (hts _ (List.mem_of_getElem? (i := 5) rfl)) (hts _ (List.mem_of_getElem? (i := 6) rfl)) hK hP hD hS 13 5 1 1 rfl rfl rfl rfl rfl (by decide) (by decide) (by decide) (by decide) (by decide) (fun _ _ => rfl) (Nat.le_of_ble_eq_true rfl) (Nat.le_of_ble_eq_true rfl) dX5_become_85 (fun H locs hP hD hS => ?_)
  have hP : va_P (dC, dI) vwCl (fl [wdX5 kc n_o n_seenLeaf n_seenStep n_seenTaut n_planWhat n_planOf n_bookPerson n_bookPlace jseenCount (va_cpy jseenLeaf nseenLeaf 0 0 5) (va_cpy jseenStep nseenStep 0 0 5) (va_cpy jseenTaut nseenTaut 0 0 5) jplanCount (va_cpy jplanWhat nplanWhat 0 0 10) (va_cpy jplanOf nplanOf 0 0 10) nbookCount nbookPerson nbookPlace, wdX5 kc j_o j_seenLeaf j_seenStep j_seenTaut j_planWhat j_planOf j_bookPerson j_bookPlace jseenCount jseenLeaf jseenStep jseenTaut jplanCount jplanWhat jplanOf jbookCount jbookPerson jbookPlace]) H := hP
  have hD : va_D A (fl [wdX5 kc n_o n_seenLeaf n_seenStep n_seenTaut n_planWhat n_planOf n_bookPerson n_bookPlace jseenCount (va_cpy jseenLeaf nseenLeaf 0 0 5) (va_cpy jseenStep nseenStep 0 0 5) (va_cpy jseenTaut nseenTaut 0 0 5) jplanCount (va_cpy jplanWhat nplanWhat 0 0 10) (va_cpy jplanOf nplanOf 0 0 10) nbookCount nbookPerson nbookPlace, wdX5 kc j_o j_seenLeaf j_seenStep j_seenTaut j_planWhat j_planOf j_bookPerson j_bookPlace jseenCount jseenLeaf jseenStep jseenTaut jplanCount jplanWhat jplanOf jbookCount jbookPerson jbookPlace]) := hD
  refine lv_aload_n hx hb dX5_become_88 rfl (lv_at hl 0 rfl) ?_
  refine lv_aload_n hx hb dX5_become_89 rfl (lv_at hl 1 rfl) ?_
  refine va_get (D := (dC, dI)) (ci := 5) (v := .int jbookCount) (C := RX5) (T := TX5) (N := 10) hx hb hts hinX5_become_X5 hown hK hP 8 rfl rfl 7 (by decide) (hts _ (List.mem_of_getElem? (i := 12) rfl)) (fun _ h9 => h9) rfl dX5_become_90 ?_
  refine va_put (D := (dC, dI)) (ci := 5) (v := .int jbookCount) (ty := .int) (C := RX5) (T := TX5) (N := 10) hx hb hts hinX5_become_X5 tyX5 tyX5_ok nmX5 hown hK hP hD hS 0 rfl rfl 7 (by decide) (hts _ (List.mem_of_getElem? (i := 12) rfl)) (fun _ h9 => h9) rfl (by decide +kernel) rfl rfl (Nat.le_of_ble_eq_true rfl) dX5_become_93 (fun H locs hP hD hS => ?_)
  have hP : va_P (dC, dI) vwCl (fl [wdX5 kc n_o n_seenLeaf n_seenStep n_seenTaut n_planWhat n_planOf n_bookPerson n_bookPlace jseenCount (va_cpy jseenLeaf nseenLeaf 0 0 5) (va_cpy jseenStep nseenStep 0 0 5) (va_cpy jseenTaut nseenTaut 0 0 5) jplanCount (va_cpy jplanWhat nplanWhat 0 0 10) (va_cpy jplanOf nplanOf 0 0 10) jbookCount nbookPerson nbookPlace, wdX5 kc j_o j_seenLeaf j_seenStep j_seenTaut j_planWhat j_planOf j_bookPerson j_bookPlace jseenCount jseenLeaf jseenStep jseenTaut jplanCount jplanWhat jplanOf jbookCount jbookPerson jbookPlace]) H := hP
  have hD : va_D A (fl [wdX5 kc n_o n_seenLeaf n_seenStep n_seenTaut n_planWhat n_planOf n_bookPerson n_bookPlace jseenCount (va_cpy jseenLeaf nseenLeaf 0 0 5) (va_cpy jseenStep nseenStep 0 0 5) (va_cpy jseenTaut nseenTaut 0 0 5) jplanCount (va_cpy jplanWhat nplanWhat 0 0 10) (va_cpy jplanOf nplanOf 0 0 10) jbookCount nbookPerson nbookPlace, wdX5 kc j_o j_seenLeaf j_seenStep j_seenTaut j_planWhat j_planOf j_bookPerson j_bookPlace jseenCount jseenLeaf jseenStep jseenTaut jplanCount jplanWhat jplanOf jbookCount jbookPerson jbookPlace]) := hD
  refine lv_aload_n hx hb dX5_become_96 rfl (lv_at hl 1 rfl) ?_
  refine va_get (D := (dC, dI)) (ci := 5) (v := .ref j_bookPerson) (C := RX5) (T := TX5) (N := 10) hx hb hts hinX5_become_X5 hown hK hP 8 rfl rfl 8 (by decide) (hts _ (List.mem_of_getElem? (i := 13) rfl)) (fun _ h9 => h9) rfl dX5_become_97 ?_
  refine lv_iconst (v := 0) hx hb dX5_become_100 (by decide) ?_
  refine lv_aload_n hx hb dX5_become_101 rfl (lv_at hl 0 rfl) ?_
  refine va_get (D := (dC, dI)) (ci := 5) (v := .ref n_bookPerson) (C := RX5) (T := TX5) (N := 10) hx hb hts hinX5_become_X5 hown hK hP 0 rfl rfl 8 (by decide) (hts _ (List.mem_of_getElem? (i := 13) rfl)) (fun _ h9 => h9) rfl dX5_become_102 ?_
  refine lv_iconst (v := 0) hx hb dX5_become_105 (by decide) ?_
  refine lv_bipush (v := 8) hx hb dX5_become_106 (by decide) ?_
  refine va_copyi (D := (dC, dI)) (ty := .int) hx hb (hml.trans hl.1.symm) hown (hts _ (List.mem_of_getElem? (i := 3) rfl)) (hts _ (List.mem_of_getElem? (i := 4) rfl)) (hts _ (List.mem_of_getElem? (i := 5) rfl)) (hts _ (List.mem_of_getElem? (i := 6) rfl)) hK hP hD hS 14 6 1 1 rfl rfl rfl rfl rfl (by decide) (by decide) (by decide) (by decide) (by decide) (fun _ _ => rfl) (Nat.le_of_ble_eq_true rfl) (Nat.le_of_ble_eq_true rfl) dX5_become_108 (fun H locs hP hD hS => ?_)
  have hP : va_P (dC, dI) vwCl (fl [wdX5 kc n_o n_seenLeaf n_seenStep n_seenTaut n_planWhat n_planOf n_bookPerson n_bookPlace jseenCount (va_cpy jseenLeaf nseenLeaf 0 0 5) (va_cpy jseenStep nseenStep 0 0 5) (va_cpy jseenTaut nseenTaut 0 0 5) jplanCount (va_cpy jplanWhat nplanWhat 0 0 10) (va_cpy jplanOf nplanOf 0 0 10) jbookCount (va_cpy jbookPerson nbookPerson 0 0 8) nbookPlace, wdX5 kc j_o j_seenLeaf j_seenStep j_seenTaut j_planWhat j_planOf j_bookPerson j_bookPlace jseenCount jseenLeaf jseenStep jseenTaut jplanCount jplanWhat jplanOf jbookCount jbookPerson jbookPlace]) H := hP
  have hD : va_D A (fl [wdX5 kc n_o n_seenLeaf n_seenStep n_seenTaut n_planWhat n_planOf n_bookPerson n_bookPlace jseenCount (va_cpy jseenLeaf nseenLeaf 0 0 5) (va_cpy jseenStep nseenStep 0 0 5) (va_cpy jseenTaut nseenTaut 0 0 5) jplanCount (va_cpy jplanWhat nplanWhat 0 0 10) (va_cpy jplanOf nplanOf 0 0 10) jbookCount (va_cpy jbookPerson nbookPerson 0 0 8) nbookPlace, wdX5 kc j_o j_seenLeaf j_seenStep j_seenTaut j_planWhat j_planOf j_bookPerson j_bookPlace jseenCount jseenLeaf jseenStep jseenTaut jplanCount jplanWhat jplanOf jbookCount jbookPerson jbookPlace]) := hD
  refine lv_aload_n hx hb dX5_become_111 rfl (lv_at hl 1 rfl) ?_
  refine va_get (D := (dC, dI)) (ci := 5) (v := .ref j_bookPlace) (C := RX5) (T := TX5) (N := 10) hx hb hts hinX5_become_X5 hown hK hP 8 rfl rfl 9 (by decide) (hts _ (List.mem_of_getElem? (i := 14) rfl)) (fun _ h9 => h9) rfl dX5_become_112 ?_
  refine lv_iconst (v := 0) hx hb dX5_become_115 (by decide) ?_
  refine lv_aload_n hx hb dX5_become_116 rfl (lv_at hl 0 rfl) ?_
  refine va_get (D := (dC, dI)) (ci := 5) (v := .ref n_bookPlace) (C := RX5) (T := TX5) (N := 10) hx hb hts hinX5_become_X5 hown hK hP 0 rfl rfl 9 (by decide) (hts _ (List.mem_of_getElem? (i := 14) rfl)) (fun _ h9 => h9) rfl dX5_become_117 ?_
  refine lv_iconst (v := 0) hx hb dX5_become_120 (by decide) ?_
  refine lv_bipush (v := 8) hx hb dX5_become_121 (by decide) ?_
  refine va_copyi (D := (dC, dI)) (ty := .int) hx hb (hml.trans hl.1.symm) hown (hts _ (List.mem_of_getElem? (i := 3) rfl)) (hts _ (List.mem_of_getElem? (i := 4) rfl)) (hts _ (List.mem_of_getElem? (i := 5) rfl)) (hts _ (List.mem_of_getElem? (i := 6) rfl)) hK hP hD hS 15 7 1 1 rfl rfl rfl rfl rfl (by decide) (by decide) (by decide) (by decide) (by decide) (fun _ _ => rfl) (Nat.le_of_ble_eq_true rfl) (Nat.le_of_ble_eq_true rfl) dX5_become_123 (fun H locs hP hD hS => ?_)
  have hP : va_P (dC, dI) vwCl (fl [wdX5 kc n_o n_seenLeaf n_seenStep n_seenTaut n_planWhat n_planOf n_bookPerson n_bookPlace jseenCount (va_cpy jseenLeaf nseenLeaf 0 0 5) (va_cpy jseenStep nseenStep 0 0 5) (va_cpy jseenTaut nseenTaut 0 0 5) jplanCount (va_cpy jplanWhat nplanWhat 0 0 10) (va_cpy jplanOf nplanOf 0 0 10) jbookCount (va_cpy jbookPerson nbookPerson 0 0 8) (va_cpy jbookPlace nbookPlace 0 0 8), wdX5 kc j_o j_seenLeaf j_seenStep j_seenTaut j_planWhat j_planOf j_bookPerson j_bookPlace jseenCount jseenLeaf jseenStep jseenTaut jplanCount jplanWhat jplanOf jbookCount jbookPerson jbookPlace]) H := hP
  have hD : va_D A (fl [wdX5 kc n_o n_seenLeaf n_seenStep n_seenTaut n_planWhat n_planOf n_bookPerson n_bookPlace jseenCount (va_cpy jseenLeaf nseenLeaf 0 0 5) (va_cpy jseenStep nseenStep 0 0 5) (va_cpy jseenTaut nseenTaut 0 0 5) jplanCount (va_cpy jplanWhat nplanWhat 0 0 10) (va_cpy jplanOf nplanOf 0 0 10) jbookCount (va_cpy jbookPerson nbookPerson 0 0 8) (va_cpy jbookPlace nbookPlace 0 0 8), wdX5 kc j_o j_seenLeaf j_seenStep j_seenTaut j_planWhat j_planOf j_bookPerson j_bookPlace jseenCount jseenLeaf jseenStep jseenTaut jplanCount jplanWhat jplanOf jbookCount jbookPerson jbookPlace]) := hD
  cases hm
  exact k_vret hx hb hr hlocks hP hS dX5_become_126
def fX5_addSeen (nseenCount : Int32) (nseenLeaf : Nat → Int32) (nseenStep : Nat → Int32) (nseenTaut : Nat → Int32) (x1 : Int32) (x2 : Int32) (x3 : Int32) : Option (Int32 × Int32 × (Nat → Int32) × (Nat → Int32) × (Nat → Int32)) := gd (inb nseenCount 5) (gd (inb nseenCount 5) (gd (inb nseenCount 5) (some (nseenCount + 1, nseenCount + 1, upd nseenLeaf (nseenCount.toNatClampNeg) x1, upd nseenStep (nseenCount.toNatClampNeg) x2, upd nseenTaut (nseenCount.toNatClampNeg) (vp_nar .boolean x3)))))
theorem hinX5_addSeen_X5 : ∀ w ∈ u_ws RX5 TX5 10, w ∈ wsX5_addSeen := fun _ h => List.mem_cons_of_mem _ (List.mem_append_right _ h)
abbrev rmX5_addSeen : Room := { frames := 0, cells := 0, slots := 0, locals := 12 }
set_option maxHeartbeats 4000000 in
set_option maxRecDepth 100000 in
theorem ctX5_addSeen {l : Launch} {dC : Nat → ClassId} {dI : Nat → Nat → Nat} {kc : Nat → ClassId} {n_o n_seenLeaf n_seenStep n_seenTaut n_planWhat n_planOf n_bookPerson n_bookPlace : Nat} {nseenCount : Int32} {nseenLeaf : Nat → Int32} {nseenStep : Nat → Int32} {nseenTaut : Nat → Int32} {nplanCount : Int32} {nplanWhat : Nat → Int32} {nplanOf : Nat → Int32} {nbookCount : Int32} {nbookPerson : Nat → Int32} {nbookPlace : Nat → Int32} {x1 : Int32} {x2 : Int32} {x3 : Int32} {r : Int32} {nseenCount' : Int32} {nseenLeaf' : Nat → Int32} {nseenStep' : Nat → Int32} {nseenTaut' : Nat → Int32} (hm : fX5_addSeen nseenCount nseenLeaf nseenStep nseenTaut x1 x2 x3 = some (r, nseenCount', nseenLeaf', nseenStep', nseenTaut')) : ∀ sz : Nat, Met l yX5_addSeen wsX5_addSeen rmX5_addSeen (kPc dC dI kc [.ref n_o, .int x1, .int x2, .int x3] (fl [wdX5 kc n_o n_seenLeaf n_seenStep n_seenTaut n_planWhat n_planOf n_bookPerson n_bookPlace nseenCount nseenLeaf nseenStep nseenTaut nplanCount nplanWhat nplanOf nbookCount nbookPerson nbookPlace]) sz) (kQi dC dI r (fl [wdX5 kc n_o n_seenLeaf n_seenStep n_seenTaut n_planWhat n_planOf n_bookPerson n_bookPlace nseenCount' nseenLeaf' nseenStep' nseenTaut' nplanCount nplanWhat nplanOf nbookCount nbookPerson nbookPlace]) (va_A (fl [wdX5 kc n_o n_seenLeaf n_seenStep n_seenTaut n_planWhat n_planOf n_bookPerson n_bookPlace nseenCount nseenLeaf nseenStep nseenTaut nplanCount nplanWhat nplanOf nbookCount nbookPerson nbookPlace]) sz)) 0 0 (va_A (fl [wdX5 kc n_o n_seenLeaf n_seenStep n_seenTaut n_planWhat n_planOf n_bookPerson n_bookPlace nseenCount nseenLeaf nseenStep nseenTaut nplanCount nplanWhat nplanOf nbookCount nbookPerson nbookPlace]) sz) := by
  intro sz
  refine kMet (cc := cX5_addSeen) (maxL := 4) (ret := (some .int)) (Qf := fun A => kQi dC dI r (fl [wdX5 kc n_o n_seenLeaf n_seenStep n_seenTaut n_planWhat n_planOf n_bookPerson n_bookPlace nseenCount' nseenLeaf' nseenStep' nseenTaut' nplanCount nplanWhat nplanOf nbookCount nbookPerson nbookPlace]) A) (by decide) rfl (Nat.le_of_ble_eq_true rfl) ?_
  intro p e s m below meth c A ls hx hb hr hml hts hown hlocks hname hsz hA hP hK hD hl
  have hS : va_S A s.heap s.heap [] := va_S.rf
  have hl : lv_has ls 4 [(0, .ref n_o), (1, .int x1), (2, .int x2), (3, .int x3)] := hl
  unfold fX5_addSeen at hm
  refine lv_aload_n hx hb dX5_addSeen_0 rfl (lv_at hl 0 rfl) ?_
  refine va_get (D := (dC, dI)) (ci := 5) (v := .ref n_seenLeaf) (C := RX5) (T := TX5) (N := 10) hx hb hts hinX5_addSeen_X5 hown hK hP 0 rfl rfl 1 (by decide) (hts _ (List.mem_of_getElem? (i := 1) rfl)) (fun _ h9 => h9) rfl dX5_addSeen_1 ?_
  refine lv_aload_n hx hb dX5_addSeen_4 rfl (lv_at hl 0 rfl) ?_
  refine va_get (D := (dC, dI)) (ci := 5) (v := .int nseenCount) (C := RX5) (T := TX5) (N := 10) hx hb hts hinX5_addSeen_X5 hown hK hP 0 rfl rfl 0 (by decide) (hts _ (List.mem_of_getElem? (i := 2) rfl)) (fun _ h9 => h9) rfl dX5_addSeen_5 ?_
  refine lv_iload_n hx hb dX5_addSeen_8 rfl (lv_at hl 1 rfl) ?_
  obtain ⟨hg9, hm⟩ := gd_e hm
  refine k_iast (D := (dC, dI)) hx hb hK hP hD hS 1 1 rfl rfl (k := nseenCount.toNatClampNeg) rfl hg9 dX5_addSeen_9 (fun H locs hP hD hS => ?_)
  have hP : va_P (dC, dI) vwCl (fl [wdX5 kc n_o n_seenLeaf n_seenStep n_seenTaut n_planWhat n_planOf n_bookPerson n_bookPlace nseenCount (upd nseenLeaf (nseenCount.toNatClampNeg) x1) nseenStep nseenTaut nplanCount nplanWhat nplanOf nbookCount nbookPerson nbookPlace]) H := hP
  have hD : va_D A (fl [wdX5 kc n_o n_seenLeaf n_seenStep n_seenTaut n_planWhat n_planOf n_bookPerson n_bookPlace nseenCount (upd nseenLeaf (nseenCount.toNatClampNeg) x1) nseenStep nseenTaut nplanCount nplanWhat nplanOf nbookCount nbookPerson nbookPlace]) := hD
  refine lv_aload_n hx hb dX5_addSeen_10 rfl (lv_at hl 0 rfl) ?_
  refine va_get (D := (dC, dI)) (ci := 5) (v := .ref n_seenStep) (C := RX5) (T := TX5) (N := 10) hx hb hts hinX5_addSeen_X5 hown hK hP 0 rfl rfl 2 (by decide) (hts _ (List.mem_of_getElem? (i := 3) rfl)) (fun _ h9 => h9) rfl dX5_addSeen_11 ?_
  refine lv_aload_n hx hb dX5_addSeen_14 rfl (lv_at hl 0 rfl) ?_
  refine va_get (D := (dC, dI)) (ci := 5) (v := .int nseenCount) (C := RX5) (T := TX5) (N := 10) hx hb hts hinX5_addSeen_X5 hown hK hP 0 rfl rfl 0 (by decide) (hts _ (List.mem_of_getElem? (i := 2) rfl)) (fun _ h9 => h9) rfl dX5_addSeen_15 ?_
  refine lv_iload_n hx hb dX5_addSeen_18 rfl (lv_at hl 2 rfl) ?_
  obtain ⟨hg19, hm⟩ := gd_e hm
  refine k_iast (D := (dC, dI)) hx hb hK hP hD hS 2 1 rfl rfl (k := nseenCount.toNatClampNeg) rfl hg19 dX5_addSeen_19 (fun H locs hP hD hS => ?_)
  have hP : va_P (dC, dI) vwCl (fl [wdX5 kc n_o n_seenLeaf n_seenStep n_seenTaut n_planWhat n_planOf n_bookPerson n_bookPlace nseenCount (upd nseenLeaf (nseenCount.toNatClampNeg) x1) (upd nseenStep (nseenCount.toNatClampNeg) x2) nseenTaut nplanCount nplanWhat nplanOf nbookCount nbookPerson nbookPlace]) H := hP
  have hD : va_D A (fl [wdX5 kc n_o n_seenLeaf n_seenStep n_seenTaut n_planWhat n_planOf n_bookPerson n_bookPlace nseenCount (upd nseenLeaf (nseenCount.toNatClampNeg) x1) (upd nseenStep (nseenCount.toNatClampNeg) x2) nseenTaut nplanCount nplanWhat nplanOf nbookCount nbookPerson nbookPlace]) := hD
  refine lv_aload_n hx hb dX5_addSeen_20 rfl (lv_at hl 0 rfl) ?_
  refine va_get (D := (dC, dI)) (ci := 5) (v := .ref n_seenTaut) (C := RX5) (T := TX5) (N := 10) hx hb hts hinX5_addSeen_X5 hown hK hP 0 rfl rfl 3 (by decide) (hts _ (List.mem_of_getElem? (i := 4) rfl)) (fun _ h9 => h9) rfl dX5_addSeen_21 ?_
  refine lv_aload_n hx hb dX5_addSeen_24 rfl (lv_at hl 0 rfl) ?_
  refine va_get (D := (dC, dI)) (ci := 5) (v := .int nseenCount) (C := RX5) (T := TX5) (N := 10) hx hb hts hinX5_addSeen_X5 hown hK hP 0 rfl rfl 0 (by decide) (hts _ (List.mem_of_getElem? (i := 2) rfl)) (fun _ h9 => h9) rfl dX5_addSeen_25 ?_
  refine lv_iload_n hx hb dX5_addSeen_28 rfl (lv_at hl 3 rfl) ?_
  obtain ⟨hg29, hm⟩ := gd_e hm
  refine k_zast (D := (dC, dI)) hx hb hK hP hD hS 3 3 rfl rfl (k := nseenCount.toNatClampNeg) rfl hg29 dX5_addSeen_29 (fun H locs hP hD hS => ?_)
  have hP : va_P (dC, dI) vwCl (fl [wdX5 kc n_o n_seenLeaf n_seenStep n_seenTaut n_planWhat n_planOf n_bookPerson n_bookPlace nseenCount (upd nseenLeaf (nseenCount.toNatClampNeg) x1) (upd nseenStep (nseenCount.toNatClampNeg) x2) (upd nseenTaut (nseenCount.toNatClampNeg) (vp_nar .boolean x3)) nplanCount nplanWhat nplanOf nbookCount nbookPerson nbookPlace]) H := hP
  have hD : va_D A (fl [wdX5 kc n_o n_seenLeaf n_seenStep n_seenTaut n_planWhat n_planOf n_bookPerson n_bookPlace nseenCount (upd nseenLeaf (nseenCount.toNatClampNeg) x1) (upd nseenStep (nseenCount.toNatClampNeg) x2) (upd nseenTaut (nseenCount.toNatClampNeg) (vp_nar .boolean x3)) nplanCount nplanWhat nplanOf nbookCount nbookPerson nbookPlace]) := hD
  refine lv_aload_n hx hb dX5_addSeen_30 rfl (lv_at hl 0 rfl) ?_
  refine lv_dup hx hb dX5_addSeen_31 rfl ?_
  refine va_get (D := (dC, dI)) (ci := 5) (v := .int nseenCount) (C := RX5) (T := TX5) (N := 10) hx hb hts hinX5_addSeen_X5 hown hK hP 0 rfl rfl 0 (by decide) (hts _ (List.mem_of_getElem? (i := 2) rfl)) (fun _ h9 => h9) rfl dX5_addSeen_32 ?_
  refine lv_iconst (v := 1) hx hb dX5_addSeen_35 (by decide) ?_
  refine lv_iadd hx hb dX5_addSeen_36 ?_
  refine va_put (D := (dC, dI)) (ci := 5) (v := .int (nseenCount + 1)) (ty := .int) (C := RX5) (T := TX5) (N := 10) hx hb hts hinX5_addSeen_X5 tyX5 tyX5_ok nmX5 hown hK hP hD hS 0 rfl rfl 0 (by decide) (hts _ (List.mem_of_getElem? (i := 2) rfl)) (fun _ h9 => h9) rfl (by decide +kernel) rfl rfl (Nat.le_of_ble_eq_true rfl) dX5_addSeen_37 (fun H locs hP hD hS => ?_)
  have hP : va_P (dC, dI) vwCl (fl [wdX5 kc n_o n_seenLeaf n_seenStep n_seenTaut n_planWhat n_planOf n_bookPerson n_bookPlace (nseenCount + 1) (upd nseenLeaf (nseenCount.toNatClampNeg) x1) (upd nseenStep (nseenCount.toNatClampNeg) x2) (upd nseenTaut (nseenCount.toNatClampNeg) (vp_nar .boolean x3)) nplanCount nplanWhat nplanOf nbookCount nbookPerson nbookPlace]) H := hP
  have hD : va_D A (fl [wdX5 kc n_o n_seenLeaf n_seenStep n_seenTaut n_planWhat n_planOf n_bookPerson n_bookPlace (nseenCount + 1) (upd nseenLeaf (nseenCount.toNatClampNeg) x1) (upd nseenStep (nseenCount.toNatClampNeg) x2) (upd nseenTaut (nseenCount.toNatClampNeg) (vp_nar .boolean x3)) nplanCount nplanWhat nplanOf nbookCount nbookPerson nbookPlace]) := hD
  refine lv_aload_n hx hb dX5_addSeen_40 rfl (lv_at hl 0 rfl) ?_
  refine va_get (D := (dC, dI)) (ci := 5) (v := .int (nseenCount + 1)) (C := RX5) (T := TX5) (N := 10) hx hb hts hinX5_addSeen_X5 hown hK hP 0 rfl rfl 0 (by decide) (hts _ (List.mem_of_getElem? (i := 2) rfl)) (fun _ h9 => h9) rfl dX5_addSeen_41 ?_
  cases hm
  exact k_iret hx hb hr hlocks hP hS dX5_addSeen_44
def fX5_addPlan (nplanCount : Int32) (nplanWhat : Nat → Int32) (nplanOf : Nat → Int32) (x1 : Int32) (x2 : Int32) : Option (Int32 × Int32 × (Nat → Int32) × (Nat → Int32)) := gd (inb nplanCount 10) (gd (inb nplanCount 10) (some (nplanCount + 1, nplanCount + 1, upd nplanWhat (nplanCount.toNatClampNeg) x1, upd nplanOf (nplanCount.toNatClampNeg) x2)))
theorem hinX5_addPlan_X5 : ∀ w ∈ u_ws RX5 TX5 10, w ∈ wsX5_addPlan := fun _ h => List.mem_cons_of_mem _ (List.mem_append_right _ h)
abbrev rmX5_addPlan : Room := { frames := 0, cells := 0, slots := 0, locals := 12 }
set_option maxHeartbeats 4000000 in
set_option maxRecDepth 100000 in
theorem ctX5_addPlan {l : Launch} {dC : Nat → ClassId} {dI : Nat → Nat → Nat} {kc : Nat → ClassId} {n_o n_seenLeaf n_seenStep n_seenTaut n_planWhat n_planOf n_bookPerson n_bookPlace : Nat} {nseenCount : Int32} {nseenLeaf : Nat → Int32} {nseenStep : Nat → Int32} {nseenTaut : Nat → Int32} {nplanCount : Int32} {nplanWhat : Nat → Int32} {nplanOf : Nat → Int32} {nbookCount : Int32} {nbookPerson : Nat → Int32} {nbookPlace : Nat → Int32} {x1 : Int32} {x2 : Int32} {r : Int32} {nplanCount' : Int32} {nplanWhat' : Nat → Int32} {nplanOf' : Nat → Int32} (hm : fX5_addPlan nplanCount nplanWhat nplanOf x1 x2 = some (r, nplanCount', nplanWhat', nplanOf')) : ∀ sz : Nat, Met l yX5_addPlan wsX5_addPlan rmX5_addPlan (kPc dC dI kc [.ref n_o, .int x1, .int x2] (fl [wdX5 kc n_o n_seenLeaf n_seenStep n_seenTaut n_planWhat n_planOf n_bookPerson n_bookPlace nseenCount nseenLeaf nseenStep nseenTaut nplanCount nplanWhat nplanOf nbookCount nbookPerson nbookPlace]) sz) (kQi dC dI r (fl [wdX5 kc n_o n_seenLeaf n_seenStep n_seenTaut n_planWhat n_planOf n_bookPerson n_bookPlace nseenCount nseenLeaf nseenStep nseenTaut nplanCount' nplanWhat' nplanOf' nbookCount nbookPerson nbookPlace]) (va_A (fl [wdX5 kc n_o n_seenLeaf n_seenStep n_seenTaut n_planWhat n_planOf n_bookPerson n_bookPlace nseenCount nseenLeaf nseenStep nseenTaut nplanCount nplanWhat nplanOf nbookCount nbookPerson nbookPlace]) sz)) 0 0 (va_A (fl [wdX5 kc n_o n_seenLeaf n_seenStep n_seenTaut n_planWhat n_planOf n_bookPerson n_bookPlace nseenCount nseenLeaf nseenStep nseenTaut nplanCount nplanWhat nplanOf nbookCount nbookPerson nbookPlace]) sz) := by
  intro sz
  refine kMet (cc := cX5_addPlan) (maxL := 3) (ret := (some .int)) (Qf := fun A => kQi dC dI r (fl [wdX5 kc n_o n_seenLeaf n_seenStep n_seenTaut n_planWhat n_planOf n_bookPerson n_bookPlace nseenCount nseenLeaf nseenStep nseenTaut nplanCount' nplanWhat' nplanOf' nbookCount nbookPerson nbookPlace]) A) (by decide) rfl (Nat.le_of_ble_eq_true rfl) ?_
  intro p e s m below meth c A ls hx hb hr hml hts hown hlocks hname hsz hA hP hK hD hl
  have hS : va_S A s.heap s.heap [] := va_S.rf
  have hl : lv_has ls 3 [(0, .ref n_o), (1, .int x1), (2, .int x2)] := hl
  unfold fX5_addPlan at hm
  refine lv_aload_n hx hb dX5_addPlan_0 rfl (lv_at hl 0 rfl) ?_
  refine va_get (D := (dC, dI)) (ci := 5) (v := .ref n_planWhat) (C := RX5) (T := TX5) (N := 10) hx hb hts hinX5_addPlan_X5 hown hK hP 0 rfl rfl 5 (by decide) (hts _ (List.mem_of_getElem? (i := 1) rfl)) (fun _ h9 => h9) rfl dX5_addPlan_1 ?_
  refine lv_aload_n hx hb dX5_addPlan_4 rfl (lv_at hl 0 rfl) ?_
  refine va_get (D := (dC, dI)) (ci := 5) (v := .int nplanCount) (C := RX5) (T := TX5) (N := 10) hx hb hts hinX5_addPlan_X5 hown hK hP 0 rfl rfl 4 (by decide) (hts _ (List.mem_of_getElem? (i := 2) rfl)) (fun _ h9 => h9) rfl dX5_addPlan_5 ?_
  refine lv_iload_n hx hb dX5_addPlan_8 rfl (lv_at hl 1 rfl) ?_
  obtain ⟨hg9, hm⟩ := gd_e hm
  refine k_iast (D := (dC, dI)) hx hb hK hP hD hS 4 1 rfl rfl (k := nplanCount.toNatClampNeg) rfl hg9 dX5_addPlan_9 (fun H locs hP hD hS => ?_)
  have hP : va_P (dC, dI) vwCl (fl [wdX5 kc n_o n_seenLeaf n_seenStep n_seenTaut n_planWhat n_planOf n_bookPerson n_bookPlace nseenCount nseenLeaf nseenStep nseenTaut nplanCount (upd nplanWhat (nplanCount.toNatClampNeg) x1) nplanOf nbookCount nbookPerson nbookPlace]) H := hP
  have hD : va_D A (fl [wdX5 kc n_o n_seenLeaf n_seenStep n_seenTaut n_planWhat n_planOf n_bookPerson n_bookPlace nseenCount nseenLeaf nseenStep nseenTaut nplanCount (upd nplanWhat (nplanCount.toNatClampNeg) x1) nplanOf nbookCount nbookPerson nbookPlace]) := hD
  refine lv_aload_n hx hb dX5_addPlan_10 rfl (lv_at hl 0 rfl) ?_
  refine va_get (D := (dC, dI)) (ci := 5) (v := .ref n_planOf) (C := RX5) (T := TX5) (N := 10) hx hb hts hinX5_addPlan_X5 hown hK hP 0 rfl rfl 6 (by decide) (hts _ (List.mem_of_getElem? (i := 3) rfl)) (fun _ h9 => h9) rfl dX5_addPlan_11 ?_
  refine lv_aload_n hx hb dX5_addPlan_14 rfl (lv_at hl 0 rfl) ?_
  refine va_get (D := (dC, dI)) (ci := 5) (v := .int nplanCount) (C := RX5) (T := TX5) (N := 10) hx hb hts hinX5_addPlan_X5 hown hK hP 0 rfl rfl 4 (by decide) (hts _ (List.mem_of_getElem? (i := 2) rfl)) (fun _ h9 => h9) rfl dX5_addPlan_15 ?_
  refine lv_iload_n hx hb dX5_addPlan_18 rfl (lv_at hl 2 rfl) ?_
  obtain ⟨hg19, hm⟩ := gd_e hm
  refine k_iast (D := (dC, dI)) hx hb hK hP hD hS 5 1 rfl rfl (k := nplanCount.toNatClampNeg) rfl hg19 dX5_addPlan_19 (fun H locs hP hD hS => ?_)
  have hP : va_P (dC, dI) vwCl (fl [wdX5 kc n_o n_seenLeaf n_seenStep n_seenTaut n_planWhat n_planOf n_bookPerson n_bookPlace nseenCount nseenLeaf nseenStep nseenTaut nplanCount (upd nplanWhat (nplanCount.toNatClampNeg) x1) (upd nplanOf (nplanCount.toNatClampNeg) x2) nbookCount nbookPerson nbookPlace]) H := hP
  have hD : va_D A (fl [wdX5 kc n_o n_seenLeaf n_seenStep n_seenTaut n_planWhat n_planOf n_bookPerson n_bookPlace nseenCount nseenLeaf nseenStep nseenTaut nplanCount (upd nplanWhat (nplanCount.toNatClampNeg) x1) (upd nplanOf (nplanCount.toNatClampNeg) x2) nbookCount nbookPerson nbookPlace]) := hD
  refine lv_aload_n hx hb dX5_addPlan_20 rfl (lv_at hl 0 rfl) ?_
  refine lv_dup hx hb dX5_addPlan_21 rfl ?_
  refine va_get (D := (dC, dI)) (ci := 5) (v := .int nplanCount) (C := RX5) (T := TX5) (N := 10) hx hb hts hinX5_addPlan_X5 hown hK hP 0 rfl rfl 4 (by decide) (hts _ (List.mem_of_getElem? (i := 2) rfl)) (fun _ h9 => h9) rfl dX5_addPlan_22 ?_
  refine lv_iconst (v := 1) hx hb dX5_addPlan_25 (by decide) ?_
  refine lv_iadd hx hb dX5_addPlan_26 ?_
  refine va_put (D := (dC, dI)) (ci := 5) (v := .int (nplanCount + 1)) (ty := .int) (C := RX5) (T := TX5) (N := 10) hx hb hts hinX5_addPlan_X5 tyX5 tyX5_ok nmX5 hown hK hP hD hS 0 rfl rfl 4 (by decide) (hts _ (List.mem_of_getElem? (i := 2) rfl)) (fun _ h9 => h9) rfl (by decide +kernel) rfl rfl (Nat.le_of_ble_eq_true rfl) dX5_addPlan_27 (fun H locs hP hD hS => ?_)
  have hP : va_P (dC, dI) vwCl (fl [wdX5 kc n_o n_seenLeaf n_seenStep n_seenTaut n_planWhat n_planOf n_bookPerson n_bookPlace nseenCount nseenLeaf nseenStep nseenTaut (nplanCount + 1) (upd nplanWhat (nplanCount.toNatClampNeg) x1) (upd nplanOf (nplanCount.toNatClampNeg) x2) nbookCount nbookPerson nbookPlace]) H := hP
  have hD : va_D A (fl [wdX5 kc n_o n_seenLeaf n_seenStep n_seenTaut n_planWhat n_planOf n_bookPerson n_bookPlace nseenCount nseenLeaf nseenStep nseenTaut (nplanCount + 1) (upd nplanWhat (nplanCount.toNatClampNeg) x1) (upd nplanOf (nplanCount.toNatClampNeg) x2) nbookCount nbookPerson nbookPlace]) := hD
  refine lv_aload_n hx hb dX5_addPlan_30 rfl (lv_at hl 0 rfl) ?_
  refine va_get (D := (dC, dI)) (ci := 5) (v := .int (nplanCount + 1)) (C := RX5) (T := TX5) (N := 10) hx hb hts hinX5_addPlan_X5 hown hK hP 0 rfl rfl 4 (by decide) (hts _ (List.mem_of_getElem? (i := 2) rfl)) (fun _ h9 => h9) rfl dX5_addPlan_31 ?_
  cases hm
  exact k_iret hx hb hr hlocks hP hS dX5_addPlan_34
def fX5_addBook (nbookCount : Int32) (nbookPerson : Nat → Int32) (nbookPlace : Nat → Int32) (x1 : Int32) (x2 : Int32) : Option (Int32 × Int32 × (Nat → Int32) × (Nat → Int32)) := gd (inb nbookCount 8) (gd (inb nbookCount 8) (some (nbookCount + 1, nbookCount + 1, upd nbookPerson (nbookCount.toNatClampNeg) x1, upd nbookPlace (nbookCount.toNatClampNeg) x2)))
theorem hinX5_addBook_X5 : ∀ w ∈ u_ws RX5 TX5 10, w ∈ wsX5_addBook := fun _ h => List.mem_cons_of_mem _ (List.mem_append_right _ h)
abbrev rmX5_addBook : Room := { frames := 0, cells := 0, slots := 0, locals := 12 }
set_option maxHeartbeats 4000000 in
set_option maxRecDepth 100000 in
theorem ctX5_addBook {l : Launch} {dC : Nat → ClassId} {dI : Nat → Nat → Nat} {kc : Nat → ClassId} {n_o n_seenLeaf n_seenStep n_seenTaut n_planWhat n_planOf n_bookPerson n_bookPlace : Nat} {nseenCount : Int32} {nseenLeaf : Nat → Int32} {nseenStep : Nat → Int32} {nseenTaut : Nat → Int32} {nplanCount : Int32} {nplanWhat : Nat → Int32} {nplanOf : Nat → Int32} {nbookCount : Int32} {nbookPerson : Nat → Int32} {nbookPlace : Nat → Int32} {x1 : Int32} {x2 : Int32} {r : Int32} {nbookCount' : Int32} {nbookPerson' : Nat → Int32} {nbookPlace' : Nat → Int32} (hm : fX5_addBook nbookCount nbookPerson nbookPlace x1 x2 = some (r, nbookCount', nbookPerson', nbookPlace')) : ∀ sz : Nat, Met l yX5_addBook wsX5_addBook rmX5_addBook (kPc dC dI kc [.ref n_o, .int x1, .int x2] (fl [wdX5 kc n_o n_seenLeaf n_seenStep n_seenTaut n_planWhat n_planOf n_bookPerson n_bookPlace nseenCount nseenLeaf nseenStep nseenTaut nplanCount nplanWhat nplanOf nbookCount nbookPerson nbookPlace]) sz) (kQi dC dI r (fl [wdX5 kc n_o n_seenLeaf n_seenStep n_seenTaut n_planWhat n_planOf n_bookPerson n_bookPlace nseenCount nseenLeaf nseenStep nseenTaut nplanCount nplanWhat nplanOf nbookCount' nbookPerson' nbookPlace']) (va_A (fl [wdX5 kc n_o n_seenLeaf n_seenStep n_seenTaut n_planWhat n_planOf n_bookPerson n_bookPlace nseenCount nseenLeaf nseenStep nseenTaut nplanCount nplanWhat nplanOf nbookCount nbookPerson nbookPlace]) sz)) 0 0 (va_A (fl [wdX5 kc n_o n_seenLeaf n_seenStep n_seenTaut n_planWhat n_planOf n_bookPerson n_bookPlace nseenCount nseenLeaf nseenStep nseenTaut nplanCount nplanWhat nplanOf nbookCount nbookPerson nbookPlace]) sz) := by
  intro sz
  refine kMet (cc := cX5_addBook) (maxL := 3) (ret := (some .int)) (Qf := fun A => kQi dC dI r (fl [wdX5 kc n_o n_seenLeaf n_seenStep n_seenTaut n_planWhat n_planOf n_bookPerson n_bookPlace nseenCount nseenLeaf nseenStep nseenTaut nplanCount nplanWhat nplanOf nbookCount' nbookPerson' nbookPlace']) A) (by decide) rfl (Nat.le_of_ble_eq_true rfl) ?_
  intro p e s m below meth c A ls hx hb hr hml hts hown hlocks hname hsz hA hP hK hD hl
  have hS : va_S A s.heap s.heap [] := va_S.rf
  have hl : lv_has ls 3 [(0, .ref n_o), (1, .int x1), (2, .int x2)] := hl
  unfold fX5_addBook at hm
  refine lv_aload_n hx hb dX5_addBook_0 rfl (lv_at hl 0 rfl) ?_
  refine va_get (D := (dC, dI)) (ci := 5) (v := .ref n_bookPerson) (C := RX5) (T := TX5) (N := 10) hx hb hts hinX5_addBook_X5 hown hK hP 0 rfl rfl 8 (by decide) (hts _ (List.mem_of_getElem? (i := 1) rfl)) (fun _ h9 => h9) rfl dX5_addBook_1 ?_
  refine lv_aload_n hx hb dX5_addBook_4 rfl (lv_at hl 0 rfl) ?_
  refine va_get (D := (dC, dI)) (ci := 5) (v := .int nbookCount) (C := RX5) (T := TX5) (N := 10) hx hb hts hinX5_addBook_X5 hown hK hP 0 rfl rfl 7 (by decide) (hts _ (List.mem_of_getElem? (i := 2) rfl)) (fun _ h9 => h9) rfl dX5_addBook_5 ?_
  refine lv_iload_n hx hb dX5_addBook_8 rfl (lv_at hl 1 rfl) ?_
  obtain ⟨hg9, hm⟩ := gd_e hm
  refine k_iast (D := (dC, dI)) hx hb hK hP hD hS 6 1 rfl rfl (k := nbookCount.toNatClampNeg) rfl hg9 dX5_addBook_9 (fun H locs hP hD hS => ?_)
  have hP : va_P (dC, dI) vwCl (fl [wdX5 kc n_o n_seenLeaf n_seenStep n_seenTaut n_planWhat n_planOf n_bookPerson n_bookPlace nseenCount nseenLeaf nseenStep nseenTaut nplanCount nplanWhat nplanOf nbookCount (upd nbookPerson (nbookCount.toNatClampNeg) x1) nbookPlace]) H := hP
  have hD : va_D A (fl [wdX5 kc n_o n_seenLeaf n_seenStep n_seenTaut n_planWhat n_planOf n_bookPerson n_bookPlace nseenCount nseenLeaf nseenStep nseenTaut nplanCount nplanWhat nplanOf nbookCount (upd nbookPerson (nbookCount.toNatClampNeg) x1) nbookPlace]) := hD
  refine lv_aload_n hx hb dX5_addBook_10 rfl (lv_at hl 0 rfl) ?_
  refine va_get (D := (dC, dI)) (ci := 5) (v := .ref n_bookPlace) (C := RX5) (T := TX5) (N := 10) hx hb hts hinX5_addBook_X5 hown hK hP 0 rfl rfl 9 (by decide) (hts _ (List.mem_of_getElem? (i := 3) rfl)) (fun _ h9 => h9) rfl dX5_addBook_11 ?_
  refine lv_aload_n hx hb dX5_addBook_14 rfl (lv_at hl 0 rfl) ?_
  refine va_get (D := (dC, dI)) (ci := 5) (v := .int nbookCount) (C := RX5) (T := TX5) (N := 10) hx hb hts hinX5_addBook_X5 hown hK hP 0 rfl rfl 7 (by decide) (hts _ (List.mem_of_getElem? (i := 2) rfl)) (fun _ h9 => h9) rfl dX5_addBook_15 ?_
  refine lv_iload_n hx hb dX5_addBook_18 rfl (lv_at hl 2 rfl) ?_
  obtain ⟨hg19, hm⟩ := gd_e hm
  refine k_iast (D := (dC, dI)) hx hb hK hP hD hS 7 1 rfl rfl (k := nbookCount.toNatClampNeg) rfl hg19 dX5_addBook_19 (fun H locs hP hD hS => ?_)
  have hP : va_P (dC, dI) vwCl (fl [wdX5 kc n_o n_seenLeaf n_seenStep n_seenTaut n_planWhat n_planOf n_bookPerson n_bookPlace nseenCount nseenLeaf nseenStep nseenTaut nplanCount nplanWhat nplanOf nbookCount (upd nbookPerson (nbookCount.toNatClampNeg) x1) (upd nbookPlace (nbookCount.toNatClampNeg) x2)]) H := hP
  have hD : va_D A (fl [wdX5 kc n_o n_seenLeaf n_seenStep n_seenTaut n_planWhat n_planOf n_bookPerson n_bookPlace nseenCount nseenLeaf nseenStep nseenTaut nplanCount nplanWhat nplanOf nbookCount (upd nbookPerson (nbookCount.toNatClampNeg) x1) (upd nbookPlace (nbookCount.toNatClampNeg) x2)]) := hD
  refine lv_aload_n hx hb dX5_addBook_20 rfl (lv_at hl 0 rfl) ?_
  refine lv_dup hx hb dX5_addBook_21 rfl ?_
  refine va_get (D := (dC, dI)) (ci := 5) (v := .int nbookCount) (C := RX5) (T := TX5) (N := 10) hx hb hts hinX5_addBook_X5 hown hK hP 0 rfl rfl 7 (by decide) (hts _ (List.mem_of_getElem? (i := 2) rfl)) (fun _ h9 => h9) rfl dX5_addBook_22 ?_
  refine lv_iconst (v := 1) hx hb dX5_addBook_25 (by decide) ?_
  refine lv_iadd hx hb dX5_addBook_26 ?_
  refine va_put (D := (dC, dI)) (ci := 5) (v := .int (nbookCount + 1)) (ty := .int) (C := RX5) (T := TX5) (N := 10) hx hb hts hinX5_addBook_X5 tyX5 tyX5_ok nmX5 hown hK hP hD hS 0 rfl rfl 7 (by decide) (hts _ (List.mem_of_getElem? (i := 2) rfl)) (fun _ h9 => h9) rfl (by decide +kernel) rfl rfl (Nat.le_of_ble_eq_true rfl) dX5_addBook_27 (fun H locs hP hD hS => ?_)
  have hP : va_P (dC, dI) vwCl (fl [wdX5 kc n_o n_seenLeaf n_seenStep n_seenTaut n_planWhat n_planOf n_bookPerson n_bookPlace nseenCount nseenLeaf nseenStep nseenTaut nplanCount nplanWhat nplanOf (nbookCount + 1) (upd nbookPerson (nbookCount.toNatClampNeg) x1) (upd nbookPlace (nbookCount.toNatClampNeg) x2)]) H := hP
  have hD : va_D A (fl [wdX5 kc n_o n_seenLeaf n_seenStep n_seenTaut n_planWhat n_planOf n_bookPerson n_bookPlace nseenCount nseenLeaf nseenStep nseenTaut nplanCount nplanWhat nplanOf (nbookCount + 1) (upd nbookPerson (nbookCount.toNatClampNeg) x1) (upd nbookPlace (nbookCount.toNatClampNeg) x2)]) := hD
  refine lv_aload_n hx hb dX5_addBook_30 rfl (lv_at hl 0 rfl) ?_
  refine va_get (D := (dC, dI)) (ci := 5) (v := .int (nbookCount + 1)) (C := RX5) (T := TX5) (N := 10) hx hb hts hinX5_addBook_X5 hown hK hP 0 rfl rfl 7 (by decide) (hts _ (List.mem_of_getElem? (i := 2) rfl)) (fun _ h9 => h9) rfl dX5_addBook_31 ?_
  cases hm
  exact k_iret hx hb hr hlocks hP hS dX5_addBook_34
def LX5_lastSeenStep_4 (nseenCount : Int32) (nseenStep : Nat → Int32) : Nat → Int32 → Int32 → Option Int32
  | 0, _, _ => none
  | n4 + 1, l1_4, l2_4 => if nseenCount ≤ l2_4 then (some l1_4) else (gd (inb l2_4 5) (LX5_lastSeenStep_4 nseenCount nseenStep n4 (jmax l1_4 (nseenStep (l2_4.toNatClampNeg))) (l2_4 + 1)))
def fX5_lastSeenStep (fu : Nat) (nseenCount : Int32) (nseenStep : Nat → Int32) : Option Int32 := LX5_lastSeenStep_4 nseenCount nseenStep fu (-1) 0
theorem hinX5_lastSeenStep_X5 : ∀ w ∈ u_ws RX5 TX5 10, w ∈ wsX5_lastSeenStep := fun _ h => List.mem_cons_of_mem _ (List.mem_append_right _ h)
abbrev rmX5_lastSeenStep : Room := { frames := 1, cells := 0, slots := 0, locals := 13 }
set_option maxHeartbeats 4000000 in
set_option maxRecDepth 100000 in
theorem ctX5_lastSeenStep {l : Launch} {dC : Nat → ClassId} {dI : Nat → Nat → Nat} {kc : Nat → ClassId} {n_o n_seenLeaf n_seenStep n_seenTaut n_planWhat n_planOf n_bookPerson n_bookPlace : Nat} {nseenCount : Int32} {nseenLeaf : Nat → Int32} {nseenStep : Nat → Int32} {nseenTaut : Nat → Int32} {nplanCount : Int32} {nplanWhat : Nat → Int32} {nplanOf : Nat → Int32} {nbookCount : Int32} {nbookPerson : Nat → Int32} {nbookPlace : Nat → Int32} {fu : Nat} {r : Int32} (hm : fX5_lastSeenStep fu nseenCount nseenStep = some r) : ∀ sz : Nat, Met l yX5_lastSeenStep wsX5_lastSeenStep rmX5_lastSeenStep (kPc dC dI kc [.ref n_o] (fl [wdX5 kc n_o n_seenLeaf n_seenStep n_seenTaut n_planWhat n_planOf n_bookPerson n_bookPlace nseenCount nseenLeaf nseenStep nseenTaut nplanCount nplanWhat nplanOf nbookCount nbookPerson nbookPlace]) sz) (kQi dC dI r (fl [wdX5 kc n_o n_seenLeaf n_seenStep n_seenTaut n_planWhat n_planOf n_bookPerson n_bookPlace nseenCount nseenLeaf nseenStep nseenTaut nplanCount nplanWhat nplanOf nbookCount nbookPerson nbookPlace]) (va_A (fl [wdX5 kc n_o n_seenLeaf n_seenStep n_seenTaut n_planWhat n_planOf n_bookPerson n_bookPlace nseenCount nseenLeaf nseenStep nseenTaut nplanCount nplanWhat nplanOf nbookCount nbookPerson nbookPlace]) sz)) 0 0 (va_A (fl [wdX5 kc n_o n_seenLeaf n_seenStep n_seenTaut n_planWhat n_planOf n_bookPerson n_bookPlace nseenCount nseenLeaf nseenStep nseenTaut nplanCount nplanWhat nplanOf nbookCount nbookPerson nbookPlace]) sz) := by
  intro sz
  refine kMet (cc := cX5_lastSeenStep) (maxL := 3) (ret := (some .int)) (Qf := fun A => kQi dC dI r (fl [wdX5 kc n_o n_seenLeaf n_seenStep n_seenTaut n_planWhat n_planOf n_bookPerson n_bookPlace nseenCount nseenLeaf nseenStep nseenTaut nplanCount nplanWhat nplanOf nbookCount nbookPerson nbookPlace]) A) (by decide) rfl (Nat.le_of_ble_eq_true rfl) ?_
  intro p e s m below meth c A ls hx hb hr hml hts hown hlocks hname hsz hA hP hK hD hl
  have hS : va_S A s.heap s.heap [] := va_S.rf
  have hl : lv_has ls 3 [(0, .ref n_o)] := hl
  unfold fX5_lastSeenStep at hm
  refine lv_iconst (v := (-1)) hx hb dX5_lastSeenStep_0 (by decide) ?_
  refine lv_istore_n (lv' := [(1, .int (-1)), (0, .ref n_o)]) hx hb dX5_lastSeenStep_1 rfl hl (by decide) rfl (fun ls hl => ?_)
  refine lv_iconst (v := 0) hx hb dX5_lastSeenStep_2 (by decide) ?_
  refine lv_istore_n (lv' := [(2, .int 0), (1, .int (-1)), (0, .ref n_o)]) hx hb dX5_lastSeenStep_3 rfl hl (by decide) rfl (fun ls hl => ?_)
  have hL4 : ∀ (fn : Nat) (l1_4 : Int32) (l2_4 : Int32), LX5_lastSeenStep_4 nseenCount nseenStep fn l1_4 l2_4 = some r → ∀ (H : Heap) (locs : List Loc), va_P (dC, dI) vwCl (fl [wdX5 kc n_o n_seenLeaf n_seenStep n_seenTaut n_planWhat n_planOf n_bookPerson n_bookPlace nseenCount nseenLeaf nseenStep nseenTaut nplanCount nplanWhat nplanOf nbookCount nbookPerson nbookPlace]) H → va_D A (fl [wdX5 kc n_o n_seenLeaf n_seenStep n_seenTaut n_planWhat n_planOf n_bookPerson n_bookPlace nseenCount nseenLeaf nseenStep nseenTaut nplanCount nplanWhat nplanOf nbookCount nbookPerson nbookPlace]) → va_S A s.heap H locs → ∀ ls : Array Slot, lv_has ls 3 [(0, .ref n_o), (1, .int l1_4), (2, .int l2_4)] → W p l e (headSpec wsX5_lastSeenStep rmX5_lastSeenStep).room s m [.ref n_o].toArray below meth c H locs 0 0 (MQ below (kQi dC dI r (fl [wdX5 kc n_o n_seenLeaf n_seenStep n_seenTaut n_planWhat n_planOf n_bookPerson n_bookPlace nseenCount nseenLeaf nseenStep nseenTaut nplanCount nplanWhat nplanOf nbookCount nbookPerson nbookPlace]) A) [.ref n_o].toArray s 0 0 A) (F0 m 4 ls []) := by
    clear hm hP hD hS hl
    intro n4
    induction n4 with
    | zero => intro l1_4 l2_4 hm; rw [LX5_lastSeenStep_4] at hm; cases hm
    | succ n4 ih4 =>
      intro l1_4 l2_4 hm H locs hP hD hS ls hl
      rw [LX5_lastSeenStep_4] at hm
      refine lv_iload_n hx hb dX5_lastSeenStep_4 rfl (lv_at hl 2 rfl) ?_
      refine lv_aload_n hx hb dX5_lastSeenStep_5 rfl (lv_at hl 0 rfl) ?_
      refine va_get (D := (dC, dI)) (ci := 5) (v := .int nseenCount) (C := RX5) (T := TX5) (N := 10) hx hb hts hinX5_lastSeenStep_X5 hown hK hP 0 rfl rfl 0 (by decide) (hts _ (List.mem_of_getElem? (i := 1) rfl)) (fun _ h9 => h9) rfl dX5_lastSeenStep_6 ?_
      refine lv_icmp_ge (tgt := 29) hx hb dX5_lastSeenStep_9 (by decide) (fun c9 => ?_) (fun c9 => ?_)
      · replace hm := it_t c9 hm
        refine lv_iload_n hx hb dX5_lastSeenStep_29 rfl (lv_at hl 1 rfl) ?_
        cases hm
        exact k_iret hx hb hr hlocks hP hS dX5_lastSeenStep_30
      · replace hm := it_f c9 hm
        refine lv_iload_n hx hb dX5_lastSeenStep_12 rfl (lv_at hl 1 rfl) ?_
        refine lv_aload_n hx hb dX5_lastSeenStep_13 rfl (lv_at hl 0 rfl) ?_
        refine va_get (D := (dC, dI)) (ci := 5) (v := .ref n_seenStep) (C := RX5) (T := TX5) (N := 10) hx hb hts hinX5_lastSeenStep_X5 hown hK hP 0 rfl rfl 2 (by decide) (hts _ (List.mem_of_getElem? (i := 2) rfl)) (fun _ h9 => h9) rfl dX5_lastSeenStep_14 ?_
        refine lv_iload_n hx hb dX5_lastSeenStep_17 rfl (lv_at hl 2 rfl) ?_
        obtain ⟨hg18, hm⟩ := gd_e hm
        refine k_iald (D := (dC, dI)) hx hb hK hP 2 1 rfl rfl (k := l2_4.toNatClampNeg) rfl hg18 dX5_lastSeenStep_18 ?_
        refine va_mmax hx hb (hml.trans hl.1.symm) hown (hts _ (List.mem_of_getElem? (i := 3) rfl)) (hts _ (List.mem_of_getElem? (i := 4) rfl)) (hts _ (List.mem_of_getElem? (i := 5) rfl)) (hts _ (List.mem_of_getElem? (i := 6) rfl)) (Nat.le_of_ble_eq_true rfl) (Nat.le_of_ble_eq_true rfl) (Nat.zero_le _) (Nat.zero_le _) dX5_lastSeenStep_19 ?_
        refine lv_istore_n (lv' := [(1, .int (jmax l1_4 (nseenStep (l2_4.toNatClampNeg)))), (0, .ref n_o), (2, .int l2_4)]) hx hb dX5_lastSeenStep_22 rfl hl (by decide) rfl (fun ls hl => ?_)
        refine lv_iinc (v := l2_4 + 1) (lv' := [(2, .int (l2_4 + 1)), (1, .int (jmax l1_4 (nseenStep (l2_4.toNatClampNeg)))), (0, .ref n_o)]) hx hb dX5_lastSeenStep_23 hl (k := 2) rfl rfl (by decide) rfl (fun ls hl => ?_)
        refine lv_goto (tgt := 4) hx hb dX5_lastSeenStep_26 (by decide) ?_
        exact ih4 (jmax l1_4 (nseenStep (l2_4.toNatClampNeg))) (l2_4 + 1) hm _ _ hP hD hS _ (lv_sub hl [2, 1, 0] rfl)
  exact hL4 _ _ _ hm _ _ hP hD hS _ (lv_sub hl [2, 1, 0] rfl)
def LX5_isSeenSo_2 (nseenCount : Int32) (nseenLeaf : Nat → Int32) (nseenStep : Nat → Int32) (nseenTaut : Nat → Int32) (wplace : Nat → Int32) (wlength : Nat → Int32) (wfirst : Nat → Int32) (wsecond : Nat → Int32) (x2 : Int32) : Nat → Int32 → Option Int32
  | 0, _ => none
  | n2 + 1, l3_2 => if nseenCount ≤ l3_2 then (some (1 : Int32)) else (gd (inb l3_2 5) (if (nseenStep (l3_2.toNatClampNeg)) = x2 then (gd (inb l3_2 5) (bd1 (fX2_isTaut wplace wlength wfirst wsecond (nseenLeaf (l3_2.toNatClampNeg))) (fun r27 => gd (inb l3_2 5) (if r27 = (nseenTaut (l3_2.toNatClampNeg)) then (LX5_isSeenSo_2 nseenCount nseenLeaf nseenStep nseenTaut wplace wlength wfirst wsecond x2 n2 (l3_2 + 1)) else (some (0 : Int32)))))) else (LX5_isSeenSo_2 nseenCount nseenLeaf nseenStep nseenTaut wplace wlength wfirst wsecond x2 n2 (l3_2 + 1))))
def fX5_isSeenSo (fu : Nat) (nseenCount : Int32) (nseenLeaf : Nat → Int32) (nseenStep : Nat → Int32) (nseenTaut : Nat → Int32) (wplace : Nat → Int32) (wlength : Nat → Int32) (wfirst : Nat → Int32) (wsecond : Nat → Int32) (x2 : Int32) : Option Int32 := LX5_isSeenSo_2 nseenCount nseenLeaf nseenStep nseenTaut wplace wlength wfirst wsecond x2 fu 0
theorem hinX5_isSeenSo_X5 : ∀ w ∈ u_ws RX5 TX5 10, w ∈ wsX5_isSeenSo := fun _ h => List.mem_cons_of_mem _ (List.mem_append_left _ (List.mem_append_right _ h))
abbrev rmX5_isSeenSo : Room := { frames := 3, cells := 0, slots := 0, locals := 55 }
set_option maxHeartbeats 4000000 in
set_option maxRecDepth 100000 in
theorem ctX5_isSeenSo {l : Launch} {dC : Nat → ClassId} {dI : Nat → Nat → Nat} {kc : Nat → ClassId} {n_o n_seenLeaf n_seenStep n_seenTaut n_planWhat n_planOf n_bookPerson n_bookPlace w_o w_kind w_v w_place w_rows w_length w_first w_second w_drifts w_traits : Nat} {nseenCount : Int32} {nseenLeaf : Nat → Int32} {nseenStep : Nat → Int32} {nseenTaut : Nat → Int32} {nplanCount : Int32} {nplanWhat : Nat → Int32} {nplanOf : Nat → Int32} {nbookCount : Int32} {nbookPerson : Nat → Int32} {nbookPlace : Nat → Int32} {wpeople : Int32} {wkind : Nat → Int32} {wv : Nat → Int32} {wplace : Nat → Int32} {wrows : Nat → Int32} {wleaves : Int32} {wlength : Nat → Int32} {wfirst : Nat → Int32} {wsecond : Nat → Int32} {wdrops : Int32} {wstep : Int32} {wlibrary : Option Nat} {wdrifts : Nat → Int32} {wtraits : Nat → Int32} {x2 : Int32} {fu : Nat} {r : Int32} (hm : fX5_isSeenSo fu nseenCount nseenLeaf nseenStep nseenTaut wplace wlength wfirst wsecond x2 = some r) : ∀ sz : Nat, Met l yX5_isSeenSo wsX5_isSeenSo rmX5_isSeenSo (kPc dC dI kc [.ref n_o, .ref w_o, .int x2] (fl [wdX5 kc n_o n_seenLeaf n_seenStep n_seenTaut n_planWhat n_planOf n_bookPerson n_bookPlace nseenCount nseenLeaf nseenStep nseenTaut nplanCount nplanWhat nplanOf nbookCount nbookPerson nbookPlace, wdX2 kc w_o w_kind w_v w_place w_rows w_length w_first w_second w_drifts w_traits wpeople wkind wv wplace wrows wleaves wlength wfirst wsecond wdrops wstep wlibrary wdrifts wtraits]) sz) (kQi dC dI r (fl [wdX5 kc n_o n_seenLeaf n_seenStep n_seenTaut n_planWhat n_planOf n_bookPerson n_bookPlace nseenCount nseenLeaf nseenStep nseenTaut nplanCount nplanWhat nplanOf nbookCount nbookPerson nbookPlace, wdX2 kc w_o w_kind w_v w_place w_rows w_length w_first w_second w_drifts w_traits wpeople wkind wv wplace wrows wleaves wlength wfirst wsecond wdrops wstep wlibrary wdrifts wtraits]) (va_A (fl [wdX5 kc n_o n_seenLeaf n_seenStep n_seenTaut n_planWhat n_planOf n_bookPerson n_bookPlace nseenCount nseenLeaf nseenStep nseenTaut nplanCount nplanWhat nplanOf nbookCount nbookPerson nbookPlace, wdX2 kc w_o w_kind w_v w_place w_rows w_length w_first w_second w_drifts w_traits wpeople wkind wv wplace wrows wleaves wlength wfirst wsecond wdrops wstep wlibrary wdrifts wtraits]) sz)) 0 0 (va_A (fl [wdX5 kc n_o n_seenLeaf n_seenStep n_seenTaut n_planWhat n_planOf n_bookPerson n_bookPlace nseenCount nseenLeaf nseenStep nseenTaut nplanCount nplanWhat nplanOf nbookCount nbookPerson nbookPlace, wdX2 kc w_o w_kind w_v w_place w_rows w_length w_first w_second w_drifts w_traits wpeople wkind wv wplace wrows wleaves wlength wfirst wsecond wdrops wstep wlibrary wdrifts wtraits]) sz) := by
  intro sz
  refine kMet (cc := cX5_isSeenSo) (maxL := 4) (ret := (some .boolean)) (Qf := fun A => kQi dC dI r (fl [wdX5 kc n_o n_seenLeaf n_seenStep n_seenTaut n_planWhat n_planOf n_bookPerson n_bookPlace nseenCount nseenLeaf nseenStep nseenTaut nplanCount nplanWhat nplanOf nbookCount nbookPerson nbookPlace, wdX2 kc w_o w_kind w_v w_place w_rows w_length w_first w_second w_drifts w_traits wpeople wkind wv wplace wrows wleaves wlength wfirst wsecond wdrops wstep wlibrary wdrifts wtraits]) A) (by decide) rfl (Nat.le_of_ble_eq_true rfl) ?_
  intro p e s m below meth c A ls hx hb hr hml hts hown hlocks hname hsz hA hP hK hD hl
  have hS : va_S A s.heap s.heap [] := va_S.rf
  have hl : lv_has ls 4 [(0, .ref n_o), (1, .ref w_o), (2, .int x2)] := hl
  unfold fX5_isSeenSo at hm
  refine lv_iconst (v := 0) hx hb dX5_isSeenSo_0 (by decide) ?_
  refine lv_istore_n (lv' := [(3, .int 0), (0, .ref n_o), (1, .ref w_o), (2, .int x2)]) hx hb dX5_isSeenSo_1 rfl hl (by decide) rfl (fun ls hl => ?_)
  have hL2 : ∀ (fn : Nat) (l3_2 : Int32), LX5_isSeenSo_2 nseenCount nseenLeaf nseenStep nseenTaut wplace wlength wfirst wsecond x2 fn l3_2 = some r → ∀ (H : Heap) (locs : List Loc), va_P (dC, dI) vwCl (fl [wdX5 kc n_o n_seenLeaf n_seenStep n_seenTaut n_planWhat n_planOf n_bookPerson n_bookPlace nseenCount nseenLeaf nseenStep nseenTaut nplanCount nplanWhat nplanOf nbookCount nbookPerson nbookPlace, wdX2 kc w_o w_kind w_v w_place w_rows w_length w_first w_second w_drifts w_traits wpeople wkind wv wplace wrows wleaves wlength wfirst wsecond wdrops wstep wlibrary wdrifts wtraits]) H → va_D A (fl [wdX5 kc n_o n_seenLeaf n_seenStep n_seenTaut n_planWhat n_planOf n_bookPerson n_bookPlace nseenCount nseenLeaf nseenStep nseenTaut nplanCount nplanWhat nplanOf nbookCount nbookPerson nbookPlace, wdX2 kc w_o w_kind w_v w_place w_rows w_length w_first w_second w_drifts w_traits wpeople wkind wv wplace wrows wleaves wlength wfirst wsecond wdrops wstep wlibrary wdrifts wtraits]) → va_S A s.heap H locs → ∀ ls : Array Slot, lv_has ls 4 [(0, .ref n_o), (1, .ref w_o), (2, .int x2), (3, .int l3_2)] → W p l e (headSpec wsX5_isSeenSo rmX5_isSeenSo).room s m [.ref n_o, .ref w_o, .int x2].toArray below meth c H locs 0 0 (MQ below (kQi dC dI r (fl [wdX5 kc n_o n_seenLeaf n_seenStep n_seenTaut n_planWhat n_planOf n_bookPerson n_bookPlace nseenCount nseenLeaf nseenStep nseenTaut nplanCount nplanWhat nplanOf nbookCount nbookPerson nbookPlace, wdX2 kc w_o w_kind w_v w_place w_rows w_length w_first w_second w_drifts w_traits wpeople wkind wv wplace wrows wleaves wlength wfirst wsecond wdrops wstep wlibrary wdrifts wtraits]) A) [.ref n_o, .ref w_o, .int x2].toArray s 0 0 A) (F0 m 2 ls []) := by
    clear hm hP hD hS hl
    intro n2
    induction n2 with
    | zero => intro l3_2 hm; rw [LX5_isSeenSo_2] at hm; cases hm
    | succ n2 ih2 =>
      intro l3_2 hm H locs hP hD hS ls hl
      rw [LX5_isSeenSo_2] at hm
      refine lv_iload_n hx hb dX5_isSeenSo_2 rfl (lv_at hl 3 rfl) ?_
      refine lv_aload_n hx hb dX5_isSeenSo_3 rfl (lv_at hl 0 rfl) ?_
      refine va_get (D := (dC, dI)) (ci := 5) (v := .int nseenCount) (C := RX5) (T := TX5) (N := 10) hx hb hts hinX5_isSeenSo_X5 hown hK hP 0 rfl rfl 0 (by decide) (hts _ (List.mem_of_getElem? (i := 1) rfl)) (fun _ h9 => h9) rfl dX5_isSeenSo_4 ?_
      refine lv_icmp_ge (tgt := 47) hx hb dX5_isSeenSo_7 (by decide) (fun c7 => ?_) (fun c7 => ?_)
      · replace hm := it_t c7 hm
        refine lv_iconst (v := 1) hx hb dX5_isSeenSo_47 (by decide) ?_
        cases hm
        exact k_zret hx hb hr hlocks (by decide) hP hS dX5_isSeenSo_48
      · replace hm := it_f c7 hm
        refine lv_aload_n hx hb dX5_isSeenSo_10 rfl (lv_at hl 0 rfl) ?_
        refine va_get (D := (dC, dI)) (ci := 5) (v := .ref n_seenStep) (C := RX5) (T := TX5) (N := 10) hx hb hts hinX5_isSeenSo_X5 hown hK hP 0 rfl rfl 2 (by decide) (hts _ (List.mem_of_getElem? (i := 2) rfl)) (fun _ h9 => h9) rfl dX5_isSeenSo_11 ?_
        refine lv_iload_n hx hb dX5_isSeenSo_14 rfl (lv_at hl 3 rfl) ?_
        obtain ⟨hg15, hm⟩ := gd_e hm
        refine k_iald (D := (dC, dI)) hx hb hK hP 2 1 rfl rfl (k := l3_2.toNatClampNeg) rfl hg15 dX5_isSeenSo_15 ?_
        refine lv_iload_n hx hb dX5_isSeenSo_16 rfl (lv_at hl 2 rfl) ?_
        refine lv_icmp_ne (tgt := 41) hx hb dX5_isSeenSo_17 (by decide) (fun c17 => ?_) (fun c17 => ?_)
        · replace hm := it_f c17 hm
          refine lv_iinc (v := l3_2 + 1) (lv' := [(3, .int (l3_2 + 1)), (0, .ref n_o), (1, .ref w_o), (2, .int x2)]) hx hb dX5_isSeenSo_41 hl (k := 3) rfl rfl (by decide) rfl (fun ls hl => ?_)
          refine lv_goto (tgt := 2) hx hb dX5_isSeenSo_44 (by decide) ?_
          exact ih2 (l3_2 + 1) hm _ _ hP hD hS _ (lv_sub hl [1, 2, 3, 0] rfl)
        · replace hm := it_t c17 hm
          refine lv_aload_n hx hb dX5_isSeenSo_20 rfl (lv_at hl 1 rfl) ?_
          refine lv_aload_n hx hb dX5_isSeenSo_21 rfl (lv_at hl 0 rfl) ?_
          refine va_get (D := (dC, dI)) (ci := 5) (v := .ref n_seenLeaf) (C := RX5) (T := TX5) (N := 10) hx hb hts hinX5_isSeenSo_X5 hown hK hP 0 rfl rfl 1 (by decide) (hts _ (List.mem_of_getElem? (i := 3) rfl)) (fun _ h9 => h9) rfl dX5_isSeenSo_22 ?_
          refine lv_iload_n hx hb dX5_isSeenSo_25 rfl (lv_at hl 3 rfl) ?_
          obtain ⟨hg26, hm⟩ := gd_e hm
          refine k_iald (D := (dC, dI)) hx hb hK hP 1 1 rfl rfl (k := l3_2.toNatClampNeg) rfl hg26 dX5_isSeenSo_26 ?_
          obtain ⟨r27, hc27, hm⟩ := bd1_e hm
          refine k_callGVi (dC := dC) (dI := dI) (kc := kc) (As := [.int (nseenLeaf (l3_2.toNatClampNeg))]) (rest := []) (Gs' := [wdX5 kc n_o n_seenLeaf n_seenStep n_seenTaut n_planWhat n_planOf n_bookPerson n_bookPlace nseenCount nseenLeaf nseenStep nseenTaut nplanCount nplanWhat nplanOf nbookCount nbookPerson nbookPlace, wdX2 kc w_o w_kind w_v w_place w_rows w_length w_first w_second w_drifts w_traits wpeople wkind wv wplace wrows wleaves wlength wfirst wsecond wdrops wstep wlibrary wdrifts wtraits]) hx hb hml hown hts hK hP hD hS hA (ctX2_isTaut (w_o := w_o) (w_kind := w_kind) (w_v := w_v) (w_place := w_place) (w_rows := w_rows) (w_length := w_length) (w_first := w_first) (w_second := w_second) (w_drifts := w_drifts) (w_traits := w_traits) (wpeople := wpeople) (wkind := wkind) (wv := wv) (wplace := wplace) (wrows := wrows) (wleaves := wleaves) (wlength := wlength) (wfirst := wfirst) (wsecond := wsecond) (wdrops := wdrops) (wstep := wstep) (wlibrary := wlibrary) (wdrifts := wdrifts) (wtraits := wtraits) (x1 := nseenLeaf (l3_2.toNatClampNeg)) hc27) (cwV 1 hts gX5_isSeenSo_X2_isTaut rfl rfl rfl (by decide +kernel) ⟨Nat.le_of_ble_eq_true rfl, Nat.le_of_ble_eq_true rfl⟩) [1] rfl (by decide) 2 rfl rfl rfl rfl hl rfl (Nat.le_of_ble_eq_true rfl) dX5_isSeenSo_27 ⟨Nat.zero_le _, Nat.zero_le _⟩ rfl rfl rfl (fun H locs hP hD hS => ?_)
          refine lv_aload_n hx hb dX5_isSeenSo_30 rfl (lv_at hl 0 rfl) ?_
          refine va_get (D := (dC, dI)) (ci := 5) (v := .ref n_seenTaut) (C := RX5) (T := TX5) (N := 10) hx hb hts hinX5_isSeenSo_X5 hown hK hP 0 rfl rfl 3 (by decide) (hts _ (List.mem_of_getElem? (i := 4) rfl)) (fun _ h9 => h9) rfl dX5_isSeenSo_31 ?_
          refine lv_iload_n hx hb dX5_isSeenSo_34 rfl (lv_at hl 3 rfl) ?_
          obtain ⟨hg35, hm⟩ := gd_e hm
          refine k_zald (D := (dC, dI)) hx hb hK hP 3 3 rfl rfl (k := l3_2.toNatClampNeg) rfl hg35 dX5_isSeenSo_35 ?_
          refine lv_icmp_eq (tgt := 41) hx hb dX5_isSeenSo_36 (by decide) (fun c36 => ?_) (fun c36 => ?_)
          · replace hm := it_t c36 hm
            refine lv_iinc (v := l3_2 + 1) (lv' := [(3, .int (l3_2 + 1)), (0, .ref n_o), (1, .ref w_o), (2, .int x2)]) hx hb dX5_isSeenSo_41 hl (k := 3) rfl rfl (by decide) rfl (fun ls hl => ?_)
            refine lv_goto (tgt := 2) hx hb dX5_isSeenSo_44 (by decide) ?_
            exact ih2 (l3_2 + 1) hm _ _ hP hD hS _ (lv_sub hl [1, 2, 3, 0] rfl)
          · replace hm := it_f c36 hm
            refine lv_iconst (v := 0) hx hb dX5_isSeenSo_39 (by decide) ?_
            cases hm
            exact k_zret hx hb hr hlocks (by decide) hP hS dX5_isSeenSo_40
  exact hL2 _ _ hm _ _ hP hD hS _ (lv_sub hl [1, 2, 3, 0] rfl)
def LX5_firstOtherwise_2 (nbookCount : Int32) (nbookPerson : Nat → Int32) (nbookPlace : Nat → Int32) (wplace : Nat → Int32) : Nat → Int32 → Option Int32
  | 0, _ => none
  | n2 + 1, l2_2 => if nbookCount ≤ l2_2 then (some ((-5) : Int32)) else (gd (inb l2_2 8) (gd (inb (nbookPerson (l2_2.toNatClampNeg)) 6) (gd (inb l2_2 8) (if (wplace ((nbookPerson (l2_2.toNatClampNeg)).toNatClampNeg)) = (nbookPlace (l2_2.toNatClampNeg)) then (LX5_firstOtherwise_2 nbookCount nbookPerson nbookPlace wplace n2 (l2_2 + 1)) else (some l2_2)))))
def fX5_firstOtherwise (fu : Nat) (nbookCount : Int32) (nbookPerson : Nat → Int32) (nbookPlace : Nat → Int32) (wplace : Nat → Int32) : Option Int32 := LX5_firstOtherwise_2 nbookCount nbookPerson nbookPlace wplace fu 0
theorem hinX5_firstOtherwise_X2 : ∀ w ∈ u_ws RX2 TX2 14, w ∈ wsX5_firstOtherwise := fun _ h => List.mem_cons_of_mem _ (List.mem_append_right _ h)
theorem hinX5_firstOtherwise_X5 : ∀ w ∈ u_ws RX5 TX5 10, w ∈ wsX5_firstOtherwise := fun _ h => List.mem_cons_of_mem _ (List.mem_append_left _ (List.mem_append_right _ h))
abbrev rmX5_firstOtherwise : Room := { frames := 0, cells := 0, slots := 0, locals := 12 }
set_option maxHeartbeats 4000000 in
set_option maxRecDepth 100000 in
theorem ctX5_firstOtherwise {l : Launch} {dC : Nat → ClassId} {dI : Nat → Nat → Nat} {kc : Nat → ClassId} {n_o n_seenLeaf n_seenStep n_seenTaut n_planWhat n_planOf n_bookPerson n_bookPlace w_o w_kind w_v w_place w_rows w_length w_first w_second w_drifts w_traits : Nat} {nseenCount : Int32} {nseenLeaf : Nat → Int32} {nseenStep : Nat → Int32} {nseenTaut : Nat → Int32} {nplanCount : Int32} {nplanWhat : Nat → Int32} {nplanOf : Nat → Int32} {nbookCount : Int32} {nbookPerson : Nat → Int32} {nbookPlace : Nat → Int32} {wpeople : Int32} {wkind : Nat → Int32} {wv : Nat → Int32} {wplace : Nat → Int32} {wrows : Nat → Int32} {wleaves : Int32} {wlength : Nat → Int32} {wfirst : Nat → Int32} {wsecond : Nat → Int32} {wdrops : Int32} {wstep : Int32} {wlibrary : Option Nat} {wdrifts : Nat → Int32} {wtraits : Nat → Int32} {fu : Nat} {r : Int32} (hm : fX5_firstOtherwise fu nbookCount nbookPerson nbookPlace wplace = some r) : ∀ sz : Nat, Met l yX5_firstOtherwise wsX5_firstOtherwise rmX5_firstOtherwise (kPc dC dI kc [.ref n_o, .ref w_o] (fl [wdX5 kc n_o n_seenLeaf n_seenStep n_seenTaut n_planWhat n_planOf n_bookPerson n_bookPlace nseenCount nseenLeaf nseenStep nseenTaut nplanCount nplanWhat nplanOf nbookCount nbookPerson nbookPlace, wdX2 kc w_o w_kind w_v w_place w_rows w_length w_first w_second w_drifts w_traits wpeople wkind wv wplace wrows wleaves wlength wfirst wsecond wdrops wstep wlibrary wdrifts wtraits]) sz) (kQi dC dI r (fl [wdX5 kc n_o n_seenLeaf n_seenStep n_seenTaut n_planWhat n_planOf n_bookPerson n_bookPlace nseenCount nseenLeaf nseenStep nseenTaut nplanCount nplanWhat nplanOf nbookCount nbookPerson nbookPlace, wdX2 kc w_o w_kind w_v w_place w_rows w_length w_first w_second w_drifts w_traits wpeople wkind wv wplace wrows wleaves wlength wfirst wsecond wdrops wstep wlibrary wdrifts wtraits]) (va_A (fl [wdX5 kc n_o n_seenLeaf n_seenStep n_seenTaut n_planWhat n_planOf n_bookPerson n_bookPlace nseenCount nseenLeaf nseenStep nseenTaut nplanCount nplanWhat nplanOf nbookCount nbookPerson nbookPlace, wdX2 kc w_o w_kind w_v w_place w_rows w_length w_first w_second w_drifts w_traits wpeople wkind wv wplace wrows wleaves wlength wfirst wsecond wdrops wstep wlibrary wdrifts wtraits]) sz)) 0 0 (va_A (fl [wdX5 kc n_o n_seenLeaf n_seenStep n_seenTaut n_planWhat n_planOf n_bookPerson n_bookPlace nseenCount nseenLeaf nseenStep nseenTaut nplanCount nplanWhat nplanOf nbookCount nbookPerson nbookPlace, wdX2 kc w_o w_kind w_v w_place w_rows w_length w_first w_second w_drifts w_traits wpeople wkind wv wplace wrows wleaves wlength wfirst wsecond wdrops wstep wlibrary wdrifts wtraits]) sz) := by
  intro sz
  refine kMet (cc := cX5_firstOtherwise) (maxL := 3) (ret := (some .int)) (Qf := fun A => kQi dC dI r (fl [wdX5 kc n_o n_seenLeaf n_seenStep n_seenTaut n_planWhat n_planOf n_bookPerson n_bookPlace nseenCount nseenLeaf nseenStep nseenTaut nplanCount nplanWhat nplanOf nbookCount nbookPerson nbookPlace, wdX2 kc w_o w_kind w_v w_place w_rows w_length w_first w_second w_drifts w_traits wpeople wkind wv wplace wrows wleaves wlength wfirst wsecond wdrops wstep wlibrary wdrifts wtraits]) A) (by decide) rfl (Nat.le_of_ble_eq_true rfl) ?_
  intro p e s m below meth c A ls hx hb hr hml hts hown hlocks hname hsz hA hP hK hD hl
  have hS : va_S A s.heap s.heap [] := va_S.rf
  have hl : lv_has ls 3 [(0, .ref n_o), (1, .ref w_o)] := hl
  unfold fX5_firstOtherwise at hm
  refine lv_iconst (v := 0) hx hb dX5_firstOtherwise_0 (by decide) ?_
  refine lv_istore_n (lv' := [(2, .int 0), (0, .ref n_o), (1, .ref w_o)]) hx hb dX5_firstOtherwise_1 rfl hl (by decide) rfl (fun ls hl => ?_)
  have hL2 : ∀ (fn : Nat) (l2_2 : Int32), LX5_firstOtherwise_2 nbookCount nbookPerson nbookPlace wplace fn l2_2 = some r → ∀ (H : Heap) (locs : List Loc), va_P (dC, dI) vwCl (fl [wdX5 kc n_o n_seenLeaf n_seenStep n_seenTaut n_planWhat n_planOf n_bookPerson n_bookPlace nseenCount nseenLeaf nseenStep nseenTaut nplanCount nplanWhat nplanOf nbookCount nbookPerson nbookPlace, wdX2 kc w_o w_kind w_v w_place w_rows w_length w_first w_second w_drifts w_traits wpeople wkind wv wplace wrows wleaves wlength wfirst wsecond wdrops wstep wlibrary wdrifts wtraits]) H → va_D A (fl [wdX5 kc n_o n_seenLeaf n_seenStep n_seenTaut n_planWhat n_planOf n_bookPerson n_bookPlace nseenCount nseenLeaf nseenStep nseenTaut nplanCount nplanWhat nplanOf nbookCount nbookPerson nbookPlace, wdX2 kc w_o w_kind w_v w_place w_rows w_length w_first w_second w_drifts w_traits wpeople wkind wv wplace wrows wleaves wlength wfirst wsecond wdrops wstep wlibrary wdrifts wtraits]) → va_S A s.heap H locs → ∀ ls : Array Slot, lv_has ls 3 [(0, .ref n_o), (1, .ref w_o), (2, .int l2_2)] → W p l e (headSpec wsX5_firstOtherwise rmX5_firstOtherwise).room s m [.ref n_o, .ref w_o].toArray below meth c H locs 0 0 (MQ below (kQi dC dI r (fl [wdX5 kc n_o n_seenLeaf n_seenStep n_seenTaut n_planWhat n_planOf n_bookPerson n_bookPlace nseenCount nseenLeaf nseenStep nseenTaut nplanCount nplanWhat nplanOf nbookCount nbookPerson nbookPlace, wdX2 kc w_o w_kind w_v w_place w_rows w_length w_first w_second w_drifts w_traits wpeople wkind wv wplace wrows wleaves wlength wfirst wsecond wdrops wstep wlibrary wdrifts wtraits]) A) [.ref n_o, .ref w_o].toArray s 0 0 A) (F0 m 2 ls []) := by
    clear hm hP hD hS hl
    intro n2
    induction n2 with
    | zero => intro l2_2 hm; rw [LX5_firstOtherwise_2] at hm; cases hm
    | succ n2 ih2 =>
      intro l2_2 hm H locs hP hD hS ls hl
      rw [LX5_firstOtherwise_2] at hm
      refine lv_iload_n hx hb dX5_firstOtherwise_2 rfl (lv_at hl 2 rfl) ?_
      refine lv_aload_n hx hb dX5_firstOtherwise_3 rfl (lv_at hl 0 rfl) ?_
      refine va_get (D := (dC, dI)) (ci := 5) (v := .int nbookCount) (C := RX5) (T := TX5) (N := 10) hx hb hts hinX5_firstOtherwise_X5 hown hK hP 0 rfl rfl 7 (by decide) (hts _ (List.mem_of_getElem? (i := 1) rfl)) (fun _ h9 => h9) rfl dX5_firstOtherwise_4 ?_
      refine lv_icmp_ge (tgt := 38) hx hb dX5_firstOtherwise_7 (by decide) (fun c7 => ?_) (fun c7 => ?_)
      · replace hm := it_t c7 hm
        refine lv_bipush (v := (-5)) hx hb dX5_firstOtherwise_38 (by decide) ?_
        cases hm
        exact k_iret hx hb hr hlocks hP hS dX5_firstOtherwise_40
      · replace hm := it_f c7 hm
        refine lv_aload_n hx hb dX5_firstOtherwise_10 rfl (lv_at hl 1 rfl) ?_
        refine va_get (D := (dC, dI)) (ci := 2) (v := .ref w_place) (C := RX2) (T := TX2) (N := 14) hx hb hts hinX5_firstOtherwise_X2 hown hK hP 8 rfl rfl 3 (by decide) (hts _ (List.mem_of_getElem? (i := 2) rfl)) (fun _ h9 => h9) rfl dX5_firstOtherwise_11 ?_
        refine lv_aload_n hx hb dX5_firstOtherwise_14 rfl (lv_at hl 0 rfl) ?_
        refine va_get (D := (dC, dI)) (ci := 5) (v := .ref n_bookPerson) (C := RX5) (T := TX5) (N := 10) hx hb hts hinX5_firstOtherwise_X5 hown hK hP 0 rfl rfl 8 (by decide) (hts _ (List.mem_of_getElem? (i := 3) rfl)) (fun _ h9 => h9) rfl dX5_firstOtherwise_15 ?_
        refine lv_iload_n hx hb dX5_firstOtherwise_18 rfl (lv_at hl 2 rfl) ?_
        obtain ⟨hg19, hm⟩ := gd_e hm
        refine k_iald (D := (dC, dI)) hx hb hK hP 6 1 rfl rfl (k := l2_2.toNatClampNeg) rfl hg19 dX5_firstOtherwise_19 ?_
        obtain ⟨hg20, hm⟩ := gd_e hm
        refine k_iald (D := (dC, dI)) hx hb hK hP 11 1 rfl rfl (k := (nbookPerson (l2_2.toNatClampNeg)).toNatClampNeg) rfl hg20 dX5_firstOtherwise_20 ?_
        refine lv_aload_n hx hb dX5_firstOtherwise_21 rfl (lv_at hl 0 rfl) ?_
        refine va_get (D := (dC, dI)) (ci := 5) (v := .ref n_bookPlace) (C := RX5) (T := TX5) (N := 10) hx hb hts hinX5_firstOtherwise_X5 hown hK hP 0 rfl rfl 9 (by decide) (hts _ (List.mem_of_getElem? (i := 4) rfl)) (fun _ h9 => h9) rfl dX5_firstOtherwise_22 ?_
        refine lv_iload_n hx hb dX5_firstOtherwise_25 rfl (lv_at hl 2 rfl) ?_
        obtain ⟨hg26, hm⟩ := gd_e hm
        refine k_iald (D := (dC, dI)) hx hb hK hP 7 1 rfl rfl (k := l2_2.toNatClampNeg) rfl hg26 dX5_firstOtherwise_26 ?_
        refine lv_icmp_eq (tgt := 32) hx hb dX5_firstOtherwise_27 (by decide) (fun c27 => ?_) (fun c27 => ?_)
        · replace hm := it_t c27 hm
          refine lv_iinc (v := l2_2 + 1) (lv' := [(2, .int (l2_2 + 1)), (0, .ref n_o), (1, .ref w_o)]) hx hb dX5_firstOtherwise_32 hl (k := 2) rfl rfl (by decide) rfl (fun ls hl => ?_)
          refine lv_goto (tgt := 2) hx hb dX5_firstOtherwise_35 (by decide) ?_
          exact ih2 (l2_2 + 1) hm _ _ hP hD hS _ (lv_sub hl [1, 2, 0] rfl)
        · replace hm := it_f c27 hm
          refine lv_iload_n hx hb dX5_firstOtherwise_30 rfl (lv_at hl 2 rfl) ?_
          cases hm
          exact k_iret hx hb hr hlocks hP hS dX5_firstOtherwise_31
  exact hL2 _ _ hm _ _ hP hD hS _ (lv_sub hl [1, 2, 0] rfl)
