def fX7_shiftB (zarr : Nat → Option Nat) (usort : Int32) (usize : Int32) (uitems : Nat → Int64) (x1 : Int32) (x2 : Int32) (x3 : Int32) (x4 : Int32) (x5 : Int32) : Option (Int32 × (Nat → Int64)) := bd1 (fX7_isTape x1) (fun r1 => if r1 = 0 then (some (((-1) : Int32), uitems)) else (bd1 (fX7_isTape x3) (fun r8 => if r8 = 0 then (some (((-1) : Int32), uitems)) else (gd (inb x1 6) (gd (inb x3 6) (if usort = (-1) then (some (((-11) : Int32), uitems)) else (if usort = (-1) then (some (((-11) : Int32), uitems)) else (if usort = usort then (if x5 < 0 then (some (((-13) : Int32), uitems)) else (bd1 (fX6_hasRoom usize x2 x5) (fun r79 => if r79 = 0 then (some (((-13) : Int32), uitems)) else (bd1 (fX6_hasRoom usize x4 x5) (fun r91 => if r91 = 0 then (some (((-13) : Int32), uitems)) else (gd (¬ x2 < 0 ∧ ¬ x4 < 0 ∧ ¬ x5 < 0 ∧ x2.toNatClampNeg + x5.toNatClampNeg ≤ 60 ∧ x4.toNatClampNeg + x5.toNatClampNeg ≤ 60) (some (x5, va_cpy uitems uitems x2.toNatClampNeg x4.toNatClampNeg x5.toNatClampNeg)))))))) else (some (((-12) : Int32), uitems))))))))))
theorem hinX7_shiftB_X6 : ∀ w ∈ u_ws RX6 TX6 3, w ∈ wsX7_shift := fun _ h => List.mem_cons_of_mem _ (List.mem_append_right _ h)
theorem hinX7_shiftB_X7 : ∀ w ∈ u_ws RX7 TX7 11, w ∈ wsX7_shift := fun _ h => List.mem_cons_of_mem _ (List.mem_append_left _ (List.mem_append_right _ h))
abbrev rmX7_shiftB : Room := { frames := 2, cells := 0, slots := 0, locals := 53 }
set_option maxHeartbeats 4000000 in
set_option maxRecDepth 100000 in
theorem ctX7_shiftB {l : Launch} {dC : Nat → ClassId} {dI : Nat → Nat → Nat} {kc : Nat → ClassId} {o_o z_o u_o u_items o_x_now o_x_imageHall o_x_ahead o_x_notes o_x_imageNotes o_x_libraries o_x_reader o_x_acts : Nat} {ohasImage : Int32} {olibraryCount : Int32} {zarr : Nat → Option Nat} {usort : Int32} {usize : Int32} {uitems : Nat → Int64} {x1 : Int32} {x2 : Int32} {x3 : Int32} {x4 : Int32} {x5 : Int32} {r : Int32} {uitems' : Nat → Int64} (hm : fX7_shiftB zarr usort usize uitems x1 x2 x3 x4 x5 = some (r, uitems')) (hq_u_0 : zarr x1.toNatClampNeg = some u_o) (hq_u_1 : zarr x3.toNatClampNeg = some u_o) : ∀ sz : Nat, Met l yX7_shift wsX7_shift rmX7_shiftB (kPc dC dI kc [.ref o_o, .int x1, .int x2, .int x3, .int x4, .int x5] (fl [wdX7 kc o_o o_x_now o_x_imageHall o_x_ahead o_x_notes o_x_imageNotes o_x_libraries o_x_reader o_x_acts z_o ohasImage olibraryCount, wdQT kc z_o zarr, wdX6 kc u_o u_items usort usize uitems]) sz) (kQi dC dI r (fl [wdX7 kc o_o o_x_now o_x_imageHall o_x_ahead o_x_notes o_x_imageNotes o_x_libraries o_x_reader o_x_acts z_o ohasImage olibraryCount, wdQT kc z_o zarr, wdX6 kc u_o u_items usort usize uitems']) (va_A (fl [wdX7 kc o_o o_x_now o_x_imageHall o_x_ahead o_x_notes o_x_imageNotes o_x_libraries o_x_reader o_x_acts z_o ohasImage olibraryCount, wdQT kc z_o zarr, wdX6 kc u_o u_items usort usize uitems]) sz)) 0 0 (va_A (fl [wdX7 kc o_o o_x_now o_x_imageHall o_x_ahead o_x_notes o_x_imageNotes o_x_libraries o_x_reader o_x_acts z_o ohasImage olibraryCount, wdQT kc z_o zarr, wdX6 kc u_o u_items usort usize uitems]) sz) := by
  intro sz
  refine kMet (cc := cX7_shift) (maxL := 8) (ret := (some .int)) (Qf := fun A => kQi dC dI r (fl [wdX7 kc o_o o_x_now o_x_imageHall o_x_ahead o_x_notes o_x_imageNotes o_x_libraries o_x_reader o_x_acts z_o ohasImage olibraryCount, wdQT kc z_o zarr, wdX6 kc u_o u_items usort usize uitems']) A) (by decide) rfl (Nat.le_of_ble_eq_true rfl) ?_
  intro p e s m below meth c A ls hx hb hr hml hts hown hlocks hname hsz hA hP hK hD hl
  have hS : va_S A s.heap s.heap [] := va_S.rf
  have hl : lv_has ls 8 [(0, .ref o_o), (1, .int x1), (2, .int x2), (3, .int x3), (4, .int x4), (5, .int x5)] := hl
  unfold fX7_shiftB at hm
  refine lv_iload_n hx hb dX7_shift_0 rfl (lv_at hl 1 rfl) ?_
  obtain ⟨r1, hc1, hm⟩ := bd1_e hm
  refine k_callGSi (dC := dC) (dI := dI) (kc := kc) (As := [.int x1]) (rest := []) (Gs' := [wdX7 kc o_o o_x_now o_x_imageHall o_x_ahead o_x_notes o_x_imageNotes o_x_libraries o_x_reader o_x_acts z_o ohasImage olibraryCount, wdQT kc z_o zarr, wdX6 kc u_o u_items usort usize uitems]) hx hb hml hown hts hK hP hD hS hA (ctX7_isTape (x1 := x1) hc1) (va_cwS 1 hts gX7_shift_X7_isTape rfl rfl rfl (by decide +kernel) ⟨Nat.le_of_ble_eq_true rfl, Nat.le_of_ble_eq_true rfl⟩) [] rfl (by decide) rfl hl rfl (Nat.le_of_ble_eq_true rfl) dX7_shift_1 ⟨Nat.zero_le _, Nat.zero_le _⟩ rfl rfl rfl (fun H locs hP hD hS => ?_)
  refine lv_if_eq (tgt := 14) hx hb dX7_shift_4 (by decide) (fun c4 => ?_) (fun c4 => ?_)
  · replace hm := it_t c4 hm
    refine lv_iconst (v := (-1)) hx hb dX7_shift_14 (by decide) ?_
    cases hm
    exact k_iret hx hb hr hlocks hP hS dX7_shift_15
  · replace hm := it_f c4 hm
    refine lv_iload_n hx hb dX7_shift_7 rfl (lv_at hl 3 rfl) ?_
    obtain ⟨r8, hc8, hm⟩ := bd1_e hm
    refine k_callGSi (dC := dC) (dI := dI) (kc := kc) (As := [.int x3]) (rest := []) (Gs' := [wdX7 kc o_o o_x_now o_x_imageHall o_x_ahead o_x_notes o_x_imageNotes o_x_libraries o_x_reader o_x_acts z_o ohasImage olibraryCount, wdQT kc z_o zarr, wdX6 kc u_o u_items usort usize uitems]) hx hb hml hown hts hK hP hD hS hA (ctX7_isTape (x1 := x3) hc8) (va_cwS 1 hts gX7_shift_X7_isTape rfl rfl rfl (by decide +kernel) ⟨Nat.le_of_ble_eq_true rfl, Nat.le_of_ble_eq_true rfl⟩) [] rfl (by decide) rfl hl rfl (Nat.le_of_ble_eq_true rfl) dX7_shift_8 ⟨Nat.zero_le _, Nat.zero_le _⟩ rfl rfl rfl (fun H locs hP hD hS => ?_)
    refine lv_if_ne (tgt := 16) hx hb dX7_shift_11 (by decide) (fun c11 => ?_) (fun c11 => ?_)
    · replace hm := it_f c11 hm
      refine lv_aload_n hx hb dX7_shift_16 rfl (lv_at hl 0 rfl) ?_
      refine va_get (D := (dC, dI)) (ci := 7) (v := .ref z_o) (C := RX7) (T := TX7) (N := 11) hx hb hts hinX7_shiftB_X7 hown hK hP 0 rfl rfl 10 (by decide) (hts _ (List.mem_of_getElem? (i := 1) rfl)) (fun _ h9 => h9) rfl dX7_shift_17 ?_
      refine lv_iload_n hx hb dX7_shift_20 rfl (lv_at hl 1 rfl) ?_
      obtain ⟨hg21, hm⟩ := gd_e hm
      refine k_aald (D := (dC, dI)) hx hb hK hP 1 5 rfl rfl (k := x1.toNatClampNeg) rfl hg21 hq_u_0 dX7_shift_21 ?_
      refine lv_astore (lv' := [(6, .ref u_o), (0, .ref o_o), (1, .int x1), (2, .int x2), (3, .int x3), (4, .int x4), (5, .int x5)]) hx hb dX7_shift_22 hl (by decide) rfl (fun ls hl => ?_)
      refine lv_aload_n hx hb dX7_shift_24 rfl (lv_at hl 1 rfl) ?_
      refine va_get (D := (dC, dI)) (ci := 7) (v := .ref z_o) (C := RX7) (T := TX7) (N := 11) hx hb hts hinX7_shiftB_X7 hown hK hP 0 rfl rfl 10 (by decide) (hts _ (List.mem_of_getElem? (i := 1) rfl)) (fun _ h9 => h9) rfl dX7_shift_25 ?_
      refine lv_iload_n hx hb dX7_shift_28 rfl (lv_at hl 4 rfl) ?_
      obtain ⟨hg29, hm⟩ := gd_e hm
      refine k_aald (D := (dC, dI)) hx hb hK hP 1 5 rfl rfl (k := x3.toNatClampNeg) rfl hg29 hq_u_1 dX7_shift_29 ?_
      refine lv_astore (lv' := [(7, .ref u_o), (6, .ref u_o), (0, .ref o_o), (1, .int x1), (2, .int x2), (3, .int x3), (4, .int x4), (5, .int x5)]) hx hb dX7_shift_30 hl (by decide) rfl (fun ls hl => ?_)
      refine lv_aload hx hb dX7_shift_32 (lv_at hl 1 rfl) ?_
      refine va_get (D := (dC, dI)) (ci := 6) (v := .int usort) (C := RX6) (T := TX6) (N := 3) hx hb hts hinX7_shiftB_X6 hown hK hP 2 rfl rfl 0 (by decide) (hts _ (List.mem_of_getElem? (i := 2) rfl)) (fun _ h9 => h9) rfl dX7_shift_34 ?_
      refine lv_iconst (v := (-1)) hx hb dX7_shift_37 (by decide) ?_
      refine lv_icmp_eq (tgt := 50) hx hb dX7_shift_38 (by decide) (fun c38 => ?_) (fun c38 => ?_)
      · replace hm := it_t c38 hm
        refine lv_bipush (v := (-11)) hx hb dX7_shift_50 (by decide) ?_
        cases hm
        exact k_iret hx hb hr hlocks hP hS dX7_shift_52
      · replace hm := it_f c38 hm
        refine lv_aload hx hb dX7_shift_41 (lv_at hl 0 rfl) ?_
        refine va_get (D := (dC, dI)) (ci := 6) (v := .int usort) (C := RX6) (T := TX6) (N := 3) hx hb hts hinX7_shiftB_X6 hown hK hP 2 rfl rfl 0 (by decide) (hts _ (List.mem_of_getElem? (i := 2) rfl)) (fun _ h9 => h9) rfl dX7_shift_43 ?_
        refine lv_iconst (v := (-1)) hx hb dX7_shift_46 (by decide) ?_
        refine lv_icmp_ne (tgt := 53) hx hb dX7_shift_47 (by decide) (fun c47 => ?_) (fun c47 => ?_)
        · replace hm := it_f c47 hm
          refine lv_aload hx hb dX7_shift_53 (lv_at hl 1 rfl) ?_
          refine va_get (D := (dC, dI)) (ci := 6) (v := .int usort) (C := RX6) (T := TX6) (N := 3) hx hb hts hinX7_shiftB_X6 hown hK hP 2 rfl rfl 0 (by decide) (hts _ (List.mem_of_getElem? (i := 2) rfl)) (fun _ h9 => h9) rfl dX7_shift_55 ?_
          refine lv_aload hx hb dX7_shift_58 (lv_at hl 0 rfl) ?_
          refine va_get (D := (dC, dI)) (ci := 6) (v := .int usort) (C := RX6) (T := TX6) (N := 3) hx hb hts hinX7_shiftB_X6 hown hK hP 2 rfl rfl 0 (by decide) (hts _ (List.mem_of_getElem? (i := 2) rfl)) (fun _ h9 => h9) rfl dX7_shift_60 ?_
          refine lv_icmp_eq (tgt := 69) hx hb dX7_shift_63 (by decide) (fun c63 => ?_) (fun c63 => ?_)
          · replace hm := it_t c63 hm
            refine lv_iload hx hb dX7_shift_69 (lv_at hl 7 rfl) ?_
            refine lv_if_lt (tgt := 97) hx hb dX7_shift_71 (by decide) (fun c71 => ?_) (fun c71 => ?_)
            · replace hm := it_t c71 hm
              refine lv_bipush (v := (-13)) hx hb dX7_shift_97 (by decide) ?_
              cases hm
              exact k_iret hx hb hr hlocks hP hS dX7_shift_99
            · replace hm := it_f c71 hm
              refine lv_aload hx hb dX7_shift_74 (lv_at hl 1 rfl) ?_
              refine lv_iload_n hx hb dX7_shift_76 rfl (lv_at hl 4 rfl) ?_
              refine lv_iload hx hb dX7_shift_77 (lv_at hl 7 rfl) ?_
              obtain ⟨r79, hc79, hm⟩ := bd1_e hm
              refine k_callGVi (dC := dC) (dI := dI) (kc := kc) (As := [.int x2, .int x5]) (rest := []) (Gs' := [wdX7 kc o_o o_x_now o_x_imageHall o_x_ahead o_x_notes o_x_imageNotes o_x_libraries o_x_reader o_x_acts z_o ohasImage olibraryCount, wdQT kc z_o zarr, wdX6 kc u_o u_items usort usize uitems]) hx hb hml hown hts hK hP hD hS hA (ctX6_hasRoom (u_o := u_o) (u_items := u_items) (usort := usort) (usize := usize) (uitems := uitems) (x1 := x2) (x2 := x5) hc79) (cwV 2 hts gX7_shift_X6_hasRoom rfl rfl rfl (by decide +kernel) ⟨Nat.le_of_ble_eq_true rfl, Nat.le_of_ble_eq_true rfl⟩) [2] rfl (by decide) 6 rfl rfl rfl rfl hl rfl (Nat.le_of_ble_eq_true rfl) dX7_shift_79 ⟨Nat.zero_le _, Nat.zero_le _⟩ rfl rfl rfl (fun H locs hP hD hS => ?_)
              refine lv_if_eq (tgt := 97) hx hb dX7_shift_82 (by decide) (fun c82 => ?_) (fun c82 => ?_)
              · replace hm := it_t c82 hm
                refine lv_bipush (v := (-13)) hx hb dX7_shift_97 (by decide) ?_
                cases hm
                exact k_iret hx hb hr hlocks hP hS dX7_shift_99
              · replace hm := it_f c82 hm
                refine lv_aload hx hb dX7_shift_85 (lv_at hl 0 rfl) ?_
                refine lv_iload hx hb dX7_shift_87 (lv_at hl 6 rfl) ?_
                refine lv_iload hx hb dX7_shift_89 (lv_at hl 7 rfl) ?_
                obtain ⟨r91, hc91, hm⟩ := bd1_e hm
                refine k_callGVi (dC := dC) (dI := dI) (kc := kc) (As := [.int x4, .int x5]) (rest := []) (Gs' := [wdX7 kc o_o o_x_now o_x_imageHall o_x_ahead o_x_notes o_x_imageNotes o_x_libraries o_x_reader o_x_acts z_o ohasImage olibraryCount, wdQT kc z_o zarr, wdX6 kc u_o u_items usort usize uitems]) hx hb hml hown hts hK hP hD hS hA (ctX6_hasRoom (u_o := u_o) (u_items := u_items) (usort := usort) (usize := usize) (uitems := uitems) (x1 := x4) (x2 := x5) hc91) (cwV 2 hts gX7_shift_X6_hasRoom rfl rfl rfl (by decide +kernel) ⟨Nat.le_of_ble_eq_true rfl, Nat.le_of_ble_eq_true rfl⟩) [2] rfl (by decide) 6 rfl rfl rfl rfl hl rfl (Nat.le_of_ble_eq_true rfl) dX7_shift_91 ⟨Nat.zero_le _, Nat.zero_le _⟩ rfl rfl rfl (fun H locs hP hD hS => ?_)
                refine lv_if_ne (tgt := 100) hx hb dX7_shift_94 (by decide) (fun c94 => ?_) (fun c94 => ?_)
                · replace hm := it_f c94 hm
                  refine lv_aload hx hb dX7_shift_100 (lv_at hl 1 rfl) ?_
                  refine va_get (D := (dC, dI)) (ci := 6) (v := .ref u_items) (C := RX6) (T := TX6) (N := 3) hx hb hts hinX7_shiftB_X6 hown hK hP 2 rfl rfl 2 (by decide) (hts _ (List.mem_of_getElem? (i := 3) rfl)) (fun _ h9 => h9) rfl dX7_shift_102 ?_
                  refine lv_iload_n hx hb dX7_shift_105 rfl (lv_at hl 4 rfl) ?_
                  refine lv_aload hx hb dX7_shift_106 (lv_at hl 0 rfl) ?_
                  refine va_get (D := (dC, dI)) (ci := 6) (v := .ref u_items) (C := RX6) (T := TX6) (N := 3) hx hb hts hinX7_shiftB_X6 hown hK hP 2 rfl rfl 2 (by decide) (hts _ (List.mem_of_getElem? (i := 3) rfl)) (fun _ h9 => h9) rfl dX7_shift_108 ?_
                  refine lv_iload hx hb dX7_shift_111 (lv_at hl 6 rfl) ?_
                  refine lv_iload hx hb dX7_shift_113 (lv_at hl 7 rfl) ?_
                  obtain ⟨⟨hga115, hgb115, hgc115, hgd115, hge115⟩, hm⟩ := gd_e hm
                  refine va_copyl (D := (dC, dI)) hx hb (hml.trans hl.1.symm) hown (hts _ (List.mem_of_getElem? (i := 4) rfl)) (hts _ (List.mem_of_getElem? (i := 5) rfl)) (hts _ (List.mem_of_getElem? (i := 6) rfl)) (hts _ (List.mem_of_getElem? (i := 7) rfl)) hK hP hD hS 3 3 2 2 rfl rfl rfl rfl rfl hga115 hgb115 hgc115 hgd115 hge115 (fun _ _ => rfl) (Nat.le_of_ble_eq_true rfl) (Nat.le_of_ble_eq_true rfl) dX7_shift_115 (fun H locs hP hD hS => ?_)
                  have hP : va_P (dC, dI) vwCl (fl [wdX7 kc o_o o_x_now o_x_imageHall o_x_ahead o_x_notes o_x_imageNotes o_x_libraries o_x_reader o_x_acts z_o ohasImage olibraryCount, wdQT kc z_o zarr, wdX6 kc u_o u_items usort usize (va_cpy uitems uitems x2.toNatClampNeg x4.toNatClampNeg x5.toNatClampNeg)]) H := hP
                  have hD : va_D A (fl [wdX7 kc o_o o_x_now o_x_imageHall o_x_ahead o_x_notes o_x_imageNotes o_x_libraries o_x_reader o_x_acts z_o ohasImage olibraryCount, wdQT kc z_o zarr, wdX6 kc u_o u_items usort usize (va_cpy uitems uitems x2.toNatClampNeg x4.toNatClampNeg x5.toNatClampNeg)]) := hD
                  refine lv_iload hx hb dX7_shift_118 (lv_at hl 7 rfl) ?_
                  cases hm
                  exact k_iret hx hb hr hlocks hP hS dX7_shift_120
                · replace hm := it_t c94 hm
                  refine lv_bipush (v := (-13)) hx hb dX7_shift_97 (by decide) ?_
                  cases hm
                  exact k_iret hx hb hr hlocks hP hS dX7_shift_99
          · replace hm := it_f c63 hm
            refine lv_bipush (v := (-12)) hx hb dX7_shift_66 (by decide) ?_
            cases hm
            exact k_iret hx hb hr hlocks hP hS dX7_shift_68
        · replace hm := it_t c47 hm
          refine lv_bipush (v := (-11)) hx hb dX7_shift_50 (by decide) ?_
          cases hm
          exact k_iret hx hb hr hlocks hP hS dX7_shift_52
    · replace hm := it_t c11 hm
      refine lv_iconst (v := (-1)) hx hb dX7_shift_14 (by decide) ?_
      cases hm
      exact k_iret hx hb hr hlocks hP hS dX7_shift_15
