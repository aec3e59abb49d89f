def LX7_judged_2 (wpeople : Int32) (wplace : Nat → Int32) (usize : Int32) (uitems : Nat → Int64) (x2 : Int32) : Nat → Int32 → Option Int32
  | 0, _ => none
  | n2 + 1, l3_2 => if wpeople ≤ l3_2 then (some ((-5) : Int32)) else (if x2 < 0 then (some (100 + l3_2)) else (if x2 < (usize - l3_2) then (gd (inb (x2 + l3_2) 60) (gd (inb l3_2 6) (if (lg_cmp (uitems ((x2 + l3_2).toNatClampNeg)) ((wplace (l3_2.toNatClampNeg)).toInt64)) = 0 then (LX7_judged_2 wpeople wplace usize uitems x2 n2 (l3_2 + 1)) else (some l3_2)))) else (some (100 + l3_2))))
def fX7_judged (fu : Nat) (wpeople : Int32) (wplace : Nat → Int32) (usize : Int32) (uitems : Nat → Int64) (x2 : Int32) : Option Int32 := LX7_judged_2 wpeople wplace usize uitems x2 fu 0
theorem hinX7_judged_X2 : ∀ w ∈ u_ws RX2 TX2 14, w ∈ wsX7_judged := fun _ h => List.mem_cons_of_mem _ (List.mem_append_left _ (List.mem_append_right _ h))
theorem hinX7_judged_X6 : ∀ w ∈ u_ws RX6 TX6 3, w ∈ wsX7_judged := fun _ h => List.mem_cons_of_mem _ (List.mem_append_right _ h)
theorem hinX7_judged_X7 : ∀ w ∈ u_ws RX7 TX7 11, w ∈ wsX7_judged := fun _ h => List.mem_cons_of_mem _ (List.mem_append_left _ (List.mem_append_left _ (List.mem_append_right _ h)))
abbrev rmX7_judged : Room := { frames := 0, cells := 0, slots := 0, locals := 12 }
set_option maxHeartbeats 4000000 in
set_option maxRecDepth 100000 in
theorem ctX7_judged {l : Launch} {dC : Nat → ClassId} {dI : Nat → Nat → Nat} {kc : Nat → ClassId} {o_o w_o w_kind w_v w_place w_rows w_length w_first w_second w_drifts w_traits u_o u_items o_x_imageHall o_x_ahead o_x_notes o_x_imageNotes o_x_libraries o_x_reader o_x_acts o_x_tapes : Nat} {ohasImage : Int32} {olibraryCount : Int32} {wpeople : Int32} {wkind : Nat → Int32} {wv : Nat → Int32} {wplace : Nat → Int32} {wrows : Nat → Int32} {wleaves : Int32} {wlength : Nat → Int32} {wfirst : Nat → Int32} {wsecond : Nat → Int32} {wdrops : Int32} {wstep : Int32} {wlibrary : Option Nat} {wdrifts : Nat → Int32} {wtraits : Nat → Int32} {usort : Int32} {usize : Int32} {uitems : Nat → Int64} {x2 : Int32} {fu : Nat} {r : Int32} (hm : fX7_judged fu wpeople wplace usize uitems x2 = some r) : ∀ sz : Nat, Met l yX7_judged wsX7_judged rmX7_judged (kPc dC dI kc [.ref o_o, .ref u_o, .int x2] (fl [wdX7 kc o_o w_o o_x_imageHall o_x_ahead o_x_notes o_x_imageNotes o_x_libraries o_x_reader o_x_acts o_x_tapes ohasImage olibraryCount, wdX2 kc w_o w_kind w_v w_place w_rows w_length w_first w_second w_drifts w_traits wpeople wkind wv wplace wrows wleaves wlength wfirst wsecond wdrops wstep wlibrary wdrifts wtraits, wdX6 kc u_o u_items usort usize uitems]) sz) (kQi dC dI r (fl [wdX7 kc o_o w_o o_x_imageHall o_x_ahead o_x_notes o_x_imageNotes o_x_libraries o_x_reader o_x_acts o_x_tapes ohasImage olibraryCount, wdX2 kc w_o w_kind w_v w_place w_rows w_length w_first w_second w_drifts w_traits wpeople wkind wv wplace wrows wleaves wlength wfirst wsecond wdrops wstep wlibrary wdrifts wtraits, wdX6 kc u_o u_items usort usize uitems]) (va_A (fl [wdX7 kc o_o w_o o_x_imageHall o_x_ahead o_x_notes o_x_imageNotes o_x_libraries o_x_reader o_x_acts o_x_tapes ohasImage olibraryCount, wdX2 kc w_o w_kind w_v w_place w_rows w_length w_first w_second w_drifts w_traits wpeople wkind wv wplace wrows wleaves wlength wfirst wsecond wdrops wstep wlibrary wdrifts wtraits, wdX6 kc u_o u_items usort usize uitems]) sz)) 0 0 (va_A (fl [wdX7 kc o_o w_o o_x_imageHall o_x_ahead o_x_notes o_x_imageNotes o_x_libraries o_x_reader o_x_acts o_x_tapes ohasImage olibraryCount, wdX2 kc w_o w_kind w_v w_place w_rows w_length w_first w_second w_drifts w_traits wpeople wkind wv wplace wrows wleaves wlength wfirst wsecond wdrops wstep wlibrary wdrifts wtraits, wdX6 kc u_o u_items usort usize uitems]) sz) := by
  intro sz
  refine kMet (cc := cX7_judged) (maxL := 4) (ret := (some .int)) (Qf := fun A => kQi dC dI r (fl [wdX7 kc o_o w_o o_x_imageHall o_x_ahead o_x_notes o_x_imageNotes o_x_libraries o_x_reader o_x_acts o_x_tapes ohasImage olibraryCount, wdX2 kc w_o w_kind w_v w_place w_rows w_length w_first w_second w_drifts w_traits wpeople wkind wv wplace wrows wleaves wlength wfirst wsecond wdrops wstep wlibrary wdrifts wtraits, wdX6 kc u_o u_items usort usize uitems]) A) (by decide) rfl (Nat.le_of_ble_eq_true rfl) ?_
  intro p e s m below meth c A ls hx hb hr hml hts hown hlocks hname hsz hA hP hK hD hl
  have hS : va_S A s.heap s.heap [] := va_S.rf
  have hl : lv_has ls 4 [(0, .ref o_o), (1, .ref u_o), (2, .int x2)] := hl
  unfold fX7_judged at hm
  refine lv_iconst (v := 0) hx hb dX7_judged_0 (by decide) ?_
  refine lv_istore_n (lv' := [(3, .int 0), (0, .ref o_o), (1, .ref u_o), (2, .int x2)]) hx hb dX7_judged_1 rfl hl (by decide) rfl (fun ls hl => ?_)
  have hL2 : ∀ (fn : Nat) (l3_2 : Int32), LX7_judged_2 wpeople wplace usize uitems x2 fn l3_2 = some r → ∀ (H : Heap) (locs : List Loc), va_P (dC, dI) vwCl (fl [wdX7 kc o_o w_o o_x_imageHall o_x_ahead o_x_notes o_x_imageNotes o_x_libraries o_x_reader o_x_acts o_x_tapes ohasImage olibraryCount, wdX2 kc w_o w_kind w_v w_place w_rows w_length w_first w_second w_drifts w_traits wpeople wkind wv wplace wrows wleaves wlength wfirst wsecond wdrops wstep wlibrary wdrifts wtraits, wdX6 kc u_o u_items usort usize uitems]) H → va_D A (fl [wdX7 kc o_o w_o o_x_imageHall o_x_ahead o_x_notes o_x_imageNotes o_x_libraries o_x_reader o_x_acts o_x_tapes ohasImage olibraryCount, wdX2 kc w_o w_kind w_v w_place w_rows w_length w_first w_second w_drifts w_traits wpeople wkind wv wplace wrows wleaves wlength wfirst wsecond wdrops wstep wlibrary wdrifts wtraits, wdX6 kc u_o u_items usort usize uitems]) → va_S A s.heap H locs → ∀ ls : Array Slot, lv_has ls 4 [(0, .ref o_o), (1, .ref u_o), (2, .int x2), (3, .int l3_2)] → W p l e (headSpec wsX7_judged rmX7_judged).room s m [.ref o_o, .ref u_o, .int x2].toArray below meth c H locs 0 0 (MQ below (kQi dC dI r (fl [wdX7 kc o_o w_o o_x_imageHall o_x_ahead o_x_notes o_x_imageNotes o_x_libraries o_x_reader o_x_acts o_x_tapes ohasImage olibraryCount, wdX2 kc w_o w_kind w_v w_place w_rows w_length w_first w_second w_drifts w_traits wpeople wkind wv wplace wrows wleaves wlength wfirst wsecond wdrops wstep wlibrary wdrifts wtraits, wdX6 kc u_o u_items usort usize uitems]) A) [.ref o_o, .ref u_o, .int x2].toArray s 0 0 A) (F0 m 2 ls []) := by
    clear hm hP hD hS hl
    intro n2
    induction n2 with
    | zero => intro l3_2 hm; rw [LX7_judged_2] at hm; cases hm
    | succ n2 ih2 =>
      intro l3_2 hm H locs hP hD hS ls hl
      rw [LX7_judged_2] at hm
      refine lv_iload_n hx hb dX7_judged_2 rfl (lv_at hl 3 rfl) ?_
      refine lv_aload_n hx hb dX7_judged_3 rfl (lv_at hl 0 rfl) ?_
      refine va_get (D := (dC, dI)) (ci := 7) (v := .ref w_o) (C := RX7) (T := TX7) (N := 11) hx hb hts hinX7_judged_X7 hown hK hP 0 rfl rfl 0 (by decide) (hts _ (List.mem_of_getElem? (i := 1) rfl)) (fun _ h9 => h9) rfl dX7_judged_4 ?_
      refine va_get (D := (dC, dI)) (ci := 2) (v := .int wpeople) (C := RX2) (T := TX2) (N := 14) hx hb hts hinX7_judged_X2 hown hK hP 1 rfl rfl 0 (by decide) (hts _ (List.mem_of_getElem? (i := 2) rfl)) (fun _ h9 => h9) rfl dX7_judged_7 ?_
      refine lv_icmp_ge (tgt := 62) hx hb dX7_judged_10 (by decide) (fun c10 => ?_) (fun c10 => ?_)
      · replace hm := it_t c10 hm
        refine lv_bipush (v := (-5)) hx hb dX7_judged_62 (by decide) ?_
        cases hm
        exact k_iret hx hb hr hlocks hP hS dX7_judged_64
      · replace hm := it_f c10 hm
        refine lv_iload_n hx hb dX7_judged_13 rfl (lv_at hl 2 rfl) ?_
        refine lv_if_lt (tgt := 27) hx hb dX7_judged_14 (by decide) (fun c14 => ?_) (fun c14 => ?_)
        · replace hm := it_t c14 hm
          refine lv_bipush (v := 100) hx hb dX7_judged_27 (by decide) ?_
          refine lv_iload_n hx hb dX7_judged_29 rfl (lv_at hl 3 rfl) ?_
          refine lv_iadd hx hb dX7_judged_30 ?_
          cases hm
          exact k_iret hx hb hr hlocks hP hS dX7_judged_31
        · replace hm := it_f c14 hm
          refine lv_iload_n hx hb dX7_judged_17 rfl (lv_at hl 2 rfl) ?_
          refine lv_aload_n hx hb dX7_judged_18 rfl (lv_at hl 1 rfl) ?_
          refine va_get (D := (dC, dI)) (ci := 6) (v := .int usize) (C := RX6) (T := TX6) (N := 3) hx hb hts hinX7_judged_X6 hown hK hP 11 rfl rfl 1 (by decide) (hts _ (List.mem_of_getElem? (i := 3) rfl)) (fun _ h9 => h9) rfl dX7_judged_19 ?_
          refine lv_iload_n hx hb dX7_judged_22 rfl (lv_at hl 3 rfl) ?_
          refine lv_isub hx hb dX7_judged_23 ?_
          refine lv_icmp_lt (tgt := 32) hx hb dX7_judged_24 (by decide) (fun c24 => ?_) (fun c24 => ?_)
          · replace hm := it_t c24 hm
            refine lv_aload_n hx hb dX7_judged_32 rfl (lv_at hl 1 rfl) ?_
            refine va_get (D := (dC, dI)) (ci := 6) (v := .ref u_items) (C := RX6) (T := TX6) (N := 3) hx hb hts hinX7_judged_X6 hown hK hP 11 rfl rfl 2 (by decide) (hts _ (List.mem_of_getElem? (i := 4) rfl)) (fun _ h9 => h9) rfl dX7_judged_33 ?_
            refine lv_iload_n hx hb dX7_judged_36 rfl (lv_at hl 2 rfl) ?_
            refine lv_iload_n hx hb dX7_judged_37 rfl (lv_at hl 3 rfl) ?_
            refine lv_iadd hx hb dX7_judged_38 ?_
            obtain ⟨hg39, hm⟩ := gd_e hm
            refine k_lald (D := (dC, dI)) hx hb hK hP 12 2 rfl rfl (k := (x2 + l3_2).toNatClampNeg) rfl hg39 dX7_judged_39 ?_
            refine lv_aload_n hx hb dX7_judged_40 rfl (lv_at hl 0 rfl) ?_
            refine va_get (D := (dC, dI)) (ci := 7) (v := .ref w_o) (C := RX7) (T := TX7) (N := 11) hx hb hts hinX7_judged_X7 hown hK hP 0 rfl rfl 0 (by decide) (hts _ (List.mem_of_getElem? (i := 1) rfl)) (fun _ h9 => h9) rfl dX7_judged_41 ?_
            refine va_get (D := (dC, dI)) (ci := 2) (v := .ref w_place) (C := RX2) (T := TX2) (N := 14) hx hb hts hinX7_judged_X2 hown hK hP 1 rfl rfl 3 (by decide) (hts _ (List.mem_of_getElem? (i := 5) rfl)) (fun _ h9 => h9) rfl dX7_judged_44 ?_
            refine lv_iload_n hx hb dX7_judged_47 rfl (lv_at hl 3 rfl) ?_
            obtain ⟨hg48, hm⟩ := gd_e hm
            refine k_iald (D := (dC, dI)) hx hb hK hP 4 1 rfl rfl (k := l3_2.toNatClampNeg) rfl hg48 dX7_judged_48 ?_
            refine lv_i2l hx hb dX7_judged_49 rfl ?_
            refine W.lcmp hx hb dX7_judged_50 ?_
            refine lv_if_eq (tgt := 56) hx hb dX7_judged_51 (by decide) (fun c51 => ?_) (fun c51 => ?_)
            · replace hm := it_t c51 hm
              refine lv_iinc (v := l3_2 + 1) (lv' := [(3, .int (l3_2 + 1)), (0, .ref o_o), (1, .ref u_o), (2, .int x2)]) hx hb dX7_judged_56 hl (k := 3) rfl rfl (by decide) rfl (fun ls hl => ?_)
              refine lv_goto (tgt := 2) hx hb dX7_judged_59 (by decide) ?_
              exact ih2 (l3_2 + 1) hm _ _ hP hD hS _ (lv_sub hl [1, 2, 3, 0] rfl)
            · replace hm := it_f c51 hm
              refine lv_iload_n hx hb dX7_judged_54 rfl (lv_at hl 3 rfl) ?_
              cases hm
              exact k_iret hx hb hr hlocks hP hS dX7_judged_55
          · replace hm := it_f c24 hm
            refine lv_bipush (v := 100) hx hb dX7_judged_27 (by decide) ?_
            refine lv_iload_n hx hb dX7_judged_29 rfl (lv_at hl 3 rfl) ?_
            refine lv_iadd hx hb dX7_judged_30 ?_
            cases hm
            exact k_iret hx hb hr hlocks hP hS dX7_judged_31
  exact hL2 _ _ hm _ _ hP hD hS _ (lv_sub hl [1, 2, 3, 0] rfl)
def fX7_judge (fu : Nat) (wpeople : Int32) (wplace : Nat → Int32) (zarr : Nat → Option Nat) (usort : Int32) (usize : Int32) (uitems : Nat → Int64) (x1 : Int32) (x2 : Int32) : Option Int32 := bd1 (fX7_isTape x1) (fun r1 => if r1 = 0 then (some ((-1) : Int32)) else (gd (inb x1 6) (if usort = (-1) then (bd1 (fX7_judged fu wpeople wplace usize uitems x2) (fun r37 => some r37)) else (if usort = 0 then (bd1 (fX7_judged fu wpeople wplace usize uitems x2) (fun r37 => some r37)) else (some ((-12) : Int32))))))
theorem hinX7_judge_X6 : ∀ w ∈ u_ws RX6 TX6 3, w ∈ wsX7_judge := fun _ h => List.mem_cons_of_mem _ (List.mem_append_left _ (List.mem_append_right _ h))
theorem hinX7_judge_X7 : ∀ w ∈ u_ws RX7 TX7 11, w ∈ wsX7_judge := fun _ h => List.mem_cons_of_mem _ (List.mem_append_left _ (List.mem_append_left _ (List.mem_append_right _ h)))
abbrev rmX7_judge : Room := { frames := 2, cells := 0, slots := 0, locals := 53 }
set_option maxHeartbeats 4000000 in
set_option maxRecDepth 100000 in
theorem ctX7_judge {l : Launch} {dC : Nat → ClassId} {dI : Nat → Nat → Nat} {kc : Nat → ClassId} {o_o w_o w_kind w_v w_place w_rows w_length w_first w_second w_drifts w_traits z_o u_o u_items o_x_imageHall o_x_ahead o_x_notes o_x_imageNotes o_x_libraries o_x_reader o_x_acts : Nat} {ohasImage : Int32} {olibraryCount : Int32} {wpeople : Int32} {wkind : Nat → Int32} {wv : Nat → Int32} {wplace : Nat → Int32} {wrows : Nat → Int32} {wleaves : Int32} {wlength : Nat → Int32} {wfirst : Nat → Int32} {wsecond : Nat → Int32} {wdrops : Int32} {wstep : Int32} {wlibrary : Option Nat} {wdrifts : Nat → Int32} {wtraits : Nat → Int32} {zarr : Nat → Option Nat} {usort : Int32} {usize : Int32} {uitems : Nat → Int64} {x1 : Int32} {x2 : Int32} {fu : Nat} {r : Int32} (hm : fX7_judge fu wpeople wplace zarr usort usize uitems x1 x2 = some r) (hq_u_0 : zarr x1.toNatClampNeg = some u_o) : ∀ sz : Nat, Met l yX7_judge wsX7_judge rmX7_judge (kPc dC dI kc [.ref o_o, .int x1, .int x2] (fl [wdX7 kc o_o w_o o_x_imageHall o_x_ahead o_x_notes o_x_imageNotes o_x_libraries o_x_reader o_x_acts z_o ohasImage olibraryCount, wdX2 kc w_o w_kind w_v w_place w_rows w_length w_first w_second w_drifts w_traits wpeople wkind wv wplace wrows wleaves wlength wfirst wsecond wdrops wstep wlibrary wdrifts wtraits, wdQT kc z_o zarr, wdX6 kc u_o u_items usort usize uitems]) sz) (kQi dC dI r (fl [wdX7 kc o_o w_o o_x_imageHall o_x_ahead o_x_notes o_x_imageNotes o_x_libraries o_x_reader o_x_acts z_o ohasImage olibraryCount, wdX2 kc w_o w_kind w_v w_place w_rows w_length w_first w_second w_drifts w_traits wpeople wkind wv wplace wrows wleaves wlength wfirst wsecond wdrops wstep wlibrary wdrifts wtraits, wdQT kc z_o zarr, wdX6 kc u_o u_items usort usize uitems]) (va_A (fl [wdX7 kc o_o w_o o_x_imageHall o_x_ahead o_x_notes o_x_imageNotes o_x_libraries o_x_reader o_x_acts z_o ohasImage olibraryCount, wdX2 kc w_o w_kind w_v w_place w_rows w_length w_first w_second w_drifts w_traits wpeople wkind wv wplace wrows wleaves wlength wfirst wsecond wdrops wstep wlibrary wdrifts wtraits, wdQT kc z_o zarr, wdX6 kc u_o u_items usort usize uitems]) sz)) 0 0 (va_A (fl [wdX7 kc o_o w_o o_x_imageHall o_x_ahead o_x_notes o_x_imageNotes o_x_libraries o_x_reader o_x_acts z_o ohasImage olibraryCount, wdX2 kc w_o w_kind w_v w_place w_rows w_length w_first w_second w_drifts w_traits wpeople wkind wv wplace wrows wleaves wlength wfirst wsecond wdrops wstep wlibrary wdrifts wtraits, wdQT kc z_o zarr, wdX6 kc u_o u_items usort usize uitems]) sz) := by
  intro sz
  refine kMet (cc := cX7_judge) (maxL := 4) (ret := (some .int)) (Qf := fun A => kQi dC dI r (fl [wdX7 kc o_o w_o o_x_imageHall o_x_ahead o_x_notes o_x_imageNotes o_x_libraries o_x_reader o_x_acts z_o ohasImage olibraryCount, wdX2 kc w_o w_kind w_v w_place w_rows w_length w_first w_second w_drifts w_traits wpeople wkind wv wplace wrows wleaves wlength wfirst wsecond wdrops wstep wlibrary wdrifts wtraits, wdQT kc z_o zarr, wdX6 kc u_o u_items usort usize uitems]) A) (by decide) rfl (Nat.le_of_ble_eq_true rfl) ?_
  intro p e s m below meth c A ls hx hb hr hml hts hown hlocks hname hsz hA hP hK hD hl
  have hS : va_S A s.heap s.heap [] := va_S.rf
  have hl : lv_has ls 4 [(0, .ref o_o), (1, .int x1), (2, .int x2)] := hl
  unfold fX7_judge at hm
  refine lv_iload_n hx hb dX7_judge_0 rfl (lv_at hl 1 rfl) ?_
  obtain ⟨r1, hc1, hm⟩ := bd1_e hm
  refine k_callGSi (dC := dC) (dI := dI) (kc := kc) (As := [.int x1]) (rest := []) (Gs' := [wdX7 kc o_o w_o o_x_imageHall o_x_ahead o_x_notes o_x_imageNotes o_x_libraries o_x_reader o_x_acts z_o ohasImage olibraryCount, wdX2 kc w_o w_kind w_v w_place w_rows w_length w_first w_second w_drifts w_traits wpeople wkind wv wplace wrows wleaves wlength wfirst wsecond wdrops wstep wlibrary wdrifts wtraits, wdQT kc z_o zarr, wdX6 kc u_o u_items usort usize uitems]) hx hb hml hown hts hK hP hD hS hA (ctX7_isTape (x1 := x1) hc1) (va_cwS 1 hts gX7_judge_X7_isTape rfl rfl rfl (by decide +kernel) ⟨Nat.le_of_ble_eq_true rfl, Nat.le_of_ble_eq_true rfl⟩) [] rfl (by decide) rfl hl rfl (Nat.le_of_ble_eq_true rfl) dX7_judge_1 ⟨Nat.zero_le _, Nat.zero_le _⟩ rfl rfl rfl (fun H locs hP hD hS => ?_)
  refine lv_if_ne (tgt := 9) hx hb dX7_judge_4 (by decide) (fun c4 => ?_) (fun c4 => ?_)
  · replace hm := it_f c4 hm
    refine lv_aload_n hx hb dX7_judge_9 rfl (lv_at hl 0 rfl) ?_
    refine va_get (D := (dC, dI)) (ci := 7) (v := .ref z_o) (C := RX7) (T := TX7) (N := 11) hx hb hts hinX7_judge_X7 hown hK hP 0 rfl rfl 10 (by decide) (hts _ (List.mem_of_getElem? (i := 1) rfl)) (fun _ h9 => h9) rfl dX7_judge_10 ?_
    refine lv_iload_n hx hb dX7_judge_13 rfl (lv_at hl 1 rfl) ?_
    obtain ⟨hg14, hm⟩ := gd_e hm
    refine k_aald (D := (dC, dI)) hx hb hK hP 11 5 rfl rfl (k := x1.toNatClampNeg) rfl hg14 hq_u_0 dX7_judge_14 ?_
    refine lv_astore_n (lv' := [(3, .ref u_o), (0, .ref o_o), (1, .int x1), (2, .int x2)]) hx hb dX7_judge_15 rfl hl (by decide) rfl (fun ls hl => ?_)
    refine lv_aload_n hx hb dX7_judge_16 rfl (lv_at hl 0 rfl) ?_
    refine va_get (D := (dC, dI)) (ci := 6) (v := .int usort) (C := RX6) (T := TX6) (N := 3) hx hb hts hinX7_judge_X6 hown hK hP 12 rfl rfl 0 (by decide) (hts _ (List.mem_of_getElem? (i := 2) rfl)) (fun _ h9 => h9) rfl dX7_judge_17 ?_
    refine lv_iconst (v := (-1)) hx hb dX7_judge_20 (by decide) ?_
    refine lv_icmp_eq (tgt := 34) hx hb dX7_judge_21 (by decide) (fun c21 => ?_) (fun c21 => ?_)
    · replace hm := it_t c21 hm
      refine lv_aload_n hx hb dX7_judge_34 rfl (lv_at hl 1 rfl) ?_
      refine lv_aload_n hx hb dX7_judge_35 rfl (lv_at hl 0 rfl) ?_
      refine lv_iload_n hx hb dX7_judge_36 rfl (lv_at hl 3 rfl) ?_
      obtain ⟨r37, hc37, hm⟩ := bd1_e hm
      refine k_callGVi (dC := dC) (dI := dI) (kc := kc) (As := [.ref u_o, .int x2]) (rest := []) (Gs' := [wdX7 kc o_o w_o o_x_imageHall o_x_ahead o_x_notes o_x_imageNotes o_x_libraries o_x_reader o_x_acts z_o ohasImage olibraryCount, wdX2 kc w_o w_kind w_v w_place w_rows w_length w_first w_second w_drifts w_traits wpeople wkind wv wplace wrows wleaves wlength wfirst wsecond wdrops wstep wlibrary wdrifts wtraits, wdQT kc z_o zarr, wdX6 kc u_o u_items usort usize uitems]) hx hb hml hown hts hK hP hD hS hA (ctX7_judged (o_o := o_o) (w_o := w_o) (o_x_imageHall := o_x_imageHall) (o_x_ahead := o_x_ahead) (o_x_notes := o_x_notes) (o_x_imageNotes := o_x_imageNotes) (o_x_libraries := o_x_libraries) (o_x_reader := o_x_reader) (o_x_acts := o_x_acts) (o_x_tapes := z_o) (w_kind := w_kind) (w_v := w_v) (w_place := w_place) (w_rows := w_rows) (w_length := w_length) (w_first := w_first) (w_second := w_second) (w_drifts := w_drifts) (w_traits := w_traits) (u_o := u_o) (u_items := u_items) (ohasImage := ohasImage) (olibraryCount := olibraryCount) (wpeople := wpeople) (wkind := wkind) (wv := wv) (wplace := wplace) (wrows := wrows) (wleaves := wleaves) (wlength := wlength) (wfirst := wfirst) (wsecond := wsecond) (wdrops := wdrops) (wstep := wstep) (wlibrary := wlibrary) (wdrifts := wdrifts) (wtraits := wtraits) (usort := usort) (usize := usize) (uitems := uitems) (x2 := x2) hc37) (cwV 2 hts gX7_judge_X7_judged rfl rfl rfl (by decide +kernel) ⟨Nat.le_of_ble_eq_true rfl, Nat.le_of_ble_eq_true rfl⟩) [0, 1, 3] rfl (by decide) 7 rfl rfl rfl rfl hl rfl (Nat.le_of_ble_eq_true rfl) dX7_judge_37 ⟨Nat.zero_le _, Nat.zero_le _⟩ rfl rfl rfl (fun H locs hP hD hS => ?_)
      cases hm
      exact k_iret hx hb hr hlocks hP hS dX7_judge_40
    · replace hm := it_f c21 hm
      refine lv_aload_n hx hb dX7_judge_24 rfl (lv_at hl 0 rfl) ?_
      refine va_get (D := (dC, dI)) (ci := 6) (v := .int usort) (C := RX6) (T := TX6) (N := 3) hx hb hts hinX7_judge_X6 hown hK hP 12 rfl rfl 0 (by decide) (hts _ (List.mem_of_getElem? (i := 2) rfl)) (fun _ h9 => h9) rfl dX7_judge_25 ?_
      refine lv_if_eq (tgt := 34) hx hb dX7_judge_28 (by decide) (fun c28 => ?_) (fun c28 => ?_)
      · replace hm := it_t c28 hm
        refine lv_aload_n hx hb dX7_judge_34 rfl (lv_at hl 1 rfl) ?_
        refine lv_aload_n hx hb dX7_judge_35 rfl (lv_at hl 0 rfl) ?_
        refine lv_iload_n hx hb dX7_judge_36 rfl (lv_at hl 3 rfl) ?_
        obtain ⟨r37, hc37, hm⟩ := bd1_e hm
        refine k_callGVi (dC := dC) (dI := dI) (kc := kc) (As := [.ref u_o, .int x2]) (rest := []) (Gs' := [wdX7 kc o_o w_o o_x_imageHall o_x_ahead o_x_notes o_x_imageNotes o_x_libraries o_x_reader o_x_acts z_o ohasImage olibraryCount, wdX2 kc w_o w_kind w_v w_place w_rows w_length w_first w_second w_drifts w_traits wpeople wkind wv wplace wrows wleaves wlength wfirst wsecond wdrops wstep wlibrary wdrifts wtraits, wdQT kc z_o zarr, wdX6 kc u_o u_items usort usize uitems]) hx hb hml hown hts hK hP hD hS hA (ctX7_judged (o_o := o_o) (w_o := w_o) (o_x_imageHall := o_x_imageHall) (o_x_ahead := o_x_ahead) (o_x_notes := o_x_notes) (o_x_imageNotes := o_x_imageNotes) (o_x_libraries := o_x_libraries) (o_x_reader := o_x_reader) (o_x_acts := o_x_acts) (o_x_tapes := z_o) (w_kind := w_kind) (w_v := w_v) (w_place := w_place) (w_rows := w_rows) (w_length := w_length) (w_first := w_first) (w_second := w_second) (w_drifts := w_drifts) (w_traits := w_traits) (u_o := u_o) (u_items := u_items) (ohasImage := ohasImage) (olibraryCount := olibraryCount) (wpeople := wpeople) (wkind := wkind) (wv := wv) (wplace := wplace) (wrows := wrows) (wleaves := wleaves) (wlength := wlength) (wfirst := wfirst) (wsecond := wsecond) (wdrops := wdrops) (wstep := wstep) (wlibrary := wlibrary) (wdrifts := wdrifts) (wtraits := wtraits) (usort := usort) (usize := usize) (uitems := uitems) (x2 := x2) hc37) (cwV 2 hts gX7_judge_X7_judged rfl rfl rfl (by decide +kernel) ⟨Nat.le_of_ble_eq_true rfl, Nat.le_of_ble_eq_true rfl⟩) [0, 1, 3] rfl (by decide) 7 rfl rfl rfl rfl hl rfl (Nat.le_of_ble_eq_true rfl) dX7_judge_37 ⟨Nat.zero_le _, Nat.zero_le _⟩ rfl rfl rfl (fun H locs hP hD hS => ?_)
        cases hm
        exact k_iret hx hb hr hlocks hP hS dX7_judge_40
      · replace hm := it_f c28 hm
        refine lv_bipush (v := (-12)) hx hb dX7_judge_31 (by decide) ?_
        cases hm
        exact k_iret hx hb hr hlocks hP hS dX7_judge_33
  · replace hm := it_t c4 hm
    refine lv_iconst (v := (-1)) hx hb dX7_judge_7 (by decide) ?_
    cases hm
    exact k_iret hx hb hr hlocks hP hS dX7_judge_8
def fX7_tape (fu : Nat) (zarr : Nat → Option Nat) (usort : Int32) (usize : Int32) (uitems : Nat → Int64) (x1 : Int32) (x2 : Int32) (x3 : Int32) : Option (Int32 × Int32 × Int32 × (Nat → Int64)) := bd1 (fX7_isTape x1) (fun r1 => if r1 = 0 then (some (((-1) : Int32), usort, usize, uitems)) else (if x2 = (-1) then (gd (inb x1 6) (bd3 (fX6_become fu usort usize uitems (-1) 0) (fun usort_22 usize_22 uitems_22 => some ((1 : Int32), usort_22, usize_22, uitems_22)))) else (bd1 (fX7_isWithin x2 4) (fun r29 => if r29 = 0 then (some (((-2) : Int32), usort, usize, uitems)) else (if x3 ≤ 60 then (if 0 ≤ x3 then (gd (inb x1 6) (bd3 (fX6_become fu usort usize uitems x2 x3) (fun usort_59 usize_59 uitems_59 => some ((1 : Int32), usort_59, usize_59, uitems_59)))) else (some (((-14) : Int32), usort, usize, uitems))) else (some (((-2) : Int32), usort, usize, uitems)))))))
theorem hinX7_tape_X7 : ∀ w ∈ u_ws RX7 TX7 11, w ∈ wsX7_tape := fun _ h => List.mem_cons_of_mem _ (List.mem_append_left _ (List.mem_append_right _ h))
abbrev rmX7_tape : Room := { frames := 2, cells := 0, slots := 0, locals := 53 }
set_option maxHeartbeats 4000000 in
set_option maxRecDepth 100000 in
theorem ctX7_tape {l : Launch} {dC : Nat → ClassId} {dI : Nat → Nat → Nat} {kc : Nat → ClassId} {o_o z_o u_o u_items o_x_now o_x_imageHall o_x_ahead o_x_notes o_x_imageNotes o_x_libraries o_x_reader o_x_acts : Nat} {ohasImage : Int32} {olibraryCount : Int32} {zarr : Nat → Option Nat} {usort : Int32} {usize : Int32} {uitems : Nat → Int64} {x1 : Int32} {x2 : Int32} {x3 : Int32} {fu : Nat} {r : Int32} {usort' : Int32} {usize' : Int32} {uitems' : Nat → Int64} (hm : fX7_tape fu zarr usort usize uitems x1 x2 x3 = some (r, usort', usize', uitems')) (hq_u_0 : zarr x1.toNatClampNeg = some u_o) : ∀ sz : Nat, Met l yX7_tape wsX7_tape rmX7_tape (kPc dC dI kc [.ref o_o, .int x1, .int x2, .int x3] (fl [wdX7 kc o_o o_x_now o_x_imageHall o_x_ahead o_x_notes o_x_imageNotes o_x_libraries o_x_reader o_x_acts z_o ohasImage olibraryCount, wdQT kc z_o zarr, wdX6 kc u_o u_items usort usize uitems]) sz) (kQi dC dI r (fl [wdX7 kc o_o o_x_now o_x_imageHall o_x_ahead o_x_notes o_x_imageNotes o_x_libraries o_x_reader o_x_acts z_o ohasImage olibraryCount, wdQT kc z_o zarr, wdX6 kc u_o u_items usort' usize' uitems']) (va_A (fl [wdX7 kc o_o o_x_now o_x_imageHall o_x_ahead o_x_notes o_x_imageNotes o_x_libraries o_x_reader o_x_acts z_o ohasImage olibraryCount, wdQT kc z_o zarr, wdX6 kc u_o u_items usort usize uitems]) sz)) 0 0 (va_A (fl [wdX7 kc o_o o_x_now o_x_imageHall o_x_ahead o_x_notes o_x_imageNotes o_x_libraries o_x_reader o_x_acts z_o ohasImage olibraryCount, wdQT kc z_o zarr, wdX6 kc u_o u_items usort usize uitems]) sz) := by
  intro sz
  refine kMet (cc := cX7_tape) (maxL := 4) (ret := (some .int)) (Qf := fun A => kQi dC dI r (fl [wdX7 kc o_o o_x_now o_x_imageHall o_x_ahead o_x_notes o_x_imageNotes o_x_libraries o_x_reader o_x_acts z_o ohasImage olibraryCount, wdQT kc z_o zarr, wdX6 kc u_o u_items usort' usize' uitems']) A) (by decide) rfl (Nat.le_of_ble_eq_true rfl) ?_
  intro p e s m below meth c A ls hx hb hr hml hts hown hlocks hname hsz hA hP hK hD hl
  have hS : va_S A s.heap s.heap [] := va_S.rf
  have hl : lv_has ls 4 [(0, .ref o_o), (1, .int x1), (2, .int x2), (3, .int x3)] := hl
  unfold fX7_tape at hm
  refine lv_iload_n hx hb dX7_tape_0 rfl (lv_at hl 1 rfl) ?_
  obtain ⟨r1, hc1, hm⟩ := bd1_e hm
  refine k_callGSi (dC := dC) (dI := dI) (kc := kc) (As := [.int x1]) (rest := []) (Gs' := [wdX7 kc o_o o_x_now o_x_imageHall o_x_ahead o_x_notes o_x_imageNotes o_x_libraries o_x_reader o_x_acts z_o ohasImage olibraryCount, wdQT kc z_o zarr, wdX6 kc u_o u_items usort usize uitems]) hx hb hml hown hts hK hP hD hS hA (ctX7_isTape (x1 := x1) hc1) (va_cwS 1 hts gX7_tape_X7_isTape rfl rfl rfl (by decide +kernel) ⟨Nat.le_of_ble_eq_true rfl, Nat.le_of_ble_eq_true rfl⟩) [] rfl (by decide) rfl hl rfl (Nat.le_of_ble_eq_true rfl) dX7_tape_1 ⟨Nat.zero_le _, Nat.zero_le _⟩ rfl rfl rfl (fun H locs hP hD hS => ?_)
  refine lv_if_ne (tgt := 9) hx hb dX7_tape_4 (by decide) (fun c4 => ?_) (fun c4 => ?_)
  · replace hm := it_f c4 hm
    refine lv_iload_n hx hb dX7_tape_9 rfl (lv_at hl 2 rfl) ?_
    refine lv_iconst (v := (-1)) hx hb dX7_tape_10 (by decide) ?_
    refine lv_icmp_ne (tgt := 27) hx hb dX7_tape_11 (by decide) (fun c11 => ?_) (fun c11 => ?_)
    · replace hm := it_f c11 hm
      refine lv_iload_n hx hb dX7_tape_27 rfl (lv_at hl 2 rfl) ?_
      refine lv_iconst (v := 4) hx hb dX7_tape_28 (by decide) ?_
      obtain ⟨r29, hc29, hm⟩ := bd1_e hm
      refine k_callGSi (dC := dC) (dI := dI) (kc := kc) (As := [.int x2, .int 4]) (rest := []) (Gs' := [wdX7 kc o_o o_x_now o_x_imageHall o_x_ahead o_x_notes o_x_imageNotes o_x_libraries o_x_reader o_x_acts z_o ohasImage olibraryCount, wdQT kc z_o zarr, wdX6 kc u_o u_items usort usize uitems]) hx hb hml hown hts hK hP hD hS hA (ctX7_isWithin (x1 := x2) (x2 := 4) hc29) (va_cwS 2 hts gX7_tape_X7_isWithin rfl rfl rfl (by decide +kernel) ⟨Nat.le_of_ble_eq_true rfl, Nat.le_of_ble_eq_true rfl⟩) [] rfl (by decide) rfl hl rfl (Nat.le_of_ble_eq_true rfl) dX7_tape_29 ⟨Nat.zero_le _, Nat.zero_le _⟩ rfl rfl rfl (fun H locs hP hD hS => ?_)
      refine lv_if_eq (tgt := 41) hx hb dX7_tape_32 (by decide) (fun c32 => ?_) (fun c32 => ?_)
      · replace hm := it_t c32 hm
        refine lv_bipush (v := (-2)) hx hb dX7_tape_41 (by decide) ?_
        cases hm
        exact k_iret hx hb hr hlocks hP hS dX7_tape_43
      · replace hm := it_f c32 hm
        refine lv_iload_n hx hb dX7_tape_35 rfl (lv_at hl 3 rfl) ?_
        refine lv_bipush (v := 60) hx hb dX7_tape_36 (by decide) ?_
        refine lv_icmp_le (tgt := 44) hx hb dX7_tape_38 (by decide) (fun c38 => ?_) (fun c38 => ?_)
        · replace hm := it_t c38 hm
          refine lv_iload_n hx hb dX7_tape_44 rfl (lv_at hl 3 rfl) ?_
          refine lv_if_ge (tgt := 51) hx hb dX7_tape_45 (by decide) (fun c45 => ?_) (fun c45 => ?_)
          · replace hm := it_t c45 hm
            refine lv_aload_n hx hb dX7_tape_51 rfl (lv_at hl 0 rfl) ?_
            refine va_get (D := (dC, dI)) (ci := 7) (v := .ref z_o) (C := RX7) (T := TX7) (N := 11) hx hb hts hinX7_tape_X7 hown hK hP 0 rfl rfl 10 (by decide) (hts _ (List.mem_of_getElem? (i := 1) rfl)) (fun _ h9 => h9) rfl dX7_tape_52 ?_
            refine lv_iload_n hx hb dX7_tape_55 rfl (lv_at hl 1 rfl) ?_
            obtain ⟨hg56, hm⟩ := gd_e hm
            refine k_aald (D := (dC, dI)) hx hb hK hP 1 5 rfl rfl (k := x1.toNatClampNeg) rfl hg56 hq_u_0 dX7_tape_56 ?_
            refine lv_iload_n hx hb dX7_tape_57 rfl (lv_at hl 2 rfl) ?_
            refine lv_iload_n hx hb dX7_tape_58 rfl (lv_at hl 3 rfl) ?_
            obtain ⟨usort_59, usize_59, uitems_59, hc59, hm⟩ := bd3_e hm
            refine k_callGVv (dC := dC) (dI := dI) (kc := kc) (As := [.int x2, .int x3]) (rest := []) (Gs' := [wdX7 kc o_o o_x_now o_x_imageHall o_x_ahead o_x_notes o_x_imageNotes o_x_libraries o_x_reader o_x_acts z_o ohasImage olibraryCount, wdQT kc z_o zarr, wdX6 kc u_o u_items usort_59 usize_59 uitems_59]) hx hb hml hown hts hK hP hD hS hA (ctX6_become (u_o := u_o) (u_items := u_items) (usort := usort) (usize := usize) (uitems := uitems) (x1 := x2) (x2 := x3) hc59) (cwV 2 hts gX7_tape_X6_become rfl rfl rfl (by decide +kernel) ⟨Nat.le_of_ble_eq_true rfl, Nat.le_of_ble_eq_true rfl⟩) [2] rfl (by decide) 6 rfl rfl rfl rfl hl rfl (Nat.le_of_ble_eq_true rfl) dX7_tape_59 ⟨Nat.zero_le _, Nat.zero_le _⟩ rfl rfl rfl (fun H locs hP hD hS => ?_)
            refine lv_iconst (v := 1) hx hb dX7_tape_62 (by decide) ?_
            cases hm
            exact k_iret hx hb hr hlocks hP hS dX7_tape_63
          · replace hm := it_f c45 hm
            refine lv_bipush (v := (-14)) hx hb dX7_tape_48 (by decide) ?_
            cases hm
            exact k_iret hx hb hr hlocks hP hS dX7_tape_50
        · replace hm := it_f c38 hm
          refine lv_bipush (v := (-2)) hx hb dX7_tape_41 (by decide) ?_
          cases hm
          exact k_iret hx hb hr hlocks hP hS dX7_tape_43
    · replace hm := it_t c11 hm
      refine lv_aload_n hx hb dX7_tape_14 rfl (lv_at hl 0 rfl) ?_
      refine va_get (D := (dC, dI)) (ci := 7) (v := .ref z_o) (C := RX7) (T := TX7) (N := 11) hx hb hts hinX7_tape_X7 hown hK hP 0 rfl rfl 10 (by decide) (hts _ (List.mem_of_getElem? (i := 1) rfl)) (fun _ h9 => h9) rfl dX7_tape_15 ?_
      refine lv_iload_n hx hb dX7_tape_18 rfl (lv_at hl 1 rfl) ?_
      obtain ⟨hg19, hm⟩ := gd_e hm
      refine k_aald (D := (dC, dI)) hx hb hK hP 1 5 rfl rfl (k := x1.toNatClampNeg) rfl hg19 hq_u_0 dX7_tape_19 ?_
      refine lv_iconst (v := (-1)) hx hb dX7_tape_20 (by decide) ?_
      refine lv_iconst (v := 0) hx hb dX7_tape_21 (by decide) ?_
      obtain ⟨usort_22, usize_22, uitems_22, hc22, hm⟩ := bd3_e hm
      refine k_callGVv (dC := dC) (dI := dI) (kc := kc) (As := [.int (-1), .int 0]) (rest := []) (Gs' := [wdX7 kc o_o o_x_now o_x_imageHall o_x_ahead o_x_notes o_x_imageNotes o_x_libraries o_x_reader o_x_acts z_o ohasImage olibraryCount, wdQT kc z_o zarr, wdX6 kc u_o u_items usort_22 usize_22 uitems_22]) hx hb hml hown hts hK hP hD hS hA (ctX6_become (u_o := u_o) (u_items := u_items) (usort := usort) (usize := usize) (uitems := uitems) (x1 := (-1)) (x2 := 0) hc22) (cwV 2 hts gX7_tape_X6_become rfl rfl rfl (by decide +kernel) ⟨Nat.le_of_ble_eq_true rfl, Nat.le_of_ble_eq_true rfl⟩) [2] rfl (by decide) 6 rfl rfl rfl rfl hl rfl (Nat.le_of_ble_eq_true rfl) dX7_tape_22 ⟨Nat.zero_le _, Nat.zero_le _⟩ rfl rfl rfl (fun H locs hP hD hS => ?_)
      refine lv_iconst (v := 1) hx hb dX7_tape_25 (by decide) ?_
      cases hm
      exact k_iret hx hb hr hlocks hP hS dX7_tape_26
  · replace hm := it_t c4 hm
    refine lv_iconst (v := (-1)) hx hb dX7_tape_7 (by decide) ?_
    cases hm
    exact k_iret hx hb hr hlocks hP hS dX7_tape_8
def fX7_item (zarr : Nat → Option Nat) (usort : Int32) (usize : Int32) (uitems : Nat → Int64) (x1 : Int32) (x2 : Int32) (x3 : Int64) : Option (Int32 × (Nat → Int64)) := bd1 (fX7_isTape x1) (fun r1 => if r1 = 0 then (some (((-1) : Int32), uitems)) else (gd (inb x1 6) (if usort = (-1) then (some (((-11) : Int32), uitems)) else (bd1 (fX7_isWithin x2 (usize - 1)) (fun r37 => if r37 = 0 then (some (((-13) : Int32), uitems)) else (bd1 (fX7_asItem usort x3) (fun r58 => gd (inb x2 60) (some ((1 : Int32), vp_updL uitems (x2.toNatClampNeg) r58)))))))))
theorem hinX7_item_X6 : ∀ w ∈ u_ws RX6 TX6 3, w ∈ wsX7_item := fun _ h => List.mem_cons_of_mem _ (List.mem_append_right _ h)
theorem hinX7_item_X7 : ∀ w ∈ u_ws RX7 TX7 11, w ∈ wsX7_item := fun _ h => List.mem_cons_of_mem _ (List.mem_append_left _ (List.mem_append_right _ h))
abbrev rmX7_item : Room := { frames := 2, cells := 0, slots := 0, locals := 53 }
set_option maxHeartbeats 4000000 in
set_option maxRecDepth 100000 in
theorem ctX7_item {l : Launch} {dC : Nat → ClassId} {dI : Nat → Nat → Nat} {kc : Nat → ClassId} {o_o z_o u_o u_items o_x_now o_x_imageHall o_x_ahead o_x_notes o_x_imageNotes o_x_libraries o_x_reader o_x_acts : Nat} {ohasImage : Int32} {olibraryCount : Int32} {zarr : Nat → Option Nat} {usort : Int32} {usize : Int32} {uitems : Nat → Int64} {x1 : Int32} {x2 : Int32} {x3 : Int64} {r : Int32} {uitems' : Nat → Int64} (hm : fX7_item zarr usort usize uitems x1 x2 x3 = some (r, uitems')) (hq_u_0 : zarr x1.toNatClampNeg = some u_o) : ∀ sz : Nat, Met l yX7_item wsX7_item rmX7_item (kPc dC dI kc [.ref o_o, .int x1, .int x2, .long x3] (fl [wdX7 kc o_o o_x_now o_x_imageHall o_x_ahead o_x_notes o_x_imageNotes o_x_libraries o_x_reader o_x_acts z_o ohasImage olibraryCount, wdQT kc z_o zarr, wdX6 kc u_o u_items usort usize uitems]) sz) (kQi dC dI r (fl [wdX7 kc o_o o_x_now o_x_imageHall o_x_ahead o_x_notes o_x_imageNotes o_x_libraries o_x_reader o_x_acts z_o ohasImage olibraryCount, wdQT kc z_o zarr, wdX6 kc u_o u_items usort usize uitems']) (va_A (fl [wdX7 kc o_o o_x_now o_x_imageHall o_x_ahead o_x_notes o_x_imageNotes o_x_libraries o_x_reader o_x_acts z_o ohasImage olibraryCount, wdQT kc z_o zarr, wdX6 kc u_o u_items usort usize uitems]) sz)) 0 0 (va_A (fl [wdX7 kc o_o o_x_now o_x_imageHall o_x_ahead o_x_notes o_x_imageNotes o_x_libraries o_x_reader o_x_acts z_o ohasImage olibraryCount, wdQT kc z_o zarr, wdX6 kc u_o u_items usort usize uitems]) sz) := by
  intro sz
  refine kMet (cc := cX7_item) (maxL := 6) (ret := (some .int)) (Qf := fun A => kQi dC dI r (fl [wdX7 kc o_o o_x_now o_x_imageHall o_x_ahead o_x_notes o_x_imageNotes o_x_libraries o_x_reader o_x_acts z_o ohasImage olibraryCount, wdQT kc z_o zarr, wdX6 kc u_o u_items usort usize uitems']) A) (by decide) rfl (Nat.le_of_ble_eq_true rfl) ?_
  intro p e s m below meth c A ls hx hb hr hml hts hown hlocks hname hsz hA hP hK hD hl
  have hS : va_S A s.heap s.heap [] := va_S.rf
  have hl : lv_has ls 6 [(0, .ref o_o), (1, .int x1), (2, .int x2), (3, .long x3)] := hl
  unfold fX7_item at hm
  refine lv_iload_n hx hb dX7_item_0 rfl (lv_at hl 1 rfl) ?_
  obtain ⟨r1, hc1, hm⟩ := bd1_e hm
  refine k_callGSi (dC := dC) (dI := dI) (kc := kc) (As := [.int x1]) (rest := []) (Gs' := [wdX7 kc o_o o_x_now o_x_imageHall o_x_ahead o_x_notes o_x_imageNotes o_x_libraries o_x_reader o_x_acts z_o ohasImage olibraryCount, wdQT kc z_o zarr, wdX6 kc u_o u_items usort usize uitems]) hx hb hml hown hts hK hP hD hS hA (ctX7_isTape (x1 := x1) hc1) (va_cwS 1 hts gX7_item_X7_isTape rfl rfl rfl (by decide +kernel) ⟨Nat.le_of_ble_eq_true rfl, Nat.le_of_ble_eq_true rfl⟩) [] rfl (by decide) rfl hl rfl (Nat.le_of_ble_eq_true rfl) dX7_item_1 ⟨Nat.zero_le _, Nat.zero_le _⟩ rfl rfl rfl (fun H locs hP hD hS => ?_)
  refine lv_if_ne (tgt := 9) hx hb dX7_item_4 (by decide) (fun c4 => ?_) (fun c4 => ?_)
  · replace hm := it_f c4 hm
    refine lv_aload_n hx hb dX7_item_9 rfl (lv_at hl 0 rfl) ?_
    refine va_get (D := (dC, dI)) (ci := 7) (v := .ref z_o) (C := RX7) (T := TX7) (N := 11) hx hb hts hinX7_item_X7 hown hK hP 0 rfl rfl 10 (by decide) (hts _ (List.mem_of_getElem? (i := 1) rfl)) (fun _ h9 => h9) rfl dX7_item_10 ?_
    refine lv_iload_n hx hb dX7_item_13 rfl (lv_at hl 1 rfl) ?_
    obtain ⟨hg14, hm⟩ := gd_e hm
    refine k_aald (D := (dC, dI)) hx hb hK hP 1 5 rfl rfl (k := x1.toNatClampNeg) rfl hg14 hq_u_0 dX7_item_14 ?_
    refine lv_astore (lv' := [(5, .ref u_o), (0, .ref o_o), (1, .int x1), (2, .int x2), (3, .long x3)]) hx hb dX7_item_15 hl (by decide) rfl (fun ls hl => ?_)
    refine lv_aload hx hb dX7_item_17 (lv_at hl 0 rfl) ?_
    refine va_get (D := (dC, dI)) (ci := 6) (v := .int usort) (C := RX6) (T := TX6) (N := 3) hx hb hts hinX7_item_X6 hown hK hP 2 rfl rfl 0 (by decide) (hts _ (List.mem_of_getElem? (i := 2) rfl)) (fun _ h9 => h9) rfl dX7_item_19 ?_
    refine lv_iconst (v := (-1)) hx hb dX7_item_22 (by decide) ?_
    refine lv_icmp_ne (tgt := 29) hx hb dX7_item_23 (by decide) (fun c23 => ?_) (fun c23 => ?_)
    · replace hm := it_f c23 hm
      refine lv_iload_n hx hb dX7_item_29 rfl (lv_at hl 3 rfl) ?_
      refine lv_aload hx hb dX7_item_30 (lv_at hl 0 rfl) ?_
      refine va_get (D := (dC, dI)) (ci := 6) (v := .int usize) (C := RX6) (T := TX6) (N := 3) hx hb hts hinX7_item_X6 hown hK hP 2 rfl rfl 1 (by decide) (hts _ (List.mem_of_getElem? (i := 3) rfl)) (fun _ h9 => h9) rfl dX7_item_32 ?_
      refine lv_iconst (v := 1) hx hb dX7_item_35 (by decide) ?_
      refine lv_isub hx hb dX7_item_36 ?_
      obtain ⟨r37, hc37, hm⟩ := bd1_e hm
      refine k_callGSi (dC := dC) (dI := dI) (kc := kc) (As := [.int x2, .int (usize - 1)]) (rest := []) (Gs' := [wdX7 kc o_o o_x_now o_x_imageHall o_x_ahead o_x_notes o_x_imageNotes o_x_libraries o_x_reader o_x_acts z_o ohasImage olibraryCount, wdQT kc z_o zarr, wdX6 kc u_o u_items usort usize uitems]) hx hb hml hown hts hK hP hD hS hA (ctX7_isWithin (x1 := x2) (x2 := usize - 1) hc37) (va_cwS 2 hts gX7_item_X7_isWithin rfl rfl rfl (by decide +kernel) ⟨Nat.le_of_ble_eq_true rfl, Nat.le_of_ble_eq_true rfl⟩) [] rfl (by decide) rfl hl rfl (Nat.le_of_ble_eq_true rfl) dX7_item_37 ⟨Nat.zero_le _, Nat.zero_le _⟩ rfl rfl rfl (fun H locs hP hD hS => ?_)
      refine lv_if_ne (tgt := 46) hx hb dX7_item_40 (by decide) (fun c40 => ?_) (fun c40 => ?_)
      · replace hm := it_f c40 hm
        refine lv_aload hx hb dX7_item_46 (lv_at hl 0 rfl) ?_
        refine va_get (D := (dC, dI)) (ci := 6) (v := .ref u_items) (C := RX6) (T := TX6) (N := 3) hx hb hts hinX7_item_X6 hown hK hP 2 rfl rfl 2 (by decide) (hts _ (List.mem_of_getElem? (i := 4) rfl)) (fun _ h9 => h9) rfl dX7_item_48 ?_
        refine lv_iload_n hx hb dX7_item_51 rfl (lv_at hl 3 rfl) ?_
        refine lv_aload hx hb dX7_item_52 (lv_at hl 0 rfl) ?_
        refine va_get (D := (dC, dI)) (ci := 6) (v := .int usort) (C := RX6) (T := TX6) (N := 3) hx hb hts hinX7_item_X6 hown hK hP 2 rfl rfl 0 (by decide) (hts _ (List.mem_of_getElem? (i := 2) rfl)) (fun _ h9 => h9) rfl dX7_item_54 ?_
        refine lv_lload_n hx hb dX7_item_57 rfl (lv_at hl 4 rfl) ?_
        obtain ⟨r58, hc58, hm⟩ := bd1_e hm
        refine k_callGSl (dC := dC) (dI := dI) (kc := kc) (As := [.int usort, .long x3]) (rest := [.int x2, .ref u_items]) (Gs' := [wdX7 kc o_o o_x_now o_x_imageHall o_x_ahead o_x_notes o_x_imageNotes o_x_libraries o_x_reader o_x_acts z_o ohasImage olibraryCount, wdQT kc z_o zarr, wdX6 kc u_o u_items usort usize uitems]) hx hb hml hown hts hK hP hD hS hA (ctX7_asItem (x1 := usort) (x2 := x3) hc58) (va_cwS 2 hts gX7_item_X7_asItem rfl rfl rfl (by decide +kernel) ⟨Nat.le_of_ble_eq_true rfl, Nat.le_of_ble_eq_true rfl⟩) [] rfl (by decide) rfl hl rfl (Nat.le_of_ble_eq_true rfl) dX7_item_58 ⟨Nat.zero_le _, Nat.zero_le _⟩ rfl rfl rfl (fun H locs hP hD hS => ?_)
        obtain ⟨hg61, hm⟩ := gd_e hm
        refine k_last (D := (dC, dI)) hx hb hK hP hD hS 3 2 rfl rfl (k := x2.toNatClampNeg) rfl hg61 dX7_item_61 (fun H locs hP hD hS => ?_)
        have hP : va_P (dC, dI) vwCl (fl [wdX7 kc o_o o_x_now o_x_imageHall o_x_ahead o_x_notes o_x_imageNotes o_x_libraries o_x_reader o_x_acts z_o ohasImage olibraryCount, wdQT kc z_o zarr, wdX6 kc u_o u_items usort usize (vp_updL uitems (x2.toNatClampNeg) r58)]) H := hP
        have hD : va_D A (fl [wdX7 kc o_o o_x_now o_x_imageHall o_x_ahead o_x_notes o_x_imageNotes o_x_libraries o_x_reader o_x_acts z_o ohasImage olibraryCount, wdQT kc z_o zarr, wdX6 kc u_o u_items usort usize (vp_updL uitems (x2.toNatClampNeg) r58)]) := hD
        refine lv_iconst (v := 1) hx hb dX7_item_62 (by decide) ?_
        cases hm
        exact k_iret hx hb hr hlocks hP hS dX7_item_63
      · replace hm := it_t c40 hm
        refine lv_bipush (v := (-13)) hx hb dX7_item_43 (by decide) ?_
        cases hm
        exact k_iret hx hb hr hlocks hP hS dX7_item_45
    · replace hm := it_t c23 hm
      refine lv_bipush (v := (-11)) hx hb dX7_item_26 (by decide) ?_
      cases hm
      exact k_iret hx hb hr hlocks hP hS dX7_item_28
  · replace hm := it_t c4 hm
    refine lv_iconst (v := (-1)) hx hb dX7_item_7 (by decide) ?_
    cases hm
    exact k_iret hx hb hr hlocks hP hS dX7_item_8
def fX7_read (zarr : Nat → Option Nat) (usize : Int32) (uitems : Nat → Int64) (x1 : Int32) (x2 : Int32) : Option Int64 := bd1 (fX7_isTape x1) (fun r1 => if r1 = 0 then (some ((-9223372036854775808) : Int64)) else (gd (inb x1 6) (bd1 (fX7_isWithin x2 (usize - 1)) (fun r19 => if r19 = 0 then (some ((-9223372036854775808) : Int64)) else (gd (inb x1 6) (gd (inb x2 60) (some (uitems (x2.toNatClampNeg)))))))))
theorem hinX7_read_X6 : ∀ w ∈ u_ws RX6 TX6 3, w ∈ wsX7_read := fun _ h => List.mem_cons_of_mem _ (List.mem_append_right _ h)
theorem hinX7_read_X7 : ∀ w ∈ u_ws RX7 TX7 11, w ∈ wsX7_read := fun _ h => List.mem_cons_of_mem _ (List.mem_append_left _ (List.mem_append_right _ h))
abbrev rmX7_read : Room := { frames := 2, cells := 0, slots := 0, locals := 53 }
set_option maxHeartbeats 4000000 in
set_option maxRecDepth 100000 in
theorem ctX7_read {l : Launch} {dC : Nat → ClassId} {dI : Nat → Nat → Nat} {kc : Nat → ClassId} {o_o z_o u_o u_items o_x_now o_x_imageHall o_x_ahead o_x_notes o_x_imageNotes o_x_libraries o_x_reader o_x_acts : Nat} {ohasImage : Int32} {olibraryCount : Int32} {zarr : Nat → Option Nat} {usort : Int32} {usize : Int32} {uitems : Nat → Int64} {x1 : Int32} {x2 : Int32} {r : Int64} (hm : fX7_read zarr usize uitems x1 x2 = some r) (hq_u_0 : zarr x1.toNatClampNeg = some u_o) : ∀ sz : Nat, Met l yX7_read wsX7_read rmX7_read (kPc dC dI kc [.ref o_o, .int x1, .int x2] (fl [wdX7 kc o_o o_x_now o_x_imageHall o_x_ahead o_x_notes o_x_imageNotes o_x_libraries o_x_reader o_x_acts z_o ohasImage olibraryCount, wdQT kc z_o zarr, wdX6 kc u_o u_items usort usize uitems]) sz) (kQl dC dI r (fl [wdX7 kc o_o o_x_now o_x_imageHall o_x_ahead o_x_notes o_x_imageNotes o_x_libraries o_x_reader o_x_acts z_o ohasImage olibraryCount, wdQT kc z_o zarr, wdX6 kc u_o u_items usort usize uitems]) (va_A (fl [wdX7 kc o_o o_x_now o_x_imageHall o_x_ahead o_x_notes o_x_imageNotes o_x_libraries o_x_reader o_x_acts z_o ohasImage olibraryCount, wdQT kc z_o zarr, wdX6 kc u_o u_items usort usize uitems]) sz)) 0 0 (va_A (fl [wdX7 kc o_o o_x_now o_x_imageHall o_x_ahead o_x_notes o_x_imageNotes o_x_libraries o_x_reader o_x_acts z_o ohasImage olibraryCount, wdQT kc z_o zarr, wdX6 kc u_o u_items usort usize uitems]) sz) := by
  intro sz
  refine kMet (cc := cX7_read) (maxL := 3) (ret := (some .long)) (Qf := fun A => kQl dC dI r (fl [wdX7 kc o_o o_x_now o_x_imageHall o_x_ahead o_x_notes o_x_imageNotes o_x_libraries o_x_reader o_x_acts z_o ohasImage olibraryCount, wdQT kc z_o zarr, wdX6 kc u_o u_items usort usize uitems]) A) (by decide) rfl (Nat.le_of_ble_eq_true rfl) ?_
  intro p e s m below meth c A ls hx hb hr hml hts hown hlocks hname hsz hA hP hK hD hl
  have hS : va_S A s.heap s.heap [] := va_S.rf
  have hl : lv_has ls 3 [(0, .ref o_o), (1, .int x1), (2, .int x2)] := hl
  unfold fX7_read at hm
  refine lv_iload_n hx hb dX7_read_0 rfl (lv_at hl 1 rfl) ?_
  obtain ⟨r1, hc1, hm⟩ := bd1_e hm
  refine k_callGSi (dC := dC) (dI := dI) (kc := kc) (As := [.int x1]) (rest := []) (Gs' := [wdX7 kc o_o o_x_now o_x_imageHall o_x_ahead o_x_notes o_x_imageNotes o_x_libraries o_x_reader o_x_acts z_o ohasImage olibraryCount, wdQT kc z_o zarr, wdX6 kc u_o u_items usort usize uitems]) hx hb hml hown hts hK hP hD hS hA (ctX7_isTape (x1 := x1) hc1) (va_cwS 1 hts gX7_read_X7_isTape rfl rfl rfl (by decide +kernel) ⟨Nat.le_of_ble_eq_true rfl, Nat.le_of_ble_eq_true rfl⟩) [] rfl (by decide) rfl hl rfl (Nat.le_of_ble_eq_true rfl) dX7_read_1 ⟨Nat.zero_le _, Nat.zero_le _⟩ rfl rfl rfl (fun H locs hP hD hS => ?_)
  refine lv_if_eq (tgt := 25) hx hb dX7_read_4 (by decide) (fun c4 => ?_) (fun c4 => ?_)
  · replace hm := it_t c4 hm
    refine lv_ldc2 hx hb hown (hts _ (List.mem_of_getElem? (i := 3) rfl)) dX7_read_25 ?_
    cases hm
    exact k_lret hx hb hr hlocks hP hS dX7_read_28
  · replace hm := it_f c4 hm
    refine lv_iload_n hx hb dX7_read_7 rfl (lv_at hl 2 rfl) ?_
    refine lv_aload_n hx hb dX7_read_8 rfl (lv_at hl 0 rfl) ?_
    refine va_get (D := (dC, dI)) (ci := 7) (v := .ref z_o) (C := RX7) (T := TX7) (N := 11) hx hb hts hinX7_read_X7 hown hK hP 0 rfl rfl 10 (by decide) (hts _ (List.mem_of_getElem? (i := 1) rfl)) (fun _ h9 => h9) rfl dX7_read_9 ?_
    refine lv_iload_n hx hb dX7_read_12 rfl (lv_at hl 1 rfl) ?_
    obtain ⟨hg13, hm⟩ := gd_e hm
    refine k_aald (D := (dC, dI)) hx hb hK hP 1 5 rfl rfl (k := x1.toNatClampNeg) rfl hg13 hq_u_0 dX7_read_13 ?_
    refine va_get (D := (dC, dI)) (ci := 6) (v := .int usize) (C := RX6) (T := TX6) (N := 3) hx hb hts hinX7_read_X6 hown hK hP 2 rfl rfl 1 (by decide) (hts _ (List.mem_of_getElem? (i := 2) rfl)) (fun _ h9 => h9) rfl dX7_read_14 ?_
    refine lv_iconst (v := 1) hx hb dX7_read_17 (by decide) ?_
    refine lv_isub hx hb dX7_read_18 ?_
    obtain ⟨r19, hc19, hm⟩ := bd1_e hm
    refine k_callGSi (dC := dC) (dI := dI) (kc := kc) (As := [.int x2, .int (usize - 1)]) (rest := []) (Gs' := [wdX7 kc o_o o_x_now o_x_imageHall o_x_ahead o_x_notes o_x_imageNotes o_x_libraries o_x_reader o_x_acts z_o ohasImage olibraryCount, wdQT kc z_o zarr, wdX6 kc u_o u_items usort usize uitems]) hx hb hml hown hts hK hP hD hS hA (ctX7_isWithin (x1 := x2) (x2 := usize - 1) hc19) (va_cwS 2 hts gX7_read_X7_isWithin rfl rfl rfl (by decide +kernel) ⟨Nat.le_of_ble_eq_true rfl, Nat.le_of_ble_eq_true rfl⟩) [] rfl (by decide) rfl hl rfl (Nat.le_of_ble_eq_true rfl) dX7_read_19 ⟨Nat.zero_le _, Nat.zero_le _⟩ rfl rfl rfl (fun H locs hP hD hS => ?_)
    refine lv_if_ne (tgt := 29) hx hb dX7_read_22 (by decide) (fun c22 => ?_) (fun c22 => ?_)
    · replace hm := it_f c22 hm
      refine lv_aload_n hx hb dX7_read_29 rfl (lv_at hl 0 rfl) ?_
      refine va_get (D := (dC, dI)) (ci := 7) (v := .ref z_o) (C := RX7) (T := TX7) (N := 11) hx hb hts hinX7_read_X7 hown hK hP 0 rfl rfl 10 (by decide) (hts _ (List.mem_of_getElem? (i := 1) rfl)) (fun _ h9 => h9) rfl dX7_read_30 ?_
      refine lv_iload_n hx hb dX7_read_33 rfl (lv_at hl 1 rfl) ?_
      obtain ⟨hg34, hm⟩ := gd_e hm
      refine k_aald (D := (dC, dI)) hx hb hK hP 1 5 rfl rfl (k := x1.toNatClampNeg) rfl hg34 hq_u_0 dX7_read_34 ?_
      refine va_get (D := (dC, dI)) (ci := 6) (v := .ref u_items) (C := RX6) (T := TX6) (N := 3) hx hb hts hinX7_read_X6 hown hK hP 2 rfl rfl 2 (by decide) (hts _ (List.mem_of_getElem? (i := 4) rfl)) (fun _ h9 => h9) rfl dX7_read_35 ?_
      refine lv_iload_n hx hb dX7_read_38 rfl (lv_at hl 2 rfl) ?_
      obtain ⟨hg39, hm⟩ := gd_e hm
      refine k_lald (D := (dC, dI)) hx hb hK hP 3 2 rfl rfl (k := x2.toNatClampNeg) rfl hg39 dX7_read_39 ?_
      cases hm
      exact k_lret hx hb hr hlocks hP hS dX7_read_40
    · replace hm := it_t c22 hm
      refine lv_ldc2 hx hb hown (hts _ (List.mem_of_getElem? (i := 3) rfl)) dX7_read_25 ?_
      cases hm
      exact k_lret hx hb hr hlocks hP hS dX7_read_28
def fX7_shift (zarr : Nat → Option Nat) (usort : Int32) (usize : Int32) (uitems : Nat → Int64) (vsort : Int32) (vsize : Int32) (vitems : Nat → Int64) (x1 : Int32) (x2 : Int32) (x3 : Int32) (x4 : Int32) (x5 : Int32) : Option (Int32 × (Nat → Int64)) := bd1 (fX7_isTape x1) (fun r1 => if r1 = 0 then (some (((-1) : Int32), vitems)) else (bd1 (fX7_isTape x3) (fun r8 => if r8 = 0 then (some (((-1) : Int32), vitems)) else (gd (inb x1 6) (gd (inb x3 6) (if usort = (-1) then (some (((-11) : Int32), vitems)) else (if vsort = (-1) then (some (((-11) : Int32), vitems)) else (if usort = vsort then (if x5 < 0 then (some (((-13) : Int32), vitems)) else (bd1 (fX6_hasRoom usize x2 x5) (fun r79 => if r79 = 0 then (some (((-13) : Int32), vitems)) else (bd1 (fX6_hasRoom vsize x4 x5) (fun r91 => if r91 = 0 then (some (((-13) : Int32), vitems)) else (gd (¬ x2 < 0 ∧ ¬ x4 < 0 ∧ ¬ x5 < 0 ∧ x2.toNatClampNeg + x5.toNatClampNeg ≤ 60 ∧ x4.toNatClampNeg + x5.toNatClampNeg ≤ 60) (some (x5, va_cpy uitems vitems x2.toNatClampNeg x4.toNatClampNeg x5.toNatClampNeg)))))))) else (some (((-12) : Int32), vitems))))))))))
theorem hinX7_shift_X6 : ∀ w ∈ u_ws RX6 TX6 3, w ∈ wsX7_shift := fun _ h => List.mem_cons_of_mem _ (List.mem_append_right _ h)
theorem hinX7_shift_X7 : ∀ w ∈ u_ws RX7 TX7 11, w ∈ wsX7_shift := fun _ h => List.mem_cons_of_mem _ (List.mem_append_left _ (List.mem_append_right _ h))
abbrev rmX7_shift : Room := { frames := 2, cells := 0, slots := 0, locals := 53 }
set_option maxHeartbeats 4000000 in
set_option maxRecDepth 100000 in
theorem ctX7_shift {l : Launch} {dC : Nat → ClassId} {dI : Nat → Nat → Nat} {kc : Nat → ClassId} {o_o z_o u_o u_items v_o v_items o_x_now o_x_imageHall o_x_ahead o_x_notes o_x_imageNotes o_x_libraries o_x_reader o_x_acts : Nat} {ohasImage : Int32} {olibraryCount : Int32} {zarr : Nat → Option Nat} {usort : Int32} {usize : Int32} {uitems : Nat → Int64} {vsort : Int32} {vsize : Int32} {vitems : Nat → Int64} {x1 : Int32} {x2 : Int32} {x3 : Int32} {x4 : Int32} {x5 : Int32} {r : Int32} {vitems' : Nat → Int64} (hm : fX7_shift zarr usort usize uitems vsort vsize vitems x1 x2 x3 x4 x5 = some (r, vitems')) (hq_u_0 : zarr x1.toNatClampNeg = some u_o) (hq_v_0 : zarr x3.toNatClampNeg = some v_o) : ∀ sz : Nat, Met l yX7_shift wsX7_shift rmX7_shift (kPc dC dI kc [.ref o_o, .int x1, .int x2, .int x3, .int x4, .int x5] (fl [wdX7 kc o_o o_x_now o_x_imageHall o_x_ahead o_x_notes o_x_imageNotes o_x_libraries o_x_reader o_x_acts z_o ohasImage olibraryCount, wdQT kc z_o zarr, wdX6 kc u_o u_items usort usize uitems, wdX6 kc v_o v_items vsort vsize vitems]) sz) (kQi dC dI r (fl [wdX7 kc o_o o_x_now o_x_imageHall o_x_ahead o_x_notes o_x_imageNotes o_x_libraries o_x_reader o_x_acts z_o ohasImage olibraryCount, wdQT kc z_o zarr, wdX6 kc u_o u_items usort usize uitems, wdX6 kc v_o v_items vsort vsize vitems']) (va_A (fl [wdX7 kc o_o o_x_now o_x_imageHall o_x_ahead o_x_notes o_x_imageNotes o_x_libraries o_x_reader o_x_acts z_o ohasImage olibraryCount, wdQT kc z_o zarr, wdX6 kc u_o u_items usort usize uitems, wdX6 kc v_o v_items vsort vsize vitems]) sz)) 0 0 (va_A (fl [wdX7 kc o_o o_x_now o_x_imageHall o_x_ahead o_x_notes o_x_imageNotes o_x_libraries o_x_reader o_x_acts z_o ohasImage olibraryCount, wdQT kc z_o zarr, wdX6 kc u_o u_items usort usize uitems, wdX6 kc v_o v_items vsort vsize vitems]) sz) := by
  intro sz
  refine kMet (cc := cX7_shift) (maxL := 8) (ret := (some .int)) (Qf := fun A => kQi dC dI r (fl [wdX7 kc o_o o_x_now o_x_imageHall o_x_ahead o_x_notes o_x_imageNotes o_x_libraries o_x_reader o_x_acts z_o ohasImage olibraryCount, wdQT kc z_o zarr, wdX6 kc u_o u_items usort usize uitems, wdX6 kc v_o v_items vsort vsize vitems']) A) (by decide) rfl (Nat.le_of_ble_eq_true rfl) ?_
  intro p e s m below meth c A ls hx hb hr hml hts hown hlocks hname hsz hA hP hK hD hl
  have hS : va_S A s.heap s.heap [] := va_S.rf
  have hl : lv_has ls 8 [(0, .ref o_o), (1, .int x1), (2, .int x2), (3, .int x3), (4, .int x4), (5, .int x5)] := hl
  unfold fX7_shift at hm
  refine lv_iload_n hx hb dX7_shift_0 rfl (lv_at hl 1 rfl) ?_
  obtain ⟨r1, hc1, hm⟩ := bd1_e hm
  refine k_callGSi (dC := dC) (dI := dI) (kc := kc) (As := [.int x1]) (rest := []) (Gs' := [wdX7 kc o_o o_x_now o_x_imageHall o_x_ahead o_x_notes o_x_imageNotes o_x_libraries o_x_reader o_x_acts z_o ohasImage olibraryCount, wdQT kc z_o zarr, wdX6 kc u_o u_items usort usize uitems, wdX6 kc v_o v_items vsort vsize vitems]) hx hb hml hown hts hK hP hD hS hA (ctX7_isTape (x1 := x1) hc1) (va_cwS 1 hts gX7_shift_X7_isTape rfl rfl rfl (by decide +kernel) ⟨Nat.le_of_ble_eq_true rfl, Nat.le_of_ble_eq_true rfl⟩) [] rfl (by decide) rfl hl rfl (Nat.le_of_ble_eq_true rfl) dX7_shift_1 ⟨Nat.zero_le _, Nat.zero_le _⟩ rfl rfl rfl (fun H locs hP hD hS => ?_)
  refine lv_if_eq (tgt := 14) hx hb dX7_shift_4 (by decide) (fun c4 => ?_) (fun c4 => ?_)
  · replace hm := it_t c4 hm
    refine lv_iconst (v := (-1)) hx hb dX7_shift_14 (by decide) ?_
    cases hm
    exact k_iret hx hb hr hlocks hP hS dX7_shift_15
  · replace hm := it_f c4 hm
    refine lv_iload_n hx hb dX7_shift_7 rfl (lv_at hl 3 rfl) ?_
    obtain ⟨r8, hc8, hm⟩ := bd1_e hm
    refine k_callGSi (dC := dC) (dI := dI) (kc := kc) (As := [.int x3]) (rest := []) (Gs' := [wdX7 kc o_o o_x_now o_x_imageHall o_x_ahead o_x_notes o_x_imageNotes o_x_libraries o_x_reader o_x_acts z_o ohasImage olibraryCount, wdQT kc z_o zarr, wdX6 kc u_o u_items usort usize uitems, wdX6 kc v_o v_items vsort vsize vitems]) hx hb hml hown hts hK hP hD hS hA (ctX7_isTape (x1 := x3) hc8) (va_cwS 1 hts gX7_shift_X7_isTape rfl rfl rfl (by decide +kernel) ⟨Nat.le_of_ble_eq_true rfl, Nat.le_of_ble_eq_true rfl⟩) [] rfl (by decide) rfl hl rfl (Nat.le_of_ble_eq_true rfl) dX7_shift_8 ⟨Nat.zero_le _, Nat.zero_le _⟩ rfl rfl rfl (fun H locs hP hD hS => ?_)
    refine lv_if_ne (tgt := 16) hx hb dX7_shift_11 (by decide) (fun c11 => ?_) (fun c11 => ?_)
    · replace hm := it_f c11 hm
      refine lv_aload_n hx hb dX7_shift_16 rfl (lv_at hl 0 rfl) ?_
      refine va_get (D := (dC, dI)) (ci := 7) (v := .ref z_o) (C := RX7) (T := TX7) (N := 11) hx hb hts hinX7_shift_X7 hown hK hP 0 rfl rfl 10 (by decide) (hts _ (List.mem_of_getElem? (i := 1) rfl)) (fun _ h9 => h9) rfl dX7_shift_17 ?_
      refine lv_iload_n hx hb dX7_shift_20 rfl (lv_at hl 1 rfl) ?_
      obtain ⟨hg21, hm⟩ := gd_e hm
      refine k_aald (D := (dC, dI)) hx hb hK hP 1 5 rfl rfl (k := x1.toNatClampNeg) rfl hg21 hq_u_0 dX7_shift_21 ?_
      refine lv_astore (lv' := [(6, .ref u_o), (0, .ref o_o), (1, .int x1), (2, .int x2), (3, .int x3), (4, .int x4), (5, .int x5)]) hx hb dX7_shift_22 hl (by decide) rfl (fun ls hl => ?_)
      refine lv_aload_n hx hb dX7_shift_24 rfl (lv_at hl 1 rfl) ?_
      refine va_get (D := (dC, dI)) (ci := 7) (v := .ref z_o) (C := RX7) (T := TX7) (N := 11) hx hb hts hinX7_shift_X7 hown hK hP 0 rfl rfl 10 (by decide) (hts _ (List.mem_of_getElem? (i := 1) rfl)) (fun _ h9 => h9) rfl dX7_shift_25 ?_
      refine lv_iload_n hx hb dX7_shift_28 rfl (lv_at hl 4 rfl) ?_
      obtain ⟨hg29, hm⟩ := gd_e hm
      refine k_aald (D := (dC, dI)) hx hb hK hP 1 5 rfl rfl (k := x3.toNatClampNeg) rfl hg29 hq_v_0 dX7_shift_29 ?_
      refine lv_astore (lv' := [(7, .ref v_o), (6, .ref u_o), (0, .ref o_o), (1, .int x1), (2, .int x2), (3, .int x3), (4, .int x4), (5, .int x5)]) hx hb dX7_shift_30 hl (by decide) rfl (fun ls hl => ?_)
      refine lv_aload hx hb dX7_shift_32 (lv_at hl 1 rfl) ?_
      refine va_get (D := (dC, dI)) (ci := 6) (v := .int usort) (C := RX6) (T := TX6) (N := 3) hx hb hts hinX7_shift_X6 hown hK hP 2 rfl rfl 0 (by decide) (hts _ (List.mem_of_getElem? (i := 2) rfl)) (fun _ h9 => h9) rfl dX7_shift_34 ?_
      refine lv_iconst (v := (-1)) hx hb dX7_shift_37 (by decide) ?_
      refine lv_icmp_eq (tgt := 50) hx hb dX7_shift_38 (by decide) (fun c38 => ?_) (fun c38 => ?_)
      · replace hm := it_t c38 hm
        refine lv_bipush (v := (-11)) hx hb dX7_shift_50 (by decide) ?_
        cases hm
        exact k_iret hx hb hr hlocks hP hS dX7_shift_52
      · replace hm := it_f c38 hm
        refine lv_aload hx hb dX7_shift_41 (lv_at hl 0 rfl) ?_
        refine va_get (D := (dC, dI)) (ci := 6) (v := .int vsort) (C := RX6) (T := TX6) (N := 3) hx hb hts hinX7_shift_X6 hown hK hP 4 rfl rfl 0 (by decide) (hts _ (List.mem_of_getElem? (i := 2) rfl)) (fun _ h9 => h9) rfl dX7_shift_43 ?_
        refine lv_iconst (v := (-1)) hx hb dX7_shift_46 (by decide) ?_
        refine lv_icmp_ne (tgt := 53) hx hb dX7_shift_47 (by decide) (fun c47 => ?_) (fun c47 => ?_)
        · replace hm := it_f c47 hm
          refine lv_aload hx hb dX7_shift_53 (lv_at hl 1 rfl) ?_
          refine va_get (D := (dC, dI)) (ci := 6) (v := .int usort) (C := RX6) (T := TX6) (N := 3) hx hb hts hinX7_shift_X6 hown hK hP 2 rfl rfl 0 (by decide) (hts _ (List.mem_of_getElem? (i := 2) rfl)) (fun _ h9 => h9) rfl dX7_shift_55 ?_
          refine lv_aload hx hb dX7_shift_58 (lv_at hl 0 rfl) ?_
          refine va_get (D := (dC, dI)) (ci := 6) (v := .int vsort) (C := RX6) (T := TX6) (N := 3) hx hb hts hinX7_shift_X6 hown hK hP 4 rfl rfl 0 (by decide) (hts _ (List.mem_of_getElem? (i := 2) rfl)) (fun _ h9 => h9) rfl dX7_shift_60 ?_
          refine lv_icmp_eq (tgt := 69) hx hb dX7_shift_63 (by decide) (fun c63 => ?_) (fun c63 => ?_)
          · replace hm := it_t c63 hm
            refine lv_iload hx hb dX7_shift_69 (lv_at hl 7 rfl) ?_
            refine lv_if_lt (tgt := 97) hx hb dX7_shift_71 (by decide) (fun c71 => ?_) (fun c71 => ?_)
            · replace hm := it_t c71 hm
              refine lv_bipush (v := (-13)) hx hb dX7_shift_97 (by decide) ?_
              cases hm
              exact k_iret hx hb hr hlocks hP hS dX7_shift_99
            · replace hm := it_f c71 hm
              refine lv_aload hx hb dX7_shift_74 (lv_at hl 1 rfl) ?_
              refine lv_iload_n hx hb dX7_shift_76 rfl (lv_at hl 4 rfl) ?_
              refine lv_iload hx hb dX7_shift_77 (lv_at hl 7 rfl) ?_
              obtain ⟨r79, hc79, hm⟩ := bd1_e hm
              refine k_callGVi (dC := dC) (dI := dI) (kc := kc) (As := [.int x2, .int x5]) (rest := []) (Gs' := [wdX7 kc o_o o_x_now o_x_imageHall o_x_ahead o_x_notes o_x_imageNotes o_x_libraries o_x_reader o_x_acts z_o ohasImage olibraryCount, wdQT kc z_o zarr, wdX6 kc u_o u_items usort usize uitems, wdX6 kc v_o v_items vsort vsize vitems]) hx hb hml hown hts hK hP hD hS hA (ctX6_hasRoom (u_o := u_o) (u_items := u_items) (usort := usort) (usize := usize) (uitems := uitems) (x1 := x2) (x2 := x5) hc79) (cwV 2 hts gX7_shift_X6_hasRoom rfl rfl rfl (by decide +kernel) ⟨Nat.le_of_ble_eq_true rfl, Nat.le_of_ble_eq_true rfl⟩) [2] rfl (by decide) 6 rfl rfl rfl rfl hl rfl (Nat.le_of_ble_eq_true rfl) dX7_shift_79 ⟨Nat.zero_le _, Nat.zero_le _⟩ rfl rfl rfl (fun H locs hP hD hS => ?_)
              refine lv_if_eq (tgt := 97) hx hb dX7_shift_82 (by decide) (fun c82 => ?_) (fun c82 => ?_)
              · replace hm := it_t c82 hm
                refine lv_bipush (v := (-13)) hx hb dX7_shift_97 (by decide) ?_
                cases hm
                exact k_iret hx hb hr hlocks hP hS dX7_shift_99
              · replace hm := it_f c82 hm
                refine lv_aload hx hb dX7_shift_85 (lv_at hl 0 rfl) ?_
                refine lv_iload hx hb dX7_shift_87 (lv_at hl 6 rfl) ?_
                refine lv_iload hx hb dX7_shift_89 (lv_at hl 7 rfl) ?_
                obtain ⟨r91, hc91, hm⟩ := bd1_e hm
                refine k_callGVi (dC := dC) (dI := dI) (kc := kc) (As := [.int x4, .int x5]) (rest := []) (Gs' := [wdX7 kc o_o o_x_now o_x_imageHall o_x_ahead o_x_notes o_x_imageNotes o_x_libraries o_x_reader o_x_acts z_o ohasImage olibraryCount, wdQT kc z_o zarr, wdX6 kc u_o u_items usort usize uitems, wdX6 kc v_o v_items vsort vsize vitems]) hx hb hml hown hts hK hP hD hS hA (ctX6_hasRoom (u_o := v_o) (u_items := v_items) (usort := vsort) (usize := vsize) (uitems := vitems) (x1 := x4) (x2 := x5) hc91) (cwV 2 hts gX7_shift_X6_hasRoom rfl rfl rfl (by decide +kernel) ⟨Nat.le_of_ble_eq_true rfl, Nat.le_of_ble_eq_true rfl⟩) [3] rfl (by decide) 6 rfl rfl rfl rfl hl rfl (Nat.le_of_ble_eq_true rfl) dX7_shift_91 ⟨Nat.zero_le _, Nat.zero_le _⟩ rfl rfl rfl (fun H locs hP hD hS => ?_)
                refine lv_if_ne (tgt := 100) hx hb dX7_shift_94 (by decide) (fun c94 => ?_) (fun c94 => ?_)
                · replace hm := it_f c94 hm
                  refine lv_aload hx hb dX7_shift_100 (lv_at hl 1 rfl) ?_
                  refine va_get (D := (dC, dI)) (ci := 6) (v := .ref u_items) (C := RX6) (T := TX6) (N := 3) hx hb hts hinX7_shift_X6 hown hK hP 2 rfl rfl 2 (by decide) (hts _ (List.mem_of_getElem? (i := 3) rfl)) (fun _ h9 => h9) rfl dX7_shift_102 ?_
                  refine lv_iload_n hx hb dX7_shift_105 rfl (lv_at hl 4 rfl) ?_
                  refine lv_aload hx hb dX7_shift_106 (lv_at hl 0 rfl) ?_
                  refine va_get (D := (dC, dI)) (ci := 6) (v := .ref v_items) (C := RX6) (T := TX6) (N := 3) hx hb hts hinX7_shift_X6 hown hK hP 4 rfl rfl 2 (by decide) (hts _ (List.mem_of_getElem? (i := 3) rfl)) (fun _ h9 => h9) rfl dX7_shift_108 ?_
                  refine lv_iload hx hb dX7_shift_111 (lv_at hl 6 rfl) ?_
                  refine lv_iload hx hb dX7_shift_113 (lv_at hl 7 rfl) ?_
                  obtain ⟨⟨hga115, hgb115, hgc115, hgd115, hge115⟩, hm⟩ := gd_e hm
                  refine va_copyl (D := (dC, dI)) hx hb (hml.trans hl.1.symm) hown (hts _ (List.mem_of_getElem? (i := 4) rfl)) (hts _ (List.mem_of_getElem? (i := 5) rfl)) (hts _ (List.mem_of_getElem? (i := 6) rfl)) (hts _ (List.mem_of_getElem? (i := 7) rfl)) hK hP hD hS 3 5 2 2 rfl rfl rfl rfl rfl hga115 hgb115 hgc115 hgd115 hge115 (fun _ _ => rfl) (Nat.le_of_ble_eq_true rfl) (Nat.le_of_ble_eq_true rfl) dX7_shift_115 (fun H locs hP hD hS => ?_)
                  have hP : va_P (dC, dI) vwCl (fl [wdX7 kc o_o o_x_now o_x_imageHall o_x_ahead o_x_notes o_x_imageNotes o_x_libraries o_x_reader o_x_acts z_o ohasImage olibraryCount, wdQT kc z_o zarr, wdX6 kc u_o u_items usort usize uitems, wdX6 kc v_o v_items vsort vsize (va_cpy uitems vitems x2.toNatClampNeg x4.toNatClampNeg x5.toNatClampNeg)]) H := hP
                  have hD : va_D A (fl [wdX7 kc o_o o_x_now o_x_imageHall o_x_ahead o_x_notes o_x_imageNotes o_x_libraries o_x_reader o_x_acts z_o ohasImage olibraryCount, wdQT kc z_o zarr, wdX6 kc u_o u_items usort usize uitems, wdX6 kc v_o v_items vsort vsize (va_cpy uitems vitems x2.toNatClampNeg x4.toNatClampNeg x5.toNatClampNeg)]) := hD
                  refine lv_iload hx hb dX7_shift_118 (lv_at hl 7 rfl) ?_
                  cases hm
                  exact k_iret hx hb hr hlocks hP hS dX7_shift_120
                · replace hm := it_t c94 hm
                  refine lv_bipush (v := (-13)) hx hb dX7_shift_97 (by decide) ?_
                  cases hm
                  exact k_iret hx hb hr hlocks hP hS dX7_shift_99
          · replace hm := it_f c63 hm
            refine lv_bipush (v := (-12)) hx hb dX7_shift_66 (by decide) ?_
            cases hm
            exact k_iret hx hb hr hlocks hP hS dX7_shift_68
        · replace hm := it_t c47 hm
          refine lv_bipush (v := (-11)) hx hb dX7_shift_50 (by decide) ?_
          cases hm
          exact k_iret hx hb hr hlocks hP hS dX7_shift_52
    · replace hm := it_t c11 hm
      refine lv_iconst (v := (-1)) hx hb dX7_shift_14 (by decide) ?_
      cases hm
      exact k_iret hx hb hr hlocks hP hS dX7_shift_15
