def fX8_isIn (x1 : Int32) (x2 : Int32) (x3 : Int32) : Option Int32 := if x1 < x2 then (some (0 : Int32)) else (if x3 < x1 then (some (0 : Int32)) else (some (1 : Int32)))
abbrev rmX8_isIn : Room := { frames := 0, cells := 0, slots := 0, locals := 12 }
set_option maxHeartbeats 4000000 in
set_option maxRecDepth 100000 in
theorem ctX8_isIn {l : Launch} {dC : Nat → ClassId} {dI : Nat → Nat → Nat} {kc : Nat → ClassId} {x1 : Int32} {x2 : Int32} {x3 : Int32} {r : Int32} (hm : fX8_isIn x1 x2 x3 = some r) : ∀ sz : Nat, Met l yX8_isIn wsX8_isIn rmX8_isIn (kPc dC dI kc [.int x1, .int x2, .int x3] (fl []) sz) (kQi dC dI r (fl []) (va_A (fl []) sz)) 0 0 (va_A (fl []) sz) := by
  intro sz
  refine kMet (cc := cX8_isIn) (maxL := 3) (ret := (some .boolean)) (Qf := fun A => kQi dC dI r (fl []) A) (by decide) rfl (Nat.le_of_ble_eq_true rfl) ?_
  intro p e s m below meth c A ls hx hb hr hml hts hown hlocks hname hsz hA hP hK hD hl
  have hS : va_S A s.heap s.heap [] := va_S.rf
  have hl : lv_has ls 3 [(0, .int x1), (1, .int x2), (2, .int x3)] := hl
  unfold fX8_isIn at hm
  refine lv_iload_n hx hb dX8_isIn_0 rfl (lv_at hl 0 rfl) ?_
  refine lv_iload_n hx hb dX8_isIn_1 rfl (lv_at hl 1 rfl) ?_
  refine lv_icmp_lt (tgt := 14) hx hb dX8_isIn_2 (by decide) (fun c2 => ?_) (fun c2 => ?_)
  · replace hm := it_t c2 hm
    refine lv_iconst (v := 0) hx hb dX8_isIn_14 (by decide) ?_
    cases hm
    exact k_zret hx hb hr hlocks (by decide) hP hS dX8_isIn_15
  · replace hm := it_f c2 hm
    refine lv_iload_n hx hb dX8_isIn_5 rfl (lv_at hl 0 rfl) ?_
    refine lv_iload_n hx hb dX8_isIn_6 rfl (lv_at hl 2 rfl) ?_
    refine lv_icmp_gt (tgt := 14) hx hb dX8_isIn_7 (by decide) (fun c7 => ?_) (fun c7 => ?_)
    · replace hm := it_t c7 hm
      refine lv_iconst (v := 0) hx hb dX8_isIn_14 (by decide) ?_
      cases hm
      exact k_zret hx hb hr hlocks (by decide) hP hS dX8_isIn_15
    · replace hm := it_f c7 hm
      refine lv_iconst (v := 1) hx hb dX8_isIn_10 (by decide) ?_
      refine lv_goto (tgt := 15) hx hb dX8_isIn_11 (by decide) ?_
      cases hm
      exact k_zret hx hb hr hlocks (by decide) hP hS dX8_isIn_15
def LX8_move_2 (qarr : Nat → Int32) : Nat → Int32 → (Nat → Int32) → Option (Nat → Int32)
  | 0, _, _ => none
  | n2 + 1, l2_2, zarr_2 => if 113 ≤ l2_2 then (some zarr_2) else (gd (inb l2_2 113) (gd (inb l2_2 113) (LX8_move_2 qarr n2 (l2_2 + 1) (upd zarr_2 (l2_2.toNatClampNeg) (qarr (l2_2.toNatClampNeg))))))
def fX8_move (fu : Nat) (qarr : Nat → Int32) (zarr : Nat → Int32) : Option (Nat → Int32) := LX8_move_2 qarr fu 0 zarr
abbrev rmX8_move : Room := { frames := 0, cells := 0, slots := 0, locals := 12 }
set_option maxHeartbeats 4000000 in
set_option maxRecDepth 100000 in
theorem ctX8_move {l : Launch} {dC : Nat → ClassId} {dI : Nat → Nat → Nat} {kc : Nat → ClassId} {q_o z_o : Nat} {qarr : Nat → Int32} {zarr : Nat → Int32} {fu : Nat} {zarr' : Nat → Int32} (hm : fX8_move fu qarr zarr = some zarr') : ∀ sz : Nat, Met l yX8_move wsX8_move rmX8_move (kPc dC dI kc [.ref q_o, .ref z_o] (fl [wdI113 kc q_o qarr, wdI113 kc z_o zarr]) sz) (kQv dC dI (fl [wdI113 kc q_o qarr, wdI113 kc z_o zarr']) (va_A (fl [wdI113 kc q_o qarr, wdI113 kc z_o zarr]) sz)) 0 0 (va_A (fl [wdI113 kc q_o qarr, wdI113 kc z_o zarr]) sz) := by
  intro sz
  refine kMet (cc := cX8_move) (maxL := 3) (ret := none) (Qf := fun A => kQv dC dI (fl [wdI113 kc q_o qarr, wdI113 kc z_o zarr']) A) (by decide) rfl (Nat.le_of_ble_eq_true rfl) ?_
  intro p e s m below meth c A ls hx hb hr hml hts hown hlocks hname hsz hA hP hK hD hl
  have hS : va_S A s.heap s.heap [] := va_S.rf
  have hl : lv_has ls 3 [(0, .ref q_o), (1, .ref z_o)] := hl
  unfold fX8_move at hm
  refine lv_iconst (v := 0) hx hb dX8_move_0 (by decide) ?_
  refine lv_istore_n (lv' := [(2, .int 0), (0, .ref q_o), (1, .ref z_o)]) hx hb dX8_move_1 rfl hl (by decide) rfl (fun ls hl => ?_)
  have hL2 : ∀ (fn : Nat) (l2_2 : Int32) (zarr_2 : Nat → Int32), LX8_move_2 qarr fn l2_2 zarr_2 = some zarr' → ∀ (H : Heap) (locs : List Loc), va_P (dC, dI) vwCl (fl [wdI113 kc q_o qarr, wdI113 kc z_o zarr_2]) H → va_D A (fl [wdI113 kc q_o qarr, wdI113 kc z_o zarr_2]) → va_S A s.heap H locs → ∀ ls : Array Slot, lv_has ls 3 [(0, .ref q_o), (1, .ref z_o), (2, .int l2_2)] → W p l e (headSpec wsX8_move rmX8_move).room s m [.ref q_o, .ref z_o].toArray below meth c H locs 0 0 (MQ below (kQv dC dI (fl [wdI113 kc q_o qarr, wdI113 kc z_o zarr']) A) [.ref q_o, .ref z_o].toArray s 0 0 A) (F0 m 2 ls []) := by
    clear hm hP hD hS hl
    intro n2
    induction n2 with
    | zero => intro l2_2 zarr_2 hm; rw [LX8_move_2] at hm; cases hm
    | succ n2 ih2 =>
      intro l2_2 zarr_2 hm H locs hP hD hS ls hl
      rw [LX8_move_2] at hm
      refine lv_iload_n hx hb dX8_move_2 rfl (lv_at hl 2 rfl) ?_
      refine lv_bipush (v := 113) hx hb dX8_move_3 (by decide) ?_
      refine lv_icmp_ge (tgt := 20) hx hb dX8_move_5 (by decide) (fun c5 => ?_) (fun c5 => ?_)
      · replace hm := it_t c5 hm
        cases hm
        exact k_vret hx hb hr hlocks hP hS dX8_move_20
      · replace hm := it_f c5 hm
        refine lv_aload_n hx hb dX8_move_8 rfl (lv_at hl 1 rfl) ?_
        refine lv_iload_n hx hb dX8_move_9 rfl (lv_at hl 2 rfl) ?_
        refine lv_aload_n hx hb dX8_move_10 rfl (lv_at hl 0 rfl) ?_
        refine lv_iload_n hx hb dX8_move_11 rfl (lv_at hl 2 rfl) ?_
        obtain ⟨hg12, hm⟩ := gd_e hm
        refine k_iald (D := (dC, dI)) hx hb hK hP 0 1 rfl rfl (k := l2_2.toNatClampNeg) rfl hg12 dX8_move_12 ?_
        obtain ⟨hg13, hm⟩ := gd_e hm
        refine k_iast (D := (dC, dI)) hx hb hK hP hD hS 1 1 rfl rfl (k := l2_2.toNatClampNeg) rfl hg13 dX8_move_13 (fun H locs hP hD hS => ?_)
        have hP : va_P (dC, dI) vwCl (fl [wdI113 kc q_o qarr, wdI113 kc z_o (upd zarr_2 (l2_2.toNatClampNeg) (qarr (l2_2.toNatClampNeg)))]) H := hP
        have hD : va_D A (fl [wdI113 kc q_o qarr, wdI113 kc z_o (upd zarr_2 (l2_2.toNatClampNeg) (qarr (l2_2.toNatClampNeg)))]) := hD
        refine lv_iinc (v := l2_2 + 1) (lv' := [(2, .int (l2_2 + 1)), (0, .ref q_o), (1, .ref z_o)]) hx hb dX8_move_14 hl (k := 2) rfl rfl (by decide) rfl (fun ls hl => ?_)
        refine lv_goto (tgt := 2) hx hb dX8_move_17 (by decide) ?_
        exact ih2 (l2_2 + 1) (upd zarr_2 (l2_2.toNatClampNeg) (qarr (l2_2.toNatClampNeg))) hm _ _ hP hD hS _ (lv_sub hl [1, 2, 0] rfl)
  exact hL2 _ _ _ hm _ _ hP hD hS _ (lv_sub hl [1, 2, 0] rfl)
def fX8_image (fu : Nat) (mnow : Nat → Int32) (mthen : Nat → Int32) (mkept : Int32) : Option (Int32 × (Nat → Int32) × Int32) := bd1 (fX8_move fu mnow mthen) (fun mthen_13 => some (mnow 54, mthen_13, 1))
theorem hinX8_image_X8 : ∀ w ∈ u_ws RX8 TX8 29, w ∈ wsX8_image := fun _ h => List.mem_cons_of_mem _ (List.mem_append_right _ h)
abbrev rmX8_image : Room := { frames := 1, cells := 0, slots := 0, locals := 34 }
set_option maxHeartbeats 4000000 in
set_option maxRecDepth 100000 in
theorem ctX8_image {l : Launch} {dC : Nat → ClassId} {dI : Nat → Nat → Nat} {kc : Nat → ClassId} {m_o m_now m_mind m_then m_text m_rules m_sizes m_read m_names m_letters m_begins m_words m_drifts m_above m_bodies m_trace m_sorts m_lengths m_items m_moved : Nat} {mnow : Nat → Int32} {mmind : Nat → Int32} {mthen : Nat → Int32} {mkept : Int32} {mtext : Nat → Int32} {mtexted : Int32} {mrules : Nat → Int32} {msizes : Nat → Int32} {mruled : Int32} {mread : Nat → Int32} {msize : Int32} {mat : Int32} {mwell : Int32} {mwithin : Int32} {msum : Int32} {mbear : Int32} {mnames : Nat → Int32} {mletters : Nat → Int32} {mbegins : Nat → Int32} {mwords : Nat → Int32} {mdrifts : Nat → Int32} {mabove : Nat → Int32} {mbodies : Nat → Int32} {mtrace : Nat → Int32} {mran : Int32} {msorts : Nat → Int32} {mlengths : Nat → Int32} {mitems : Nat → Int64} {mmoved : Nat → Int64} {fu : Nat} {r : Int32} {mthen' : Nat → Int32} {mkept' : Int32} (hm : fX8_image fu mnow mthen mkept = some (r, mthen', mkept')) : ∀ sz : Nat, Met l yX8_image wsX8_image rmX8_image (kPc dC dI kc [.ref m_o] (fl [wdX8 kc m_o m_now m_mind m_then m_text m_rules m_sizes m_read m_names m_letters m_begins m_words m_drifts m_above m_bodies m_trace m_sorts m_lengths m_items m_moved mnow mmind mthen mkept mtext mtexted mrules msizes mruled mread msize mat mwell mwithin msum mbear mnames mletters mbegins mwords mdrifts mabove mbodies mtrace mran msorts mlengths mitems mmoved]) sz) (kQi dC dI r (fl [wdX8 kc m_o m_now m_mind m_then m_text m_rules m_sizes m_read m_names m_letters m_begins m_words m_drifts m_above m_bodies m_trace m_sorts m_lengths m_items m_moved mnow mmind mthen' mkept' mtext mtexted mrules msizes mruled mread msize mat mwell mwithin msum mbear mnames mletters mbegins mwords mdrifts mabove mbodies mtrace mran msorts mlengths mitems mmoved]) (va_A (fl [wdX8 kc m_o m_now m_mind m_then m_text m_rules m_sizes m_read m_names m_letters m_begins m_words m_drifts m_above m_bodies m_trace m_sorts m_lengths m_items m_moved mnow mmind mthen mkept mtext mtexted mrules msizes mruled mread msize mat mwell mwithin msum mbear mnames mletters mbegins mwords mdrifts mabove mbodies mtrace mran msorts mlengths mitems mmoved]) sz)) 0 0 (va_A (fl [wdX8 kc m_o m_now m_mind m_then m_text m_rules m_sizes m_read m_names m_letters m_begins m_words m_drifts m_above m_bodies m_trace m_sorts m_lengths m_items m_moved mnow mmind mthen mkept mtext mtexted mrules msizes mruled mread msize mat mwell mwithin msum mbear mnames mletters mbegins mwords mdrifts mabove mbodies mtrace mran msorts mlengths mitems mmoved]) sz) := by
  intro sz
  refine kMet (cc := cX8_image) (maxL := 1) (ret := (some .int)) (Qf := fun A => kQi dC dI r (fl [wdX8 kc m_o m_now m_mind m_then m_text m_rules m_sizes m_read m_names m_letters m_begins m_words m_drifts m_above m_bodies m_trace m_sorts m_lengths m_items m_moved mnow mmind mthen' mkept' mtext mtexted mrules msizes mruled mread msize mat mwell mwithin msum mbear mnames mletters mbegins mwords mdrifts mabove mbodies mtrace mran msorts mlengths mitems mmoved]) A) (by decide) rfl (Nat.le_of_ble_eq_true rfl) ?_
  intro p e s m below meth c A ls hx hb hr hml hts hown hlocks hname hsz hA hP hK hD hl
  have hS : va_S A s.heap s.heap [] := va_S.rf
  have hl : lv_has ls 1 [(0, .ref m_o)] := hl
  unfold fX8_image at hm
  refine lv_aload_n hx hb dX8_image_0 rfl (lv_at hl 0 rfl) ?_
  refine lv_iconst (v := 1) hx hb dX8_image_1 (by decide) ?_
  refine va_put (D := (dC, dI)) (ci := 8) (v := .int 1) (ty := .boolean) (C := RX8) (T := TX8) (N := 29) hx hb hts hinX8_image_X8 tyX8 tyX8_ok nmX8 hown hK hP hD hS 0 rfl rfl 3 (by decide) (hts _ (List.mem_of_getElem? (i := 1) rfl)) (fun _ h9 => h9) rfl (by decide +kernel) rfl rfl (Nat.le_of_ble_eq_true rfl) dX8_image_2 (fun H locs hP hD hS => ?_)
  have hP : va_P (dC, dI) vwCl (fl [wdX8 kc m_o m_now m_mind m_then m_text m_rules m_sizes m_read m_names m_letters m_begins m_words m_drifts m_above m_bodies m_trace m_sorts m_lengths m_items m_moved mnow mmind mthen 1 mtext mtexted mrules msizes mruled mread msize mat mwell mwithin msum mbear mnames mletters mbegins mwords mdrifts mabove mbodies mtrace mran msorts mlengths mitems mmoved]) H := hP
  have hD : va_D A (fl [wdX8 kc m_o m_now m_mind m_then m_text m_rules m_sizes m_read m_names m_letters m_begins m_words m_drifts m_above m_bodies m_trace m_sorts m_lengths m_items m_moved mnow mmind mthen 1 mtext mtexted mrules msizes mruled mread msize mat mwell mwithin msum mbear mnames mletters mbegins mwords mdrifts mabove mbodies mtrace mran msorts mlengths mitems mmoved]) := hD
  refine lv_aload_n hx hb dX8_image_5 rfl (lv_at hl 0 rfl) ?_
  refine va_get (D := (dC, dI)) (ci := 8) (v := .ref m_now) (C := RX8) (T := TX8) (N := 29) hx hb hts hinX8_image_X8 hown hK hP 0 rfl rfl 0 (by decide) (hts _ (List.mem_of_getElem? (i := 2) rfl)) (fun _ h9 => h9) rfl dX8_image_6 ?_
  refine lv_aload_n hx hb dX8_image_9 rfl (lv_at hl 0 rfl) ?_
  refine va_get (D := (dC, dI)) (ci := 8) (v := .ref m_then) (C := RX8) (T := TX8) (N := 29) hx hb hts hinX8_image_X8 hown hK hP 0 rfl rfl 2 (by decide) (hts _ (List.mem_of_getElem? (i := 3) rfl)) (fun _ h9 => h9) rfl dX8_image_10 ?_
  obtain ⟨mthen_13, hc13, hm⟩ := bd1_e hm
  refine k_callSv (dC := dC) (dI := dI) (kc := kc) (As := [.ref m_now, .ref m_then]) (rest := []) (ws' := fl [wdX8 kc m_o m_now m_mind m_then m_text m_rules m_sizes m_read m_names m_letters m_begins m_words m_drifts m_above m_bodies m_trace m_sorts m_lengths m_items m_moved mnow mmind mthen_13 1 mtext mtexted mrules msizes mruled mread msize mat mwell mwithin msum mbear mnames mletters mbegins mwords mdrifts mabove mbodies mtrace mran msorts mlengths mitems mmoved]) hx hb hml hown hts hK hP hD hS hA (ctX8_move (q_o := m_now) (z_o := m_then) (qarr := mnow) (zarr := mthen) hc13) (va_cwS 2 hts gX8_image_X8_move rfl rfl rfl (by decide +kernel) ⟨Nat.le_of_ble_eq_true rfl, Nat.le_of_ble_eq_true rfl⟩) [1, 3] rfl (by decide) rfl hl rfl (Nat.le_of_ble_eq_true rfl) dX8_image_13 ⟨Nat.zero_le _, Nat.zero_le _⟩ rfl rfl rfl (fun H locs hP hD hS => ?_)
  refine lv_aload_n hx hb dX8_image_16 rfl (lv_at hl 0 rfl) ?_
  refine va_get (D := (dC, dI)) (ci := 8) (v := .ref m_now) (C := RX8) (T := TX8) (N := 29) hx hb hts hinX8_image_X8 hown hK hP 0 rfl rfl 0 (by decide) (hts _ (List.mem_of_getElem? (i := 2) rfl)) (fun _ h9 => h9) rfl dX8_image_17 ?_
  refine lv_bipush (v := 54) hx hb dX8_image_20 (by decide) ?_
  refine k_iald (D := (dC, dI)) hx hb hK hP 1 1 rfl rfl (k := 54) (by decide) (show ¬ ((54 : Int32) < 0 ∨ 113 ≤ (54 : Int32).toNatClampNeg) from by decide) dX8_image_22 ?_
  cases hm
  exact k_iret hx hb hr hlocks hP hS dX8_image_23
def fX8_undo (fu : Nat) (mnow : Nat → Int32) (mthen : Nat → Int32) (mkept : Int32) : Option (Int32 × (Nat → Int32)) := if mkept = 0 then (some (((-3) : Int32), mnow)) else (bd1 (fX8_move fu mthen mnow) (fun mnow_18 => some (mnow_18 54, mnow_18)))
theorem hinX8_undo_X8 : ∀ w ∈ u_ws RX8 TX8 29, w ∈ wsX8_undo := fun _ h => List.mem_cons_of_mem _ (List.mem_append_right _ h)
abbrev rmX8_undo : Room := { frames := 1, cells := 0, slots := 0, locals := 34 }
set_option maxHeartbeats 4000000 in
set_option maxRecDepth 100000 in
theorem ctX8_undo {l : Launch} {dC : Nat → ClassId} {dI : Nat → Nat → Nat} {kc : Nat → ClassId} {m_o m_now m_mind m_then m_text m_rules m_sizes m_read m_names m_letters m_begins m_words m_drifts m_above m_bodies m_trace m_sorts m_lengths m_items m_moved : Nat} {mnow : Nat → Int32} {mmind : Nat → Int32} {mthen : Nat → Int32} {mkept : Int32} {mtext : Nat → Int32} {mtexted : Int32} {mrules : Nat → Int32} {msizes : Nat → Int32} {mruled : Int32} {mread : Nat → Int32} {msize : Int32} {mat : Int32} {mwell : Int32} {mwithin : Int32} {msum : Int32} {mbear : Int32} {mnames : Nat → Int32} {mletters : Nat → Int32} {mbegins : Nat → Int32} {mwords : Nat → Int32} {mdrifts : Nat → Int32} {mabove : Nat → Int32} {mbodies : Nat → Int32} {mtrace : Nat → Int32} {mran : Int32} {msorts : Nat → Int32} {mlengths : Nat → Int32} {mitems : Nat → Int64} {mmoved : Nat → Int64} {fu : Nat} {r : Int32} {mnow' : Nat → Int32} (hm : fX8_undo fu mnow mthen mkept = some (r, mnow')) : ∀ sz : Nat, Met l yX8_undo wsX8_undo rmX8_undo (kPc dC dI kc [.ref m_o] (fl [wdX8 kc m_o m_now m_mind m_then m_text m_rules m_sizes m_read m_names m_letters m_begins m_words m_drifts m_above m_bodies m_trace m_sorts m_lengths m_items m_moved mnow mmind mthen mkept mtext mtexted mrules msizes mruled mread msize mat mwell mwithin msum mbear mnames mletters mbegins mwords mdrifts mabove mbodies mtrace mran msorts mlengths mitems mmoved]) sz) (kQi dC dI r (fl [wdX8 kc m_o m_now m_mind m_then m_text m_rules m_sizes m_read m_names m_letters m_begins m_words m_drifts m_above m_bodies m_trace m_sorts m_lengths m_items m_moved mnow' mmind mthen mkept mtext mtexted mrules msizes mruled mread msize mat mwell mwithin msum mbear mnames mletters mbegins mwords mdrifts mabove mbodies mtrace mran msorts mlengths mitems mmoved]) (va_A (fl [wdX8 kc m_o m_now m_mind m_then m_text m_rules m_sizes m_read m_names m_letters m_begins m_words m_drifts m_above m_bodies m_trace m_sorts m_lengths m_items m_moved mnow mmind mthen mkept mtext mtexted mrules msizes mruled mread msize mat mwell mwithin msum mbear mnames mletters mbegins mwords mdrifts mabove mbodies mtrace mran msorts mlengths mitems mmoved]) sz)) 0 0 (va_A (fl [wdX8 kc m_o m_now m_mind m_then m_text m_rules m_sizes m_read m_names m_letters m_begins m_words m_drifts m_above m_bodies m_trace m_sorts m_lengths m_items m_moved mnow mmind mthen mkept mtext mtexted mrules msizes mruled mread msize mat mwell mwithin msum mbear mnames mletters mbegins mwords mdrifts mabove mbodies mtrace mran msorts mlengths mitems mmoved]) sz) := by
  intro sz
  refine kMet (cc := cX8_undo) (maxL := 1) (ret := (some .int)) (Qf := fun A => kQi dC dI r (fl [wdX8 kc m_o m_now m_mind m_then m_text m_rules m_sizes m_read m_names m_letters m_begins m_words m_drifts m_above m_bodies m_trace m_sorts m_lengths m_items m_moved mnow' mmind mthen mkept mtext mtexted mrules msizes mruled mread msize mat mwell mwithin msum mbear mnames mletters mbegins mwords mdrifts mabove mbodies mtrace mran msorts mlengths mitems mmoved]) A) (by decide) rfl (Nat.le_of_ble_eq_true rfl) ?_
  intro p e s m below meth c A ls hx hb hr hml hts hown hlocks hname hsz hA hP hK hD hl
  have hS : va_S A s.heap s.heap [] := va_S.rf
  have hl : lv_has ls 1 [(0, .ref m_o)] := hl
  unfold fX8_undo at hm
  refine lv_aload_n hx hb dX8_undo_0 rfl (lv_at hl 0 rfl) ?_
  refine va_get (D := (dC, dI)) (ci := 8) (v := .int mkept) (C := RX8) (T := TX8) (N := 29) hx hb hts hinX8_undo_X8 hown hK hP 0 rfl rfl 3 (by decide) (hts _ (List.mem_of_getElem? (i := 1) rfl)) (fun _ h9 => h9) rfl dX8_undo_1 ?_
  refine lv_if_ne (tgt := 10) hx hb dX8_undo_4 (by decide) (fun c4 => ?_) (fun c4 => ?_)
  · replace hm := it_f c4 hm
    refine lv_aload_n hx hb dX8_undo_10 rfl (lv_at hl 0 rfl) ?_
    refine va_get (D := (dC, dI)) (ci := 8) (v := .ref m_then) (C := RX8) (T := TX8) (N := 29) hx hb hts hinX8_undo_X8 hown hK hP 0 rfl rfl 2 (by decide) (hts _ (List.mem_of_getElem? (i := 2) rfl)) (fun _ h9 => h9) rfl dX8_undo_11 ?_
    refine lv_aload_n hx hb dX8_undo_14 rfl (lv_at hl 0 rfl) ?_
    refine va_get (D := (dC, dI)) (ci := 8) (v := .ref m_now) (C := RX8) (T := TX8) (N := 29) hx hb hts hinX8_undo_X8 hown hK hP 0 rfl rfl 0 (by decide) (hts _ (List.mem_of_getElem? (i := 3) rfl)) (fun _ h9 => h9) rfl dX8_undo_15 ?_
    obtain ⟨mnow_18, hc18, hm⟩ := bd1_e hm
    refine k_callSv (dC := dC) (dI := dI) (kc := kc) (As := [.ref m_then, .ref m_now]) (rest := []) (ws' := fl [wdX8 kc m_o m_now m_mind m_then m_text m_rules m_sizes m_read m_names m_letters m_begins m_words m_drifts m_above m_bodies m_trace m_sorts m_lengths m_items m_moved mnow_18 mmind mthen mkept mtext mtexted mrules msizes mruled mread msize mat mwell mwithin msum mbear mnames mletters mbegins mwords mdrifts mabove mbodies mtrace mran msorts mlengths mitems mmoved]) hx hb hml hown hts hK hP hD hS hA (ctX8_move (q_o := m_then) (z_o := m_now) (qarr := mthen) (zarr := mnow) hc18) (va_cwS 2 hts gX8_undo_X8_move rfl rfl rfl (by decide +kernel) ⟨Nat.le_of_ble_eq_true rfl, Nat.le_of_ble_eq_true rfl⟩) [3, 1] rfl (by decide) rfl hl rfl (Nat.le_of_ble_eq_true rfl) dX8_undo_18 ⟨Nat.zero_le _, Nat.zero_le _⟩ rfl rfl rfl (fun H locs hP hD hS => ?_)
    refine lv_aload_n hx hb dX8_undo_21 rfl (lv_at hl 0 rfl) ?_
    refine va_get (D := (dC, dI)) (ci := 8) (v := .ref m_now) (C := RX8) (T := TX8) (N := 29) hx hb hts hinX8_undo_X8 hown hK hP 0 rfl rfl 0 (by decide) (hts _ (List.mem_of_getElem? (i := 3) rfl)) (fun _ h9 => h9) rfl dX8_undo_22 ?_
    refine lv_bipush (v := 54) hx hb dX8_undo_25 (by decide) ?_
    refine k_iald (D := (dC, dI)) hx hb hK hP 1 1 rfl rfl (k := 54) (by decide) (show ¬ ((54 : Int32) < 0 ∨ 113 ≤ (54 : Int32).toNatClampNeg) from by decide) dX8_undo_27 ?_
    cases hm
    exact k_iret hx hb hr hlocks hP hS dX8_undo_28
  · replace hm := it_t c4 hm
    refine lv_bipush (v := (-3)) hx hb dX8_undo_7 (by decide) ?_
    cases hm
    exact k_iret hx hb hr hlocks hP hS dX8_undo_9
def fX8_isOne (mnow : Nat → Int32) (x1 : Int32) : Option Int32 := bd1 (fX8_isIn x1 0 ((mnow 54) - 1)) (fun r11 => gd (r11 = 0 ∨ r11 = 1) (some r11))
theorem hinX8_isOne_X8 : ∀ w ∈ u_ws RX8 TX8 29, w ∈ wsX8_isOne := fun _ h => List.mem_cons_of_mem _ (List.mem_append_right _ h)
abbrev rmX8_isOne : Room := { frames := 1, cells := 0, slots := 0, locals := 34 }
set_option maxHeartbeats 4000000 in
set_option maxRecDepth 100000 in
theorem ctX8_isOne {l : Launch} {dC : Nat → ClassId} {dI : Nat → Nat → Nat} {kc : Nat → ClassId} {m_o m_now m_mind m_then m_text m_rules m_sizes m_read m_names m_letters m_begins m_words m_drifts m_above m_bodies m_trace m_sorts m_lengths m_items m_moved : Nat} {mnow : Nat → Int32} {mmind : Nat → Int32} {mthen : Nat → Int32} {mkept : Int32} {mtext : Nat → Int32} {mtexted : Int32} {mrules : Nat → Int32} {msizes : Nat → Int32} {mruled : Int32} {mread : Nat → Int32} {msize : Int32} {mat : Int32} {mwell : Int32} {mwithin : Int32} {msum : Int32} {mbear : Int32} {mnames : Nat → Int32} {mletters : Nat → Int32} {mbegins : Nat → Int32} {mwords : Nat → Int32} {mdrifts : Nat → Int32} {mabove : Nat → Int32} {mbodies : Nat → Int32} {mtrace : Nat → Int32} {mran : Int32} {msorts : Nat → Int32} {mlengths : Nat → Int32} {mitems : Nat → Int64} {mmoved : Nat → Int64} {x1 : Int32} {r : Int32} (hm : fX8_isOne mnow x1 = some r) : ∀ sz : Nat, Met l yX8_isOne wsX8_isOne rmX8_isOne (kPc dC dI kc [.ref m_o, .int x1] (fl [wdX8 kc m_o m_now m_mind m_then m_text m_rules m_sizes m_read m_names m_letters m_begins m_words m_drifts m_above m_bodies m_trace m_sorts m_lengths m_items m_moved mnow mmind mthen mkept mtext mtexted mrules msizes mruled mread msize mat mwell mwithin msum mbear mnames mletters mbegins mwords mdrifts mabove mbodies mtrace mran msorts mlengths mitems mmoved]) sz) (kQi dC dI r (fl [wdX8 kc m_o m_now m_mind m_then m_text m_rules m_sizes m_read m_names m_letters m_begins m_words m_drifts m_above m_bodies m_trace m_sorts m_lengths m_items m_moved mnow mmind mthen mkept mtext mtexted mrules msizes mruled mread msize mat mwell mwithin msum mbear mnames mletters mbegins mwords mdrifts mabove mbodies mtrace mran msorts mlengths mitems mmoved]) (va_A (fl [wdX8 kc m_o m_now m_mind m_then m_text m_rules m_sizes m_read m_names m_letters m_begins m_words m_drifts m_above m_bodies m_trace m_sorts m_lengths m_items m_moved mnow mmind mthen mkept mtext mtexted mrules msizes mruled mread msize mat mwell mwithin msum mbear mnames mletters mbegins mwords mdrifts mabove mbodies mtrace mran msorts mlengths mitems mmoved]) sz)) 0 0 (va_A (fl [wdX8 kc m_o m_now m_mind m_then m_text m_rules m_sizes m_read m_names m_letters m_begins m_words m_drifts m_above m_bodies m_trace m_sorts m_lengths m_items m_moved mnow mmind mthen mkept mtext mtexted mrules msizes mruled mread msize mat mwell mwithin msum mbear mnames mletters mbegins mwords mdrifts mabove mbodies mtrace mran msorts mlengths mitems mmoved]) sz) := by
  intro sz
  refine kMet (cc := cX8_isOne) (maxL := 2) (ret := (some .boolean)) (Qf := fun A => kQi dC dI r (fl [wdX8 kc m_o m_now m_mind m_then m_text m_rules m_sizes m_read m_names m_letters m_begins m_words m_drifts m_above m_bodies m_trace m_sorts m_lengths m_items m_moved mnow mmind mthen mkept mtext mtexted mrules msizes mruled mread msize mat mwell mwithin msum mbear mnames mletters mbegins mwords mdrifts mabove mbodies mtrace mran msorts mlengths mitems mmoved]) A) (by decide) rfl (Nat.le_of_ble_eq_true rfl) ?_
  intro p e s m below meth c A ls hx hb hr hml hts hown hlocks hname hsz hA hP hK hD hl
  have hS : va_S A s.heap s.heap [] := va_S.rf
  have hl : lv_has ls 2 [(0, .ref m_o), (1, .int x1)] := hl
  unfold fX8_isOne at hm
  refine lv_iload_n hx hb dX8_isOne_0 rfl (lv_at hl 1 rfl) ?_
  refine lv_iconst (v := 0) hx hb dX8_isOne_1 (by decide) ?_
  refine lv_aload_n hx hb dX8_isOne_2 rfl (lv_at hl 0 rfl) ?_
  refine va_get (D := (dC, dI)) (ci := 8) (v := .ref m_now) (C := RX8) (T := TX8) (N := 29) hx hb hts hinX8_isOne_X8 hown hK hP 0 rfl rfl 0 (by decide) (hts _ (List.mem_of_getElem? (i := 1) rfl)) (fun _ h9 => h9) rfl dX8_isOne_3 ?_
  refine lv_bipush (v := 54) hx hb dX8_isOne_6 (by decide) ?_
  refine k_iald (D := (dC, dI)) hx hb hK hP 1 1 rfl rfl (k := 54) (by decide) (show ¬ ((54 : Int32) < 0 ∨ 113 ≤ (54 : Int32).toNatClampNeg) from by decide) dX8_isOne_8 ?_
  refine lv_iconst (v := 1) hx hb dX8_isOne_9 (by decide) ?_
  refine lv_isub hx hb dX8_isOne_10 ?_
  obtain ⟨r11, hc11, hm⟩ := bd1_e hm
  refine k_callGSi (dC := dC) (dI := dI) (kc := kc) (As := [.int x1, .int 0, .int ((mnow 54) - 1)]) (rest := []) (Gs' := [wdX8 kc m_o m_now m_mind m_then m_text m_rules m_sizes m_read m_names m_letters m_begins m_words m_drifts m_above m_bodies m_trace m_sorts m_lengths m_items m_moved mnow mmind mthen mkept mtext mtexted mrules msizes mruled mread msize mat mwell mwithin msum mbear mnames mletters mbegins mwords mdrifts mabove mbodies mtrace mran msorts mlengths mitems mmoved]) hx hb hml hown hts hK hP hD hS hA (ctX8_isIn (x1 := x1) (x2 := 0) (x3 := (mnow 54) - 1) hc11) (va_cwS 3 hts gX8_isOne_X8_isIn rfl rfl rfl (by decide +kernel) ⟨Nat.le_of_ble_eq_true rfl, Nat.le_of_ble_eq_true rfl⟩) [] rfl (by decide) rfl hl rfl (Nat.le_of_ble_eq_true rfl) dX8_isOne_11 ⟨Nat.zero_le _, Nat.zero_le _⟩ rfl rfl rfl (fun H locs hP hD hS => ?_)
  obtain ⟨hz14, hm⟩ := gd_e hm
  cases hm
  exact k_zret hx hb hr hlocks hz14 hP hS dX8_isOne_14
def fX8_isLeaf (mnow : Nat → Int32) (x1 : Int32) : Option Int32 := bd1 (fX8_isIn x1 0 ((mnow 55) - 1)) (fun r11 => gd (r11 = 0 ∨ r11 = 1) (some r11))
theorem hinX8_isLeaf_X8 : ∀ w ∈ u_ws RX8 TX8 29, w ∈ wsX8_isLeaf := fun _ h => List.mem_cons_of_mem _ (List.mem_append_right _ h)
abbrev rmX8_isLeaf : Room := { frames := 1, cells := 0, slots := 0, locals := 34 }
set_option maxHeartbeats 4000000 in
set_option maxRecDepth 100000 in
theorem ctX8_isLeaf {l : Launch} {dC : Nat → ClassId} {dI : Nat → Nat → Nat} {kc : Nat → ClassId} {m_o m_now m_mind m_then m_text m_rules m_sizes m_read m_names m_letters m_begins m_words m_drifts m_above m_bodies m_trace m_sorts m_lengths m_items m_moved : Nat} {mnow : Nat → Int32} {mmind : Nat → Int32} {mthen : Nat → Int32} {mkept : Int32} {mtext : Nat → Int32} {mtexted : Int32} {mrules : Nat → Int32} {msizes : Nat → Int32} {mruled : Int32} {mread : Nat → Int32} {msize : Int32} {mat : Int32} {mwell : Int32} {mwithin : Int32} {msum : Int32} {mbear : Int32} {mnames : Nat → Int32} {mletters : Nat → Int32} {mbegins : Nat → Int32} {mwords : Nat → Int32} {mdrifts : Nat → Int32} {mabove : Nat → Int32} {mbodies : Nat → Int32} {mtrace : Nat → Int32} {mran : Int32} {msorts : Nat → Int32} {mlengths : Nat → Int32} {mitems : Nat → Int64} {mmoved : Nat → Int64} {x1 : Int32} {r : Int32} (hm : fX8_isLeaf mnow x1 = some r) : ∀ sz : Nat, Met l yX8_isLeaf wsX8_isLeaf rmX8_isLeaf (kPc dC dI kc [.ref m_o, .int x1] (fl [wdX8 kc m_o m_now m_mind m_then m_text m_rules m_sizes m_read m_names m_letters m_begins m_words m_drifts m_above m_bodies m_trace m_sorts m_lengths m_items m_moved mnow mmind mthen mkept mtext mtexted mrules msizes mruled mread msize mat mwell mwithin msum mbear mnames mletters mbegins mwords mdrifts mabove mbodies mtrace mran msorts mlengths mitems mmoved]) sz) (kQi dC dI r (fl [wdX8 kc m_o m_now m_mind m_then m_text m_rules m_sizes m_read m_names m_letters m_begins m_words m_drifts m_above m_bodies m_trace m_sorts m_lengths m_items m_moved mnow mmind mthen mkept mtext mtexted mrules msizes mruled mread msize mat mwell mwithin msum mbear mnames mletters mbegins mwords mdrifts mabove mbodies mtrace mran msorts mlengths mitems mmoved]) (va_A (fl [wdX8 kc m_o m_now m_mind m_then m_text m_rules m_sizes m_read m_names m_letters m_begins m_words m_drifts m_above m_bodies m_trace m_sorts m_lengths m_items m_moved mnow mmind mthen mkept mtext mtexted mrules msizes mruled mread msize mat mwell mwithin msum mbear mnames mletters mbegins mwords mdrifts mabove mbodies mtrace mran msorts mlengths mitems mmoved]) sz)) 0 0 (va_A (fl [wdX8 kc m_o m_now m_mind m_then m_text m_rules m_sizes m_read m_names m_letters m_begins m_words m_drifts m_above m_bodies m_trace m_sorts m_lengths m_items m_moved mnow mmind mthen mkept mtext mtexted mrules msizes mruled mread msize mat mwell mwithin msum mbear mnames mletters mbegins mwords mdrifts mabove mbodies mtrace mran msorts mlengths mitems mmoved]) sz) := by
  intro sz
  refine kMet (cc := cX8_isLeaf) (maxL := 2) (ret := (some .boolean)) (Qf := fun A => kQi dC dI r (fl [wdX8 kc m_o m_now m_mind m_then m_text m_rules m_sizes m_read m_names m_letters m_begins m_words m_drifts m_above m_bodies m_trace m_sorts m_lengths m_items m_moved mnow mmind mthen mkept mtext mtexted mrules msizes mruled mread msize mat mwell mwithin msum mbear mnames mletters mbegins mwords mdrifts mabove mbodies mtrace mran msorts mlengths mitems mmoved]) A) (by decide) rfl (Nat.le_of_ble_eq_true rfl) ?_
  intro p e s m below meth c A ls hx hb hr hml hts hown hlocks hname hsz hA hP hK hD hl
  have hS : va_S A s.heap s.heap [] := va_S.rf
  have hl : lv_has ls 2 [(0, .ref m_o), (1, .int x1)] := hl
  unfold fX8_isLeaf at hm
  refine lv_iload_n hx hb dX8_isLeaf_0 rfl (lv_at hl 1 rfl) ?_
  refine lv_iconst (v := 0) hx hb dX8_isLeaf_1 (by decide) ?_
  refine lv_aload_n hx hb dX8_isLeaf_2 rfl (lv_at hl 0 rfl) ?_
  refine va_get (D := (dC, dI)) (ci := 8) (v := .ref m_now) (C := RX8) (T := TX8) (N := 29) hx hb hts hinX8_isLeaf_X8 hown hK hP 0 rfl rfl 0 (by decide) (hts _ (List.mem_of_getElem? (i := 1) rfl)) (fun _ h9 => h9) rfl dX8_isLeaf_3 ?_
  refine lv_bipush (v := 55) hx hb dX8_isLeaf_6 (by decide) ?_
  refine k_iald (D := (dC, dI)) hx hb hK hP 1 1 rfl rfl (k := 55) (by decide) (show ¬ ((55 : Int32) < 0 ∨ 113 ≤ (55 : Int32).toNatClampNeg) from by decide) dX8_isLeaf_8 ?_
  refine lv_iconst (v := 1) hx hb dX8_isLeaf_9 (by decide) ?_
  refine lv_isub hx hb dX8_isLeaf_10 ?_
  obtain ⟨r11, hc11, hm⟩ := bd1_e hm
  refine k_callGSi (dC := dC) (dI := dI) (kc := kc) (As := [.int x1, .int 0, .int ((mnow 55) - 1)]) (rest := []) (Gs' := [wdX8 kc m_o m_now m_mind m_then m_text m_rules m_sizes m_read m_names m_letters m_begins m_words m_drifts m_above m_bodies m_trace m_sorts m_lengths m_items m_moved mnow mmind mthen mkept mtext mtexted mrules msizes mruled mread msize mat mwell mwithin msum mbear mnames mletters mbegins mwords mdrifts mabove mbodies mtrace mran msorts mlengths mitems mmoved]) hx hb hml hown hts hK hP hD hS hA (ctX8_isIn (x1 := x1) (x2 := 0) (x3 := (mnow 55) - 1) hc11) (va_cwS 3 hts gX8_isLeaf_X8_isIn rfl rfl rfl (by decide +kernel) ⟨Nat.le_of_ble_eq_true rfl, Nat.le_of_ble_eq_true rfl⟩) [] rfl (by decide) rfl hl rfl (Nat.le_of_ble_eq_true rfl) dX8_isLeaf_11 ⟨Nat.zero_le _, Nat.zero_le _⟩ rfl rfl rfl (fun H locs hP hD hS => ?_)
  obtain ⟨hz14, hm⟩ := gd_e hm
  cases hm
  exact k_zret hx hb hr hlocks hz14 hP hS dX8_isLeaf_14
def fX8_orNever (x1 : Int32) : Option Int32 := if x1 = (-1) then (some ((-5) : Int32)) else (some x1)
abbrev rmX8_orNever : Room := { frames := 0, cells := 0, slots := 0, locals := 12 }
set_option maxHeartbeats 4000000 in
set_option maxRecDepth 100000 in
theorem ctX8_orNever {l : Launch} {dC : Nat → ClassId} {dI : Nat → Nat → Nat} {kc : Nat → ClassId} {x1 : Int32} {r : Int32} (hm : fX8_orNever x1 = some r) : ∀ sz : Nat, Met l yX8_orNever wsX8_orNever rmX8_orNever (kPc dC dI kc [.int x1] (fl []) sz) (kQi dC dI r (fl []) (va_A (fl []) sz)) 0 0 (va_A (fl []) sz) := by
  intro sz
  refine kMet (cc := cX8_orNever) (maxL := 1) (ret := (some .int)) (Qf := fun A => kQi dC dI r (fl []) A) (by decide) rfl (Nat.le_of_ble_eq_true rfl) ?_
  intro p e s m below meth c A ls hx hb hr hml hts hown hlocks hname hsz hA hP hK hD hl
  have hS : va_S A s.heap s.heap [] := va_S.rf
  have hl : lv_has ls 1 [(0, .int x1)] := hl
  unfold fX8_orNever at hm
  refine lv_iload_n hx hb dX8_orNever_0 rfl (lv_at hl 0 rfl) ?_
  refine lv_iconst (v := (-1)) hx hb dX8_orNever_1 (by decide) ?_
  refine lv_icmp_ne (tgt := 10) hx hb dX8_orNever_2 (by decide) (fun c2 => ?_) (fun c2 => ?_)
  · replace hm := it_f c2 hm
    refine lv_iload_n hx hb dX8_orNever_10 rfl (lv_at hl 0 rfl) ?_
    cases hm
    exact k_iret hx hb hr hlocks hP hS dX8_orNever_11
  · replace hm := it_t c2 hm
    refine lv_bipush (v := (-5)) hx hb dX8_orNever_5 (by decide) ?_
    refine lv_goto (tgt := 11) hx hb dX8_orNever_7 (by decide) ?_
    cases hm
    exact k_iret hx hb hr hlocks hP hS dX8_orNever_11
def fX8_change (mnow : Nat → Int32) (x1 : Int32) (x2 : Int32) (x3 : Int32) : Option (Int32 × (Nat → Int32)) := bd1 (fX8_number mnow x1 x2) (fun r3 => gd (inb ((7 * x1) + x2) 113) (some (r3, upd mnow (((7 * x1) + x2).toNatClampNeg) x3)))
theorem hinX8_change_X8 : ∀ w ∈ u_ws RX8 TX8 29, w ∈ wsX8_change := fun _ h => List.mem_cons_of_mem _ (List.mem_append_right _ h)
abbrev rmX8_change : Room := { frames := 1, cells := 0, slots := 0, locals := 34 }
set_option maxHeartbeats 4000000 in
set_option maxRecDepth 100000 in
theorem ctX8_change {l : Launch} {dC : Nat → ClassId} {dI : Nat → Nat → Nat} {kc : Nat → ClassId} {m_o m_now m_mind m_then m_text m_rules m_sizes m_read m_names m_letters m_begins m_words m_drifts m_above m_bodies m_trace m_sorts m_lengths m_items m_moved : Nat} {mnow : Nat → Int32} {mmind : Nat → Int32} {mthen : Nat → Int32} {mkept : Int32} {mtext : Nat → Int32} {mtexted : Int32} {mrules : Nat → Int32} {msizes : Nat → Int32} {mruled : Int32} {mread : Nat → Int32} {msize : Int32} {mat : Int32} {mwell : Int32} {mwithin : Int32} {msum : Int32} {mbear : Int32} {mnames : Nat → Int32} {mletters : Nat → Int32} {mbegins : Nat → Int32} {mwords : Nat → Int32} {mdrifts : Nat → Int32} {mabove : Nat → Int32} {mbodies : Nat → Int32} {mtrace : Nat → Int32} {mran : Int32} {msorts : Nat → Int32} {mlengths : Nat → Int32} {mitems : Nat → Int64} {mmoved : Nat → Int64} {x1 : Int32} {x2 : Int32} {x3 : Int32} {r : Int32} {mnow' : Nat → Int32} (hm : fX8_change mnow x1 x2 x3 = some (r, mnow')) : ∀ sz : Nat, Met l yX8_change wsX8_change rmX8_change (kPc dC dI kc [.ref m_o, .int x1, .int x2, .int x3] (fl [wdX8 kc m_o m_now m_mind m_then m_text m_rules m_sizes m_read m_names m_letters m_begins m_words m_drifts m_above m_bodies m_trace m_sorts m_lengths m_items m_moved mnow mmind mthen mkept mtext mtexted mrules msizes mruled mread msize mat mwell mwithin msum mbear mnames mletters mbegins mwords mdrifts mabove mbodies mtrace mran msorts mlengths mitems mmoved]) sz) (kQi dC dI r (fl [wdX8 kc m_o m_now m_mind m_then m_text m_rules m_sizes m_read m_names m_letters m_begins m_words m_drifts m_above m_bodies m_trace m_sorts m_lengths m_items m_moved mnow' mmind mthen mkept mtext mtexted mrules msizes mruled mread msize mat mwell mwithin msum mbear mnames mletters mbegins mwords mdrifts mabove mbodies mtrace mran msorts mlengths mitems mmoved]) (va_A (fl [wdX8 kc m_o m_now m_mind m_then m_text m_rules m_sizes m_read m_names m_letters m_begins m_words m_drifts m_above m_bodies m_trace m_sorts m_lengths m_items m_moved mnow mmind mthen mkept mtext mtexted mrules msizes mruled mread msize mat mwell mwithin msum mbear mnames mletters mbegins mwords mdrifts mabove mbodies mtrace mran msorts mlengths mitems mmoved]) sz)) 0 0 (va_A (fl [wdX8 kc m_o m_now m_mind m_then m_text m_rules m_sizes m_read m_names m_letters m_begins m_words m_drifts m_above m_bodies m_trace m_sorts m_lengths m_items m_moved mnow mmind mthen mkept mtext mtexted mrules msizes mruled mread msize mat mwell mwithin msum mbear mnames mletters mbegins mwords mdrifts mabove mbodies mtrace mran msorts mlengths mitems mmoved]) sz) := by
  intro sz
  refine kMet (cc := cX8_change) (maxL := 5) (ret := (some .int)) (Qf := fun A => kQi dC dI r (fl [wdX8 kc m_o m_now m_mind m_then m_text m_rules m_sizes m_read m_names m_letters m_begins m_words m_drifts m_above m_bodies m_trace m_sorts m_lengths m_items m_moved mnow' mmind mthen mkept mtext mtexted mrules msizes mruled mread msize mat mwell mwithin msum mbear mnames mletters mbegins mwords mdrifts mabove mbodies mtrace mran msorts mlengths mitems mmoved]) A) (by decide) rfl (Nat.le_of_ble_eq_true rfl) ?_
  intro p e s m below meth c A ls hx hb hr hml hts hown hlocks hname hsz hA hP hK hD hl
  have hS : va_S A s.heap s.heap [] := va_S.rf
  have hl : lv_has ls 5 [(0, .ref m_o), (1, .int x1), (2, .int x2), (3, .int x3)] := hl
  unfold fX8_change at hm
  refine lv_aload_n hx hb dX8_change_0 rfl (lv_at hl 0 rfl) ?_
  refine lv_iload_n hx hb dX8_change_1 rfl (lv_at hl 1 rfl) ?_
  refine lv_iload_n hx hb dX8_change_2 rfl (lv_at hl 2 rfl) ?_
  obtain ⟨r3, hc3, hm⟩ := bd1_e hm
  refine k_callGVi (dC := dC) (dI := dI) (kc := kc) (As := [.int x1, .int x2]) (rest := []) (Gs' := [wdX8 kc m_o m_now m_mind m_then m_text m_rules m_sizes m_read m_names m_letters m_begins m_words m_drifts m_above m_bodies m_trace m_sorts m_lengths m_items m_moved mnow mmind mthen mkept mtext mtexted mrules msizes mruled mread msize mat mwell mwithin msum mbear mnames mletters mbegins mwords mdrifts mabove mbodies mtrace mran msorts mlengths mitems mmoved]) hx hb hml hown hts hK hP hD hS hA (ctX8_number (m_o := m_o) (m_now := m_now) (m_mind := m_mind) (m_then := m_then) (m_text := m_text) (m_rules := m_rules) (m_sizes := m_sizes) (m_read := m_read) (m_names := m_names) (m_letters := m_letters) (m_begins := m_begins) (m_words := m_words) (m_drifts := m_drifts) (m_above := m_above) (m_bodies := m_bodies) (m_trace := m_trace) (m_sorts := m_sorts) (m_lengths := m_lengths) (m_items := m_items) (m_moved := m_moved) (mnow := mnow) (mmind := mmind) (mthen := mthen) (mkept := mkept) (mtext := mtext) (mtexted := mtexted) (mrules := mrules) (msizes := msizes) (mruled := mruled) (mread := mread) (msize := msize) (mat := mat) (mwell := mwell) (mwithin := mwithin) (msum := msum) (mbear := mbear) (mnames := mnames) (mletters := mletters) (mbegins := mbegins) (mwords := mwords) (mdrifts := mdrifts) (mabove := mabove) (mbodies := mbodies) (mtrace := mtrace) (mran := mran) (msorts := msorts) (mlengths := mlengths) (mitems := mitems) (mmoved := mmoved) (x1 := x1) (x2 := x2) hc3) (cwV 2 hts gX8_change_X8_number rfl rfl rfl (by decide +kernel) ⟨Nat.le_of_ble_eq_true rfl, Nat.le_of_ble_eq_true rfl⟩) [0] rfl (by decide) 8 rfl rfl rfl rfl hl rfl (Nat.le_of_ble_eq_true rfl) dX8_change_3 ⟨Nat.zero_le _, Nat.zero_le _⟩ rfl rfl rfl (fun H locs hP hD hS => ?_)
  refine lv_istore (lv' := [(4, .int r3), (0, .ref m_o), (1, .int x1), (2, .int x2), (3, .int x3)]) hx hb dX8_change_6 hl (by decide) rfl (fun ls hl => ?_)
  refine lv_aload_n hx hb dX8_change_8 rfl (lv_at hl 1 rfl) ?_
  refine va_get (D := (dC, dI)) (ci := 8) (v := .ref m_now) (C := RX8) (T := TX8) (N := 29) hx hb hts hinX8_change_X8 hown hK hP 0 rfl rfl 0 (by decide) (hts _ (List.mem_of_getElem? (i := 1) rfl)) (fun _ h9 => h9) rfl dX8_change_9 ?_
  refine lv_bipush (v := 7) hx hb dX8_change_12 (by decide) ?_
  refine lv_iload_n hx hb dX8_change_14 rfl (lv_at hl 2 rfl) ?_
  refine lv_imul hx hb dX8_change_15 ?_
  refine lv_iload_n hx hb dX8_change_16 rfl (lv_at hl 3 rfl) ?_
  refine lv_iadd hx hb dX8_change_17 ?_
  refine lv_iload_n hx hb dX8_change_18 rfl (lv_at hl 4 rfl) ?_
  obtain ⟨hg19, hm⟩ := gd_e hm
  refine k_iast (D := (dC, dI)) hx hb hK hP hD hS 1 1 rfl rfl (k := ((7 * x1) + x2).toNatClampNeg) rfl hg19 dX8_change_19 (fun H locs hP hD hS => ?_)
  have hP : va_P (dC, dI) vwCl (fl [wdX8 kc m_o m_now m_mind m_then m_text m_rules m_sizes m_read m_names m_letters m_begins m_words m_drifts m_above m_bodies m_trace m_sorts m_lengths m_items m_moved (upd mnow (((7 * x1) + x2).toNatClampNeg) x3) mmind mthen mkept mtext mtexted mrules msizes mruled mread msize mat mwell mwithin msum mbear mnames mletters mbegins mwords mdrifts mabove mbodies mtrace mran msorts mlengths mitems mmoved]) H := hP
  have hD : va_D A (fl [wdX8 kc m_o m_now m_mind m_then m_text m_rules m_sizes m_read m_names m_letters m_begins m_words m_drifts m_above m_bodies m_trace m_sorts m_lengths m_items m_moved (upd mnow (((7 * x1) + x2).toNatClampNeg) x3) mmind mthen mkept mtext mtexted mrules msizes mruled mread msize mat mwell mwithin msum mbear mnames mletters mbegins mwords mdrifts mabove mbodies mtrace mran msorts mlengths mitems mmoved]) := hD
  refine lv_iload hx hb dX8_change_20 (lv_at hl 0 rfl) ?_
  cases hm
  exact k_iret hx hb hr hlocks hP hS dX8_change_22
def fX8_length (mnow : Nat → Int32) (x1 : Int32) : Option Int32 := gd (inb (42 + (3 * x1)) 113) (some (mnow ((42 + (3 * x1)).toNatClampNeg)))
theorem hinX8_length_X8 : ∀ w ∈ u_ws RX8 TX8 29, w ∈ wsX8_length := fun _ h => List.mem_cons_of_mem _ (List.mem_append_right _ h)
abbrev rmX8_length : Room := { frames := 0, cells := 0, slots := 0, locals := 12 }
set_option maxHeartbeats 4000000 in
set_option maxRecDepth 100000 in
theorem ctX8_length {l : Launch} {dC : Nat → ClassId} {dI : Nat → Nat → Nat} {kc : Nat → ClassId} {m_o m_now m_mind m_then m_text m_rules m_sizes m_read m_names m_letters m_begins m_words m_drifts m_above m_bodies m_trace m_sorts m_lengths m_items m_moved : Nat} {mnow : Nat → Int32} {mmind : Nat → Int32} {mthen : Nat → Int32} {mkept : Int32} {mtext : Nat → Int32} {mtexted : Int32} {mrules : Nat → Int32} {msizes : Nat → Int32} {mruled : Int32} {mread : Nat → Int32} {msize : Int32} {mat : Int32} {mwell : Int32} {mwithin : Int32} {msum : Int32} {mbear : Int32} {mnames : Nat → Int32} {mletters : Nat → Int32} {mbegins : Nat → Int32} {mwords : Nat → Int32} {mdrifts : Nat → Int32} {mabove : Nat → Int32} {mbodies : Nat → Int32} {mtrace : Nat → Int32} {mran : Int32} {msorts : Nat → Int32} {mlengths : Nat → Int32} {mitems : Nat → Int64} {mmoved : Nat → Int64} {x1 : Int32} {r : Int32} (hm : fX8_length mnow x1 = some r) : ∀ sz : Nat, Met l yX8_length wsX8_length rmX8_length (kPc dC dI kc [.ref m_o, .int x1] (fl [wdX8 kc m_o m_now m_mind m_then m_text m_rules m_sizes m_read m_names m_letters m_begins m_words m_drifts m_above m_bodies m_trace m_sorts m_lengths m_items m_moved mnow mmind mthen mkept mtext mtexted mrules msizes mruled mread msize mat mwell mwithin msum mbear mnames mletters mbegins mwords mdrifts mabove mbodies mtrace mran msorts mlengths mitems mmoved]) sz) (kQi dC dI r (fl [wdX8 kc m_o m_now m_mind m_then m_text m_rules m_sizes m_read m_names m_letters m_begins m_words m_drifts m_above m_bodies m_trace m_sorts m_lengths m_items m_moved mnow mmind mthen mkept mtext mtexted mrules msizes mruled mread msize mat mwell mwithin msum mbear mnames mletters mbegins mwords mdrifts mabove mbodies mtrace mran msorts mlengths mitems mmoved]) (va_A (fl [wdX8 kc m_o m_now m_mind m_then m_text m_rules m_sizes m_read m_names m_letters m_begins m_words m_drifts m_above m_bodies m_trace m_sorts m_lengths m_items m_moved mnow mmind mthen mkept mtext mtexted mrules msizes mruled mread msize mat mwell mwithin msum mbear mnames mletters mbegins mwords mdrifts mabove mbodies mtrace mran msorts mlengths mitems mmoved]) sz)) 0 0 (va_A (fl [wdX8 kc m_o m_now m_mind m_then m_text m_rules m_sizes m_read m_names m_letters m_begins m_words m_drifts m_above m_bodies m_trace m_sorts m_lengths m_items m_moved mnow mmind mthen mkept mtext mtexted mrules msizes mruled mread msize mat mwell mwithin msum mbear mnames mletters mbegins mwords mdrifts mabove mbodies mtrace mran msorts mlengths mitems mmoved]) sz) := by
  intro sz
  refine kMet (cc := cX8_length) (maxL := 2) (ret := (some .int)) (Qf := fun A => kQi dC dI r (fl [wdX8 kc m_o m_now m_mind m_then m_text m_rules m_sizes m_read m_names m_letters m_begins m_words m_drifts m_above m_bodies m_trace m_sorts m_lengths m_items m_moved mnow mmind mthen mkept mtext mtexted mrules msizes mruled mread msize mat mwell mwithin msum mbear mnames mletters mbegins mwords mdrifts mabove mbodies mtrace mran msorts mlengths mitems mmoved]) A) (by decide) rfl (Nat.le_of_ble_eq_true rfl) ?_
  intro p e s m below meth c A ls hx hb hr hml hts hown hlocks hname hsz hA hP hK hD hl
  have hS : va_S A s.heap s.heap [] := va_S.rf
  have hl : lv_has ls 2 [(0, .ref m_o), (1, .int x1)] := hl
  unfold fX8_length at hm
  refine lv_aload_n hx hb dX8_length_0 rfl (lv_at hl 0 rfl) ?_
  refine va_get (D := (dC, dI)) (ci := 8) (v := .ref m_now) (C := RX8) (T := TX8) (N := 29) hx hb hts hinX8_length_X8 hown hK hP 0 rfl rfl 0 (by decide) (hts _ (List.mem_of_getElem? (i := 1) rfl)) (fun _ h9 => h9) rfl dX8_length_1 ?_
  refine lv_bipush (v := 42) hx hb dX8_length_4 (by decide) ?_
  refine lv_iconst (v := 3) hx hb dX8_length_6 (by decide) ?_
  refine lv_iload_n hx hb dX8_length_7 rfl (lv_at hl 1 rfl) ?_
  refine lv_imul hx hb dX8_length_8 ?_
  refine lv_iadd hx hb dX8_length_9 ?_
  obtain ⟨hg10, hm⟩ := gd_e hm
  refine k_iald (D := (dC, dI)) hx hb hK hP 1 1 rfl rfl (k := (42 + (3 * x1)).toNatClampNeg) rfl hg10 dX8_length_10 ?_
  cases hm
  exact k_iret hx hb hr hlocks hP hS dX8_length_11
def fX8_holder (mnow : Nat → Int32) (x1 : Int32) (x2 : Int32) : Option Int32 := gd (inb ((42 + (3 * x1)) + x2) 113) (some (mnow (((42 + (3 * x1)) + x2).toNatClampNeg)))
theorem hinX8_holder_X8 : ∀ w ∈ u_ws RX8 TX8 29, w ∈ wsX8_holder := fun _ h => List.mem_cons_of_mem _ (List.mem_append_right _ h)
abbrev rmX8_holder : Room := { frames := 0, cells := 0, slots := 0, locals := 12 }
set_option maxHeartbeats 4000000 in
set_option maxRecDepth 100000 in
theorem ctX8_holder {l : Launch} {dC : Nat → ClassId} {dI : Nat → Nat → Nat} {kc : Nat → ClassId} {m_o m_now m_mind m_then m_text m_rules m_sizes m_read m_names m_letters m_begins m_words m_drifts m_above m_bodies m_trace m_sorts m_lengths m_items m_moved : Nat} {mnow : Nat → Int32} {mmind : Nat → Int32} {mthen : Nat → Int32} {mkept : Int32} {mtext : Nat → Int32} {mtexted : Int32} {mrules : Nat → Int32} {msizes : Nat → Int32} {mruled : Int32} {mread : Nat → Int32} {msize : Int32} {mat : Int32} {mwell : Int32} {mwithin : Int32} {msum : Int32} {mbear : Int32} {mnames : Nat → Int32} {mletters : Nat → Int32} {mbegins : Nat → Int32} {mwords : Nat → Int32} {mdrifts : Nat → Int32} {mabove : Nat → Int32} {mbodies : Nat → Int32} {mtrace : Nat → Int32} {mran : Int32} {msorts : Nat → Int32} {mlengths : Nat → Int32} {mitems : Nat → Int64} {mmoved : Nat → Int64} {x1 : Int32} {x2 : Int32} {r : Int32} (hm : fX8_holder mnow x1 x2 = some r) : ∀ sz : Nat, Met l yX8_holder wsX8_holder rmX8_holder (kPc dC dI kc [.ref m_o, .int x1, .int x2] (fl [wdX8 kc m_o m_now m_mind m_then m_text m_rules m_sizes m_read m_names m_letters m_begins m_words m_drifts m_above m_bodies m_trace m_sorts m_lengths m_items m_moved mnow mmind mthen mkept mtext mtexted mrules msizes mruled mread msize mat mwell mwithin msum mbear mnames mletters mbegins mwords mdrifts mabove mbodies mtrace mran msorts mlengths mitems mmoved]) sz) (kQi dC dI r (fl [wdX8 kc m_o m_now m_mind m_then m_text m_rules m_sizes m_read m_names m_letters m_begins m_words m_drifts m_above m_bodies m_trace m_sorts m_lengths m_items m_moved mnow mmind mthen mkept mtext mtexted mrules msizes mruled mread msize mat mwell mwithin msum mbear mnames mletters mbegins mwords mdrifts mabove mbodies mtrace mran msorts mlengths mitems mmoved]) (va_A (fl [wdX8 kc m_o m_now m_mind m_then m_text m_rules m_sizes m_read m_names m_letters m_begins m_words m_drifts m_above m_bodies m_trace m_sorts m_lengths m_items m_moved mnow mmind mthen mkept mtext mtexted mrules msizes mruled mread msize mat mwell mwithin msum mbear mnames mletters mbegins mwords mdrifts mabove mbodies mtrace mran msorts mlengths mitems mmoved]) sz)) 0 0 (va_A (fl [wdX8 kc m_o m_now m_mind m_then m_text m_rules m_sizes m_read m_names m_letters m_begins m_words m_drifts m_above m_bodies m_trace m_sorts m_lengths m_items m_moved mnow mmind mthen mkept mtext mtexted mrules msizes mruled mread msize mat mwell mwithin msum mbear mnames mletters mbegins mwords mdrifts mabove mbodies mtrace mran msorts mlengths mitems mmoved]) sz) := by
  intro sz
  refine kMet (cc := cX8_holder) (maxL := 3) (ret := (some .int)) (Qf := fun A => kQi dC dI r (fl [wdX8 kc m_o m_now m_mind m_then m_text m_rules m_sizes m_read m_names m_letters m_begins m_words m_drifts m_above m_bodies m_trace m_sorts m_lengths m_items m_moved mnow mmind mthen mkept mtext mtexted mrules msizes mruled mread msize mat mwell mwithin msum mbear mnames mletters mbegins mwords mdrifts mabove mbodies mtrace mran msorts mlengths mitems mmoved]) A) (by decide) rfl (Nat.le_of_ble_eq_true rfl) ?_
  intro p e s m below meth c A ls hx hb hr hml hts hown hlocks hname hsz hA hP hK hD hl
  have hS : va_S A s.heap s.heap [] := va_S.rf
  have hl : lv_has ls 3 [(0, .ref m_o), (1, .int x1), (2, .int x2)] := hl
  unfold fX8_holder at hm
  refine lv_aload_n hx hb dX8_holder_0 rfl (lv_at hl 0 rfl) ?_
  refine va_get (D := (dC, dI)) (ci := 8) (v := .ref m_now) (C := RX8) (T := TX8) (N := 29) hx hb hts hinX8_holder_X8 hown hK hP 0 rfl rfl 0 (by decide) (hts _ (List.mem_of_getElem? (i := 1) rfl)) (fun _ h9 => h9) rfl dX8_holder_1 ?_
  refine lv_bipush (v := 42) hx hb dX8_holder_4 (by decide) ?_
  refine lv_iconst (v := 3) hx hb dX8_holder_6 (by decide) ?_
  refine lv_iload_n hx hb dX8_holder_7 rfl (lv_at hl 1 rfl) ?_
  refine lv_imul hx hb dX8_holder_8 ?_
  refine lv_iadd hx hb dX8_holder_9 ?_
  refine lv_iload_n hx hb dX8_holder_10 rfl (lv_at hl 2 rfl) ?_
  refine lv_iadd hx hb dX8_holder_11 ?_
  obtain ⟨hg12, hm⟩ := gd_e hm
  refine k_iald (D := (dC, dI)) hx hb hK hP 1 1 rfl rfl (k := ((42 + (3 * x1)) + x2).toNatClampNeg) rfl hg12 dX8_holder_12 ?_
  cases hm
  exact k_iret hx hb hr hlocks hP hS dX8_holder_13
def fX8_isHeld (mnow : Nat → Int32) (x1 : Int32) : Option Int32 := bd1 (fX8_holder mnow x1 1) (fun r3 => if r3 = (-1) then (some (0 : Int32)) else (some (1 : Int32)))
abbrev rmX8_isHeld : Room := { frames := 1, cells := 0, slots := 0, locals := 34 }
set_option maxHeartbeats 4000000 in
set_option maxRecDepth 100000 in
theorem ctX8_isHeld {l : Launch} {dC : Nat → ClassId} {dI : Nat → Nat → Nat} {kc : Nat → ClassId} {m_o m_now m_mind m_then m_text m_rules m_sizes m_read m_names m_letters m_begins m_words m_drifts m_above m_bodies m_trace m_sorts m_lengths m_items m_moved : Nat} {mnow : Nat → Int32} {mmind : Nat → Int32} {mthen : Nat → Int32} {mkept : Int32} {mtext : Nat → Int32} {mtexted : Int32} {mrules : Nat → Int32} {msizes : Nat → Int32} {mruled : Int32} {mread : Nat → Int32} {msize : Int32} {mat : Int32} {mwell : Int32} {mwithin : Int32} {msum : Int32} {mbear : Int32} {mnames : Nat → Int32} {mletters : Nat → Int32} {mbegins : Nat → Int32} {mwords : Nat → Int32} {mdrifts : Nat → Int32} {mabove : Nat → Int32} {mbodies : Nat → Int32} {mtrace : Nat → Int32} {mran : Int32} {msorts : Nat → Int32} {mlengths : Nat → Int32} {mitems : Nat → Int64} {mmoved : Nat → Int64} {x1 : Int32} {r : Int32} (hm : fX8_isHeld mnow x1 = some r) : ∀ sz : Nat, Met l yX8_isHeld wsX8_isHeld rmX8_isHeld (kPc dC dI kc [.ref m_o, .int x1] (fl [wdX8 kc m_o m_now m_mind m_then m_text m_rules m_sizes m_read m_names m_letters m_begins m_words m_drifts m_above m_bodies m_trace m_sorts m_lengths m_items m_moved mnow mmind mthen mkept mtext mtexted mrules msizes mruled mread msize mat mwell mwithin msum mbear mnames mletters mbegins mwords mdrifts mabove mbodies mtrace mran msorts mlengths mitems mmoved]) sz) (kQi dC dI r (fl [wdX8 kc m_o m_now m_mind m_then m_text m_rules m_sizes m_read m_names m_letters m_begins m_words m_drifts m_above m_bodies m_trace m_sorts m_lengths m_items m_moved mnow mmind mthen mkept mtext mtexted mrules msizes mruled mread msize mat mwell mwithin msum mbear mnames mletters mbegins mwords mdrifts mabove mbodies mtrace mran msorts mlengths mitems mmoved]) (va_A (fl [wdX8 kc m_o m_now m_mind m_then m_text m_rules m_sizes m_read m_names m_letters m_begins m_words m_drifts m_above m_bodies m_trace m_sorts m_lengths m_items m_moved mnow mmind mthen mkept mtext mtexted mrules msizes mruled mread msize mat mwell mwithin msum mbear mnames mletters mbegins mwords mdrifts mabove mbodies mtrace mran msorts mlengths mitems mmoved]) sz)) 0 0 (va_A (fl [wdX8 kc m_o m_now m_mind m_then m_text m_rules m_sizes m_read m_names m_letters m_begins m_words m_drifts m_above m_bodies m_trace m_sorts m_lengths m_items m_moved mnow mmind mthen mkept mtext mtexted mrules msizes mruled mread msize mat mwell mwithin msum mbear mnames mletters mbegins mwords mdrifts mabove mbodies mtrace mran msorts mlengths mitems mmoved]) sz) := by
  intro sz
  refine kMet (cc := cX8_isHeld) (maxL := 2) (ret := (some .boolean)) (Qf := fun A => kQi dC dI r (fl [wdX8 kc m_o m_now m_mind m_then m_text m_rules m_sizes m_read m_names m_letters m_begins m_words m_drifts m_above m_bodies m_trace m_sorts m_lengths m_items m_moved mnow mmind mthen mkept mtext mtexted mrules msizes mruled mread msize mat mwell mwithin msum mbear mnames mletters mbegins mwords mdrifts mabove mbodies mtrace mran msorts mlengths mitems mmoved]) A) (by decide) rfl (Nat.le_of_ble_eq_true rfl) ?_
  intro p e s m below meth c A ls hx hb hr hml hts hown hlocks hname hsz hA hP hK hD hl
  have hS : va_S A s.heap s.heap [] := va_S.rf
  have hl : lv_has ls 2 [(0, .ref m_o), (1, .int x1)] := hl
  unfold fX8_isHeld at hm
  refine lv_aload_n hx hb dX8_isHeld_0 rfl (lv_at hl 0 rfl) ?_
  refine lv_iload_n hx hb dX8_isHeld_1 rfl (lv_at hl 1 rfl) ?_
  refine lv_iconst (v := 1) hx hb dX8_isHeld_2 (by decide) ?_
  obtain ⟨r3, hc3, hm⟩ := bd1_e hm
  refine k_callGVi (dC := dC) (dI := dI) (kc := kc) (As := [.int x1, .int 1]) (rest := []) (Gs' := [wdX8 kc m_o m_now m_mind m_then m_text m_rules m_sizes m_read m_names m_letters m_begins m_words m_drifts m_above m_bodies m_trace m_sorts m_lengths m_items m_moved mnow mmind mthen mkept mtext mtexted mrules msizes mruled mread msize mat mwell mwithin msum mbear mnames mletters mbegins mwords mdrifts mabove mbodies mtrace mran msorts mlengths mitems mmoved]) hx hb hml hown hts hK hP hD hS hA (ctX8_holder (m_o := m_o) (m_now := m_now) (m_mind := m_mind) (m_then := m_then) (m_text := m_text) (m_rules := m_rules) (m_sizes := m_sizes) (m_read := m_read) (m_names := m_names) (m_letters := m_letters) (m_begins := m_begins) (m_words := m_words) (m_drifts := m_drifts) (m_above := m_above) (m_bodies := m_bodies) (m_trace := m_trace) (m_sorts := m_sorts) (m_lengths := m_lengths) (m_items := m_items) (m_moved := m_moved) (mnow := mnow) (mmind := mmind) (mthen := mthen) (mkept := mkept) (mtext := mtext) (mtexted := mtexted) (mrules := mrules) (msizes := msizes) (mruled := mruled) (mread := mread) (msize := msize) (mat := mat) (mwell := mwell) (mwithin := mwithin) (msum := msum) (mbear := mbear) (mnames := mnames) (mletters := mletters) (mbegins := mbegins) (mwords := mwords) (mdrifts := mdrifts) (mabove := mabove) (mbodies := mbodies) (mtrace := mtrace) (mran := mran) (msorts := msorts) (mlengths := mlengths) (mitems := mitems) (mmoved := mmoved) (x1 := x1) (x2 := 1) hc3) (cwV 2 hts gX8_isHeld_X8_holder rfl rfl rfl (by decide +kernel) ⟨Nat.le_of_ble_eq_true rfl, Nat.le_of_ble_eq_true rfl⟩) [0] rfl (by decide) 8 rfl rfl rfl rfl hl rfl (Nat.le_of_ble_eq_true rfl) dX8_isHeld_3 ⟨Nat.zero_le _, Nat.zero_le _⟩ rfl rfl rfl (fun H locs hP hD hS => ?_)
  refine lv_iconst (v := (-1)) hx hb dX8_isHeld_6 (by decide) ?_
  refine lv_icmp_eq (tgt := 14) hx hb dX8_isHeld_7 (by decide) (fun c7 => ?_) (fun c7 => ?_)
  · replace hm := it_t c7 hm
    refine lv_iconst (v := 0) hx hb dX8_isHeld_14 (by decide) ?_
    cases hm
    exact k_zret hx hb hr hlocks (by decide) hP hS dX8_isHeld_15
  · replace hm := it_f c7 hm
    refine lv_iconst (v := 1) hx hb dX8_isHeld_10 (by decide) ?_
    refine lv_goto (tgt := 15) hx hb dX8_isHeld_11 (by decide) ?_
    cases hm
    exact k_zret hx hb hr hlocks (by decide) hP hS dX8_isHeld_15
def fX8_holds (mnow : Nat → Int32) (x1 : Int32) (x2 : Int32) (x3 : Int32) : Option (Nat → Int32) := gd (inb ((42 + (3 * x1)) + 1) 113) (gd (inb ((42 + (3 * x1)) + 2) 113) (some (upd (upd mnow (((42 + (3 * x1)) + 1).toNatClampNeg) x2) (((42 + (3 * x1)) + 2).toNatClampNeg) x3)))
theorem hinX8_holds_X8 : ∀ w ∈ u_ws RX8 TX8 29, w ∈ wsX8_holds := fun _ h => List.mem_cons_of_mem _ (List.mem_append_right _ h)
abbrev rmX8_holds : Room := { frames := 0, cells := 0, slots := 0, locals := 12 }
set_option maxHeartbeats 4000000 in
set_option maxRecDepth 100000 in
theorem ctX8_holds {l : Launch} {dC : Nat → ClassId} {dI : Nat → Nat → Nat} {kc : Nat → ClassId} {m_o m_now m_mind m_then m_text m_rules m_sizes m_read m_names m_letters m_begins m_words m_drifts m_above m_bodies m_trace m_sorts m_lengths m_items m_moved : Nat} {mnow : Nat → Int32} {mmind : Nat → Int32} {mthen : Nat → Int32} {mkept : Int32} {mtext : Nat → Int32} {mtexted : Int32} {mrules : Nat → Int32} {msizes : Nat → Int32} {mruled : Int32} {mread : Nat → Int32} {msize : Int32} {mat : Int32} {mwell : Int32} {mwithin : Int32} {msum : Int32} {mbear : Int32} {mnames : Nat → Int32} {mletters : Nat → Int32} {mbegins : Nat → Int32} {mwords : Nat → Int32} {mdrifts : Nat → Int32} {mabove : Nat → Int32} {mbodies : Nat → Int32} {mtrace : Nat → Int32} {mran : Int32} {msorts : Nat → Int32} {mlengths : Nat → Int32} {mitems : Nat → Int64} {mmoved : Nat → Int64} {x1 : Int32} {x2 : Int32} {x3 : Int32} {mnow' : Nat → Int32} (hm : fX8_holds mnow x1 x2 x3 = some mnow') : ∀ sz : Nat, Met l yX8_holds wsX8_holds rmX8_holds (kPc dC dI kc [.ref m_o, .int x1, .int x2, .int x3] (fl [wdX8 kc m_o m_now m_mind m_then m_text m_rules m_sizes m_read m_names m_letters m_begins m_words m_drifts m_above m_bodies m_trace m_sorts m_lengths m_items m_moved mnow mmind mthen mkept mtext mtexted mrules msizes mruled mread msize mat mwell mwithin msum mbear mnames mletters mbegins mwords mdrifts mabove mbodies mtrace mran msorts mlengths mitems mmoved]) sz) (kQv dC dI (fl [wdX8 kc m_o m_now m_mind m_then m_text m_rules m_sizes m_read m_names m_letters m_begins m_words m_drifts m_above m_bodies m_trace m_sorts m_lengths m_items m_moved mnow' mmind mthen mkept mtext mtexted mrules msizes mruled mread msize mat mwell mwithin msum mbear mnames mletters mbegins mwords mdrifts mabove mbodies mtrace mran msorts mlengths mitems mmoved]) (va_A (fl [wdX8 kc m_o m_now m_mind m_then m_text m_rules m_sizes m_read m_names m_letters m_begins m_words m_drifts m_above m_bodies m_trace m_sorts m_lengths m_items m_moved mnow mmind mthen mkept mtext mtexted mrules msizes mruled mread msize mat mwell mwithin msum mbear mnames mletters mbegins mwords mdrifts mabove mbodies mtrace mran msorts mlengths mitems mmoved]) sz)) 0 0 (va_A (fl [wdX8 kc m_o m_now m_mind m_then m_text m_rules m_sizes m_read m_names m_letters m_begins m_words m_drifts m_above m_bodies m_trace m_sorts m_lengths m_items m_moved mnow mmind mthen mkept mtext mtexted mrules msizes mruled mread msize mat mwell mwithin msum mbear mnames mletters mbegins mwords mdrifts mabove mbodies mtrace mran msorts mlengths mitems mmoved]) sz) := by
  intro sz
  refine kMet (cc := cX8_holds) (maxL := 4) (ret := none) (Qf := fun A => kQv dC dI (fl [wdX8 kc m_o m_now m_mind m_then m_text m_rules m_sizes m_read m_names m_letters m_begins m_words m_drifts m_above m_bodies m_trace m_sorts m_lengths m_items m_moved mnow' mmind mthen mkept mtext mtexted mrules msizes mruled mread msize mat mwell mwithin msum mbear mnames mletters mbegins mwords mdrifts mabove mbodies mtrace mran msorts mlengths mitems mmoved]) A) (by decide) rfl (Nat.le_of_ble_eq_true rfl) ?_
  intro p e s m below meth c A ls hx hb hr hml hts hown hlocks hname hsz hA hP hK hD hl
  have hS : va_S A s.heap s.heap [] := va_S.rf
  have hl : lv_has ls 4 [(0, .ref m_o), (1, .int x1), (2, .int x2), (3, .int x3)] := hl
  unfold fX8_holds at hm
  refine lv_aload_n hx hb dX8_holds_0 rfl (lv_at hl 0 rfl) ?_
  refine va_get (D := (dC, dI)) (ci := 8) (v := .ref m_now) (C := RX8) (T := TX8) (N := 29) hx hb hts hinX8_holds_X8 hown hK hP 0 rfl rfl 0 (by decide) (hts _ (List.mem_of_getElem? (i := 1) rfl)) (fun _ h9 => h9) rfl dX8_holds_1 ?_
  refine lv_bipush (v := 42) hx hb dX8_holds_4 (by decide) ?_
  refine lv_iconst (v := 3) hx hb dX8_holds_6 (by decide) ?_
  refine lv_iload_n hx hb dX8_holds_7 rfl (lv_at hl 1 rfl) ?_
  refine lv_imul hx hb dX8_holds_8 ?_
  refine lv_iadd hx hb dX8_holds_9 ?_
  refine lv_iconst (v := 1) hx hb dX8_holds_10 (by decide) ?_
  refine lv_iadd hx hb dX8_holds_11 ?_
  refine lv_iload_n hx hb dX8_holds_12 rfl (lv_at hl 2 rfl) ?_
  obtain ⟨hg13, hm⟩ := gd_e hm
  refine k_iast (D := (dC, dI)) hx hb hK hP hD hS 1 1 rfl rfl (k := ((42 + (3 * x1)) + 1).toNatClampNeg) rfl hg13 dX8_holds_13 (fun H locs hP hD hS => ?_)
  have hP : va_P (dC, dI) vwCl (fl [wdX8 kc m_o m_now m_mind m_then m_text m_rules m_sizes m_read m_names m_letters m_begins m_words m_drifts m_above m_bodies m_trace m_sorts m_lengths m_items m_moved (upd mnow (((42 + (3 * x1)) + 1).toNatClampNeg) x2) mmind mthen mkept mtext mtexted mrules msizes mruled mread msize mat mwell mwithin msum mbear mnames mletters mbegins mwords mdrifts mabove mbodies mtrace mran msorts mlengths mitems mmoved]) H := hP
  have hD : va_D A (fl [wdX8 kc m_o m_now m_mind m_then m_text m_rules m_sizes m_read m_names m_letters m_begins m_words m_drifts m_above m_bodies m_trace m_sorts m_lengths m_items m_moved (upd mnow (((42 + (3 * x1)) + 1).toNatClampNeg) x2) mmind mthen mkept mtext mtexted mrules msizes mruled mread msize mat mwell mwithin msum mbear mnames mletters mbegins mwords mdrifts mabove mbodies mtrace mran msorts mlengths mitems mmoved]) := hD
  refine lv_aload_n hx hb dX8_holds_14 rfl (lv_at hl 0 rfl) ?_
  refine va_get (D := (dC, dI)) (ci := 8) (v := .ref m_now) (C := RX8) (T := TX8) (N := 29) hx hb hts hinX8_holds_X8 hown hK hP 0 rfl rfl 0 (by decide) (hts _ (List.mem_of_getElem? (i := 1) rfl)) (fun _ h9 => h9) rfl dX8_holds_15 ?_
  refine lv_bipush (v := 42) hx hb dX8_holds_18 (by decide) ?_
  refine lv_iconst (v := 3) hx hb dX8_holds_20 (by decide) ?_
  refine lv_iload_n hx hb dX8_holds_21 rfl (lv_at hl 1 rfl) ?_
  refine lv_imul hx hb dX8_holds_22 ?_
  refine lv_iadd hx hb dX8_holds_23 ?_
  refine lv_iconst (v := 2) hx hb dX8_holds_24 (by decide) ?_
  refine lv_iadd hx hb dX8_holds_25 ?_
  refine lv_iload_n hx hb dX8_holds_26 rfl (lv_at hl 3 rfl) ?_
  obtain ⟨hg27, hm⟩ := gd_e hm
  refine k_iast (D := (dC, dI)) hx hb hK hP hD hS 1 1 rfl rfl (k := ((42 + (3 * x1)) + 2).toNatClampNeg) rfl hg27 dX8_holds_27 (fun H locs hP hD hS => ?_)
  have hP : va_P (dC, dI) vwCl (fl [wdX8 kc m_o m_now m_mind m_then m_text m_rules m_sizes m_read m_names m_letters m_begins m_words m_drifts m_above m_bodies m_trace m_sorts m_lengths m_items m_moved (upd (upd mnow (((42 + (3 * x1)) + 1).toNatClampNeg) x2) (((42 + (3 * x1)) + 2).toNatClampNeg) x3) mmind mthen mkept mtext mtexted mrules msizes mruled mread msize mat mwell mwithin msum mbear mnames mletters mbegins mwords mdrifts mabove mbodies mtrace mran msorts mlengths mitems mmoved]) H := hP
  have hD : va_D A (fl [wdX8 kc m_o m_now m_mind m_then m_text m_rules m_sizes m_read m_names m_letters m_begins m_words m_drifts m_above m_bodies m_trace m_sorts m_lengths m_items m_moved (upd (upd mnow (((42 + (3 * x1)) + 1).toNatClampNeg) x2) (((42 + (3 * x1)) + 2).toNatClampNeg) x3) mmind mthen mkept mtext mtexted mrules msizes mruled mread msize mat mwell mwithin msum mbear mnames mletters mbegins mwords mdrifts mabove mbodies mtrace mran msorts mlengths mitems mmoved]) := hD
  cases hm
  exact k_vret hx hb hr hlocks hP hS dX8_holds_28
def LX8_one_57 (mnow : Nat → Int32) (x1 : Int32) (x2 : Int32) (x3 : Int32) : Nat → Int32 → (Nat → Int32) → Option (Int32 × (Nat → Int32))
  | 0, _, _ => none
  | n57 + 1, l5_57, mnow_57 => if 7 ≤ l5_57 then (bd2 (fX8_change mnow_57 (mnow 54) 0 x1) (fun r85 mnow_85 => bd2 (fX8_change mnow_85 (mnow 54) 1 x2) (fun r94 mnow_94 => bd2 (fX8_change mnow_94 (mnow 54) 2 x3) (fun r103 mnow_103 => some (mnow 54, upd mnow_103 54 ((mnow_103 54) + 1)))))) else (bd2 (fX8_change mnow_57 (mnow 54) l5_57 0) (fun r70 mnow_70 => LX8_one_57 mnow x1 x2 x3 n57 (l5_57 + 1) mnow_70))
def fX8_one (fu : Nat) (mnow : Nat → Int32) (x1 : Int32) (x2 : Int32) (x3 : Int32) : Option (Int32 × (Nat → Int32)) := bd1 (fX8_isIn x1 0 6) (fun r4 => if r4 = 0 then (some (((-1) : Int32), mnow)) else (bd1 (fX8_isIn x2 0 9) (fun r16 => if r16 = 0 then (some (((-2) : Int32), mnow)) else (bd1 (fX8_isIn x3 0 99) (fun r26 => if r26 = 0 then (some (((-2) : Int32), mnow)) else (if (mnow 54) = 6 then (some (((-4) : Int32), mnow)) else (LX8_one_57 mnow x1 x2 x3 fu 0 mnow)))))))
theorem hinX8_one_X8 : ∀ w ∈ u_ws RX8 TX8 29, w ∈ wsX8_one := fun _ h => List.mem_cons_of_mem _ (List.mem_append_right _ h)
abbrev rmX8_one : Room := { frames := 2, cells := 0, slots := 0, locals := 58 }
set_option maxHeartbeats 4000000 in
set_option maxRecDepth 100000 in
theorem ctX8_one {l : Launch} {dC : Nat → ClassId} {dI : Nat → Nat → Nat} {kc : Nat → ClassId} {m_o m_now m_mind m_then m_text m_rules m_sizes m_read m_names m_letters m_begins m_words m_drifts m_above m_bodies m_trace m_sorts m_lengths m_items m_moved : Nat} {mnow : Nat → Int32} {mmind : Nat → Int32} {mthen : Nat → Int32} {mkept : Int32} {mtext : Nat → Int32} {mtexted : Int32} {mrules : Nat → Int32} {msizes : Nat → Int32} {mruled : Int32} {mread : Nat → Int32} {msize : Int32} {mat : Int32} {mwell : Int32} {mwithin : Int32} {msum : Int32} {mbear : Int32} {mnames : Nat → Int32} {mletters : Nat → Int32} {mbegins : Nat → Int32} {mwords : Nat → Int32} {mdrifts : Nat → Int32} {mabove : Nat → Int32} {mbodies : Nat → Int32} {mtrace : Nat → Int32} {mran : Int32} {msorts : Nat → Int32} {mlengths : Nat → Int32} {mitems : Nat → Int64} {mmoved : Nat → Int64} {x1 : Int32} {x2 : Int32} {x3 : Int32} {fu : Nat} {r : Int32} {mnow' : Nat → Int32} (hm : fX8_one fu mnow x1 x2 x3 = some (r, mnow')) : ∀ sz : Nat, Met l yX8_one wsX8_one rmX8_one (kPc dC dI kc [.ref m_o, .int x1, .int x2, .int x3] (fl [wdX8 kc m_o m_now m_mind m_then m_text m_rules m_sizes m_read m_names m_letters m_begins m_words m_drifts m_above m_bodies m_trace m_sorts m_lengths m_items m_moved mnow mmind mthen mkept mtext mtexted mrules msizes mruled mread msize mat mwell mwithin msum mbear mnames mletters mbegins mwords mdrifts mabove mbodies mtrace mran msorts mlengths mitems mmoved]) sz) (kQi dC dI r (fl [wdX8 kc m_o m_now m_mind m_then m_text m_rules m_sizes m_read m_names m_letters m_begins m_words m_drifts m_above m_bodies m_trace m_sorts m_lengths m_items m_moved mnow' mmind mthen mkept mtext mtexted mrules msizes mruled mread msize mat mwell mwithin msum mbear mnames mletters mbegins mwords mdrifts mabove mbodies mtrace mran msorts mlengths mitems mmoved]) (va_A (fl [wdX8 kc m_o m_now m_mind m_then m_text m_rules m_sizes m_read m_names m_letters m_begins m_words m_drifts m_above m_bodies m_trace m_sorts m_lengths m_items m_moved mnow mmind mthen mkept mtext mtexted mrules msizes mruled mread msize mat mwell mwithin msum mbear mnames mletters mbegins mwords mdrifts mabove mbodies mtrace mran msorts mlengths mitems mmoved]) sz)) 0 0 (va_A (fl [wdX8 kc m_o m_now m_mind m_then m_text m_rules m_sizes m_read m_names m_letters m_begins m_words m_drifts m_above m_bodies m_trace m_sorts m_lengths m_items m_moved mnow mmind mthen mkept mtext mtexted mrules msizes mruled mread msize mat mwell mwithin msum mbear mnames mletters mbegins mwords mdrifts mabove mbodies mtrace mran msorts mlengths mitems mmoved]) sz) := by
  intro sz
  refine kMet (cc := cX8_one) (maxL := 6) (ret := (some .int)) (Qf := fun A => kQi dC dI r (fl [wdX8 kc m_o m_now m_mind m_then m_text m_rules m_sizes m_read m_names m_letters m_begins m_words m_drifts m_above m_bodies m_trace m_sorts m_lengths m_items m_moved mnow' mmind mthen mkept mtext mtexted mrules msizes mruled mread msize mat mwell mwithin msum mbear mnames mletters mbegins mwords mdrifts mabove mbodies mtrace mran msorts mlengths mitems mmoved]) A) (by decide) rfl (Nat.le_of_ble_eq_true rfl) ?_
  intro p e s m below meth c A ls hx hb hr hml hts hown hlocks hname hsz hA hP hK hD hl
  have hS : va_S A s.heap s.heap [] := va_S.rf
  have hl : lv_has ls 6 [(0, .ref m_o), (1, .int x1), (2, .int x2), (3, .int x3)] := hl
  unfold fX8_one at hm
  refine lv_iload_n hx hb dX8_one_0 rfl (lv_at hl 1 rfl) ?_
  refine lv_iconst (v := 0) hx hb dX8_one_1 (by decide) ?_
  refine lv_bipush (v := 6) hx hb dX8_one_2 (by decide) ?_
  obtain ⟨r4, hc4, hm⟩ := bd1_e hm
  refine k_callGSi (dC := dC) (dI := dI) (kc := kc) (As := [.int x1, .int 0, .int 6]) (rest := []) (Gs' := [wdX8 kc m_o m_now m_mind m_then m_text m_rules m_sizes m_read m_names m_letters m_begins m_words m_drifts m_above m_bodies m_trace m_sorts m_lengths m_items m_moved mnow mmind mthen mkept mtext mtexted mrules msizes mruled mread msize mat mwell mwithin msum mbear mnames mletters mbegins mwords mdrifts mabove mbodies mtrace mran msorts mlengths mitems mmoved]) hx hb hml hown hts hK hP hD hS hA (ctX8_isIn (x1 := x1) (x2 := 0) (x3 := 6) hc4) (va_cwS 3 hts gX8_one_X8_isIn rfl rfl rfl (by decide +kernel) ⟨Nat.le_of_ble_eq_true rfl, Nat.le_of_ble_eq_true rfl⟩) [] rfl (by decide) rfl hl rfl (Nat.le_of_ble_eq_true rfl) dX8_one_4 ⟨Nat.zero_le _, Nat.zero_le _⟩ rfl rfl rfl (fun H locs hP hD hS => ?_)
  refine lv_if_ne (tgt := 12) hx hb dX8_one_7 (by decide) (fun c7 => ?_) (fun c7 => ?_)
  · replace hm := it_f c7 hm
    refine lv_iload_n hx hb dX8_one_12 rfl (lv_at hl 2 rfl) ?_
    refine lv_iconst (v := 0) hx hb dX8_one_13 (by decide) ?_
    refine lv_bipush (v := 9) hx hb dX8_one_14 (by decide) ?_
    obtain ⟨r16, hc16, hm⟩ := bd1_e hm
    refine k_callGSi (dC := dC) (dI := dI) (kc := kc) (As := [.int x2, .int 0, .int 9]) (rest := []) (Gs' := [wdX8 kc m_o m_now m_mind m_then m_text m_rules m_sizes m_read m_names m_letters m_begins m_words m_drifts m_above m_bodies m_trace m_sorts m_lengths m_items m_moved mnow mmind mthen mkept mtext mtexted mrules msizes mruled mread msize mat mwell mwithin msum mbear mnames mletters mbegins mwords mdrifts mabove mbodies mtrace mran msorts mlengths mitems mmoved]) hx hb hml hown hts hK hP hD hS hA (ctX8_isIn (x1 := x2) (x2 := 0) (x3 := 9) hc16) (va_cwS 3 hts gX8_one_X8_isIn rfl rfl rfl (by decide +kernel) ⟨Nat.le_of_ble_eq_true rfl, Nat.le_of_ble_eq_true rfl⟩) [] rfl (by decide) rfl hl rfl (Nat.le_of_ble_eq_true rfl) dX8_one_16 ⟨Nat.zero_le _, Nat.zero_le _⟩ rfl rfl rfl (fun H locs hP hD hS => ?_)
    refine lv_if_eq (tgt := 32) hx hb dX8_one_19 (by decide) (fun c19 => ?_) (fun c19 => ?_)
    · replace hm := it_t c19 hm
      refine lv_bipush (v := (-2)) hx hb dX8_one_32 (by decide) ?_
      cases hm
      exact k_iret hx hb hr hlocks hP hS dX8_one_34
    · replace hm := it_f c19 hm
      refine lv_iload_n hx hb dX8_one_22 rfl (lv_at hl 3 rfl) ?_
      refine lv_iconst (v := 0) hx hb dX8_one_23 (by decide) ?_
      refine lv_bipush (v := 99) hx hb dX8_one_24 (by decide) ?_
      obtain ⟨r26, hc26, hm⟩ := bd1_e hm
      refine k_callGSi (dC := dC) (dI := dI) (kc := kc) (As := [.int x3, .int 0, .int 99]) (rest := []) (Gs' := [wdX8 kc m_o m_now m_mind m_then m_text m_rules m_sizes m_read m_names m_letters m_begins m_words m_drifts m_above m_bodies m_trace m_sorts m_lengths m_items m_moved mnow mmind mthen mkept mtext mtexted mrules msizes mruled mread msize mat mwell mwithin msum mbear mnames mletters mbegins mwords mdrifts mabove mbodies mtrace mran msorts mlengths mitems mmoved]) hx hb hml hown hts hK hP hD hS hA (ctX8_isIn (x1 := x3) (x2 := 0) (x3 := 99) hc26) (va_cwS 3 hts gX8_one_X8_isIn rfl rfl rfl (by decide +kernel) ⟨Nat.le_of_ble_eq_true rfl, Nat.le_of_ble_eq_true rfl⟩) [] rfl (by decide) rfl hl rfl (Nat.le_of_ble_eq_true rfl) dX8_one_26 ⟨Nat.zero_le _, Nat.zero_le _⟩ rfl rfl rfl (fun H locs hP hD hS => ?_)
      refine lv_if_ne (tgt := 35) hx hb dX8_one_29 (by decide) (fun c29 => ?_) (fun c29 => ?_)
      · replace hm := it_f c29 hm
        refine lv_aload_n hx hb dX8_one_35 rfl (lv_at hl 0 rfl) ?_
        refine va_get (D := (dC, dI)) (ci := 8) (v := .ref m_now) (C := RX8) (T := TX8) (N := 29) hx hb hts hinX8_one_X8 hown hK hP 0 rfl rfl 0 (by decide) (hts _ (List.mem_of_getElem? (i := 1) rfl)) (fun _ h9 => h9) rfl dX8_one_36 ?_
        refine lv_bipush (v := 54) hx hb dX8_one_39 (by decide) ?_
        refine k_iald (D := (dC, dI)) hx hb hK hP 1 1 rfl rfl (k := 54) (by decide) (show ¬ ((54 : Int32) < 0 ∨ 113 ≤ (54 : Int32).toNatClampNeg) from by decide) dX8_one_41 ?_
        refine lv_istore (lv' := [(4, .int (mnow 54)), (0, .ref m_o), (1, .int x1), (2, .int x2), (3, .int x3)]) hx hb dX8_one_42 hl (by decide) rfl (fun ls hl => ?_)
        refine lv_iload hx hb dX8_one_44 (lv_at hl 0 rfl) ?_
        refine lv_bipush (v := 6) hx hb dX8_one_46 (by decide) ?_
        refine lv_icmp_ne (tgt := 54) hx hb dX8_one_48 (by decide) (fun c48 => ?_) (fun c48 => ?_)
        · replace hm := it_f c48 hm
          refine lv_iconst (v := 0) hx hb dX8_one_54 (by decide) ?_
          refine lv_istore (lv' := [(5, .int 0), (4, .int (mnow 54)), (0, .ref m_o), (1, .int x1), (2, .int x2), (3, .int x3)]) hx hb dX8_one_55 hl (by decide) rfl (fun ls hl => ?_)
          have hL57 : ∀ (fn : Nat) (l5_57 : Int32) (mnow_57 : Nat → Int32), LX8_one_57 mnow x1 x2 x3 fn l5_57 mnow_57 = some (r, mnow') → ∀ (H : Heap) (locs : List Loc), va_P (dC, dI) vwCl (fl [wdX8 kc m_o m_now m_mind m_then m_text m_rules m_sizes m_read m_names m_letters m_begins m_words m_drifts m_above m_bodies m_trace m_sorts m_lengths m_items m_moved mnow_57 mmind mthen mkept mtext mtexted mrules msizes mruled mread msize mat mwell mwithin msum mbear mnames mletters mbegins mwords mdrifts mabove mbodies mtrace mran msorts mlengths mitems mmoved]) H → va_D A (fl [wdX8 kc m_o m_now m_mind m_then m_text m_rules m_sizes m_read m_names m_letters m_begins m_words m_drifts m_above m_bodies m_trace m_sorts m_lengths m_items m_moved mnow_57 mmind mthen mkept mtext mtexted mrules msizes mruled mread msize mat mwell mwithin msum mbear mnames mletters mbegins mwords mdrifts mabove mbodies mtrace mran msorts mlengths mitems mmoved]) → va_S A s.heap H locs → ∀ ls : Array Slot, lv_has ls 6 [(0, .ref m_o), (1, .int x1), (2, .int x2), (3, .int x3), (4, .int (mnow 54)), (5, .int l5_57)] → W p l e (headSpec wsX8_one rmX8_one).room s m [.ref m_o, .int x1, .int x2, .int x3].toArray below meth c H locs 0 0 (MQ below (kQi dC dI r (fl [wdX8 kc m_o m_now m_mind m_then m_text m_rules m_sizes m_read m_names m_letters m_begins m_words m_drifts m_above m_bodies m_trace m_sorts m_lengths m_items m_moved mnow' mmind mthen mkept mtext mtexted mrules msizes mruled mread msize mat mwell mwithin msum mbear mnames mletters mbegins mwords mdrifts mabove mbodies mtrace mran msorts mlengths mitems mmoved]) A) [.ref m_o, .int x1, .int x2, .int x3].toArray s 0 0 A) (F0 m 57 ls []) := by
            clear hm hP hD hS hl
            intro n57
            induction n57 with
            | zero => intro l5_57 mnow_57 hm; rw [LX8_one_57] at hm; cases hm
            | succ n57 ih57 =>
              intro l5_57 mnow_57 hm H locs hP hD hS ls hl
              rw [LX8_one_57] at hm
              refine lv_iload hx hb dX8_one_57 (lv_at hl 5 rfl) ?_
              refine lv_bipush (v := 7) hx hb dX8_one_59 (by decide) ?_
              refine lv_icmp_ge (tgt := 80) hx hb dX8_one_61 (by decide) (fun c61 => ?_) (fun c61 => ?_)
              · replace hm := it_t c61 hm
                refine lv_aload_n hx hb dX8_one_80 rfl (lv_at hl 0 rfl) ?_
                refine lv_iload hx hb dX8_one_81 (lv_at hl 4 rfl) ?_
                refine lv_iconst (v := 0) hx hb dX8_one_83 (by decide) ?_
                refine lv_iload_n hx hb dX8_one_84 rfl (lv_at hl 1 rfl) ?_
                obtain ⟨r85, mnow_85, hc85, hm⟩ := bd2_e hm
                refine k_callGVi (dC := dC) (dI := dI) (kc := kc) (As := [.int (mnow 54), .int 0, .int x1]) (rest := []) (Gs' := [wdX8 kc m_o m_now m_mind m_then m_text m_rules m_sizes m_read m_names m_letters m_begins m_words m_drifts m_above m_bodies m_trace m_sorts m_lengths m_items m_moved mnow_85 mmind mthen mkept mtext mtexted mrules msizes mruled mread msize mat mwell mwithin msum mbear mnames mletters mbegins mwords mdrifts mabove mbodies mtrace mran msorts mlengths mitems mmoved]) hx hb hml hown hts hK hP hD hS hA (ctX8_change (m_o := m_o) (m_now := m_now) (m_mind := m_mind) (m_then := m_then) (m_text := m_text) (m_rules := m_rules) (m_sizes := m_sizes) (m_read := m_read) (m_names := m_names) (m_letters := m_letters) (m_begins := m_begins) (m_words := m_words) (m_drifts := m_drifts) (m_above := m_above) (m_bodies := m_bodies) (m_trace := m_trace) (m_sorts := m_sorts) (m_lengths := m_lengths) (m_items := m_items) (m_moved := m_moved) (mnow := mnow_57) (mmind := mmind) (mthen := mthen) (mkept := mkept) (mtext := mtext) (mtexted := mtexted) (mrules := mrules) (msizes := msizes) (mruled := mruled) (mread := mread) (msize := msize) (mat := mat) (mwell := mwell) (mwithin := mwithin) (msum := msum) (mbear := mbear) (mnames := mnames) (mletters := mletters) (mbegins := mbegins) (mwords := mwords) (mdrifts := mdrifts) (mabove := mabove) (mbodies := mbodies) (mtrace := mtrace) (mran := mran) (msorts := msorts) (mlengths := mlengths) (mitems := mitems) (mmoved := mmoved) (x1 := mnow 54) (x2 := 0) (x3 := x1) hc85) (cwV 3 hts gX8_one_X8_change rfl rfl rfl (by decide +kernel) ⟨Nat.le_of_ble_eq_true rfl, Nat.le_of_ble_eq_true rfl⟩) [0] rfl (by decide) 8 rfl rfl rfl rfl hl rfl (Nat.le_of_ble_eq_true rfl) dX8_one_85 ⟨Nat.zero_le _, Nat.zero_le _⟩ rfl rfl rfl (fun H locs hP hD hS => ?_)
                refine lv_pop hx hb dX8_one_88 rfl ?_
                refine lv_aload_n hx hb dX8_one_89 rfl (lv_at hl 0 rfl) ?_
                refine lv_iload hx hb dX8_one_90 (lv_at hl 4 rfl) ?_
                refine lv_iconst (v := 1) hx hb dX8_one_92 (by decide) ?_
                refine lv_iload_n hx hb dX8_one_93 rfl (lv_at hl 2 rfl) ?_
                obtain ⟨r94, mnow_94, hc94, hm⟩ := bd2_e hm
                refine k_callGVi (dC := dC) (dI := dI) (kc := kc) (As := [.int (mnow 54), .int 1, .int x2]) (rest := []) (Gs' := [wdX8 kc m_o m_now m_mind m_then m_text m_rules m_sizes m_read m_names m_letters m_begins m_words m_drifts m_above m_bodies m_trace m_sorts m_lengths m_items m_moved mnow_94 mmind mthen mkept mtext mtexted mrules msizes mruled mread msize mat mwell mwithin msum mbear mnames mletters mbegins mwords mdrifts mabove mbodies mtrace mran msorts mlengths mitems mmoved]) hx hb hml hown hts hK hP hD hS hA (ctX8_change (m_o := m_o) (m_now := m_now) (m_mind := m_mind) (m_then := m_then) (m_text := m_text) (m_rules := m_rules) (m_sizes := m_sizes) (m_read := m_read) (m_names := m_names) (m_letters := m_letters) (m_begins := m_begins) (m_words := m_words) (m_drifts := m_drifts) (m_above := m_above) (m_bodies := m_bodies) (m_trace := m_trace) (m_sorts := m_sorts) (m_lengths := m_lengths) (m_items := m_items) (m_moved := m_moved) (mnow := mnow_85) (mmind := mmind) (mthen := mthen) (mkept := mkept) (mtext := mtext) (mtexted := mtexted) (mrules := mrules) (msizes := msizes) (mruled := mruled) (mread := mread) (msize := msize) (mat := mat) (mwell := mwell) (mwithin := mwithin) (msum := msum) (mbear := mbear) (mnames := mnames) (mletters := mletters) (mbegins := mbegins) (mwords := mwords) (mdrifts := mdrifts) (mabove := mabove) (mbodies := mbodies) (mtrace := mtrace) (mran := mran) (msorts := msorts) (mlengths := mlengths) (mitems := mitems) (mmoved := mmoved) (x1 := mnow 54) (x2 := 1) (x3 := x2) hc94) (cwV 3 hts gX8_one_X8_change rfl rfl rfl (by decide +kernel) ⟨Nat.le_of_ble_eq_true rfl, Nat.le_of_ble_eq_true rfl⟩) [0] rfl (by decide) 8 rfl rfl rfl rfl hl rfl (Nat.le_of_ble_eq_true rfl) dX8_one_94 ⟨Nat.zero_le _, Nat.zero_le _⟩ rfl rfl rfl (fun H locs hP hD hS => ?_)
                refine lv_pop hx hb dX8_one_97 rfl ?_
                refine lv_aload_n hx hb dX8_one_98 rfl (lv_at hl 0 rfl) ?_
                refine lv_iload hx hb dX8_one_99 (lv_at hl 4 rfl) ?_
                refine lv_iconst (v := 2) hx hb dX8_one_101 (by decide) ?_
                refine lv_iload_n hx hb dX8_one_102 rfl (lv_at hl 3 rfl) ?_
                obtain ⟨r103, mnow_103, hc103, hm⟩ := bd2_e hm
                refine k_callGVi (dC := dC) (dI := dI) (kc := kc) (As := [.int (mnow 54), .int 2, .int x3]) (rest := []) (Gs' := [wdX8 kc m_o m_now m_mind m_then m_text m_rules m_sizes m_read m_names m_letters m_begins m_words m_drifts m_above m_bodies m_trace m_sorts m_lengths m_items m_moved mnow_103 mmind mthen mkept mtext mtexted mrules msizes mruled mread msize mat mwell mwithin msum mbear mnames mletters mbegins mwords mdrifts mabove mbodies mtrace mran msorts mlengths mitems mmoved]) hx hb hml hown hts hK hP hD hS hA (ctX8_change (m_o := m_o) (m_now := m_now) (m_mind := m_mind) (m_then := m_then) (m_text := m_text) (m_rules := m_rules) (m_sizes := m_sizes) (m_read := m_read) (m_names := m_names) (m_letters := m_letters) (m_begins := m_begins) (m_words := m_words) (m_drifts := m_drifts) (m_above := m_above) (m_bodies := m_bodies) (m_trace := m_trace) (m_sorts := m_sorts) (m_lengths := m_lengths) (m_items := m_items) (m_moved := m_moved) (mnow := mnow_94) (mmind := mmind) (mthen := mthen) (mkept := mkept) (mtext := mtext) (mtexted := mtexted) (mrules := mrules) (msizes := msizes) (mruled := mruled) (mread := mread) (msize := msize) (mat := mat) (mwell := mwell) (mwithin := mwithin) (msum := msum) (mbear := mbear) (mnames := mnames) (mletters := mletters) (mbegins := mbegins) (mwords := mwords) (mdrifts := mdrifts) (mabove := mabove) (mbodies := mbodies) (mtrace := mtrace) (mran := mran) (msorts := msorts) (mlengths := mlengths) (mitems := mitems) (mmoved := mmoved) (x1 := mnow 54) (x2 := 2) (x3 := x3) hc103) (cwV 3 hts gX8_one_X8_change rfl rfl rfl (by decide +kernel) ⟨Nat.le_of_ble_eq_true rfl, Nat.le_of_ble_eq_true rfl⟩) [0] rfl (by decide) 8 rfl rfl rfl rfl hl rfl (Nat.le_of_ble_eq_true rfl) dX8_one_103 ⟨Nat.zero_le _, Nat.zero_le _⟩ rfl rfl rfl (fun H locs hP hD hS => ?_)
                refine lv_pop hx hb dX8_one_106 rfl ?_
                refine lv_aload_n hx hb dX8_one_107 rfl (lv_at hl 0 rfl) ?_
                refine va_get (D := (dC, dI)) (ci := 8) (v := .ref m_now) (C := RX8) (T := TX8) (N := 29) hx hb hts hinX8_one_X8 hown hK hP 0 rfl rfl 0 (by decide) (hts _ (List.mem_of_getElem? (i := 1) rfl)) (fun _ h9 => h9) rfl dX8_one_108 ?_
                refine lv_bipush (v := 54) hx hb dX8_one_111 (by decide) ?_
                refine lv_dup2_11 hx hb dX8_one_113 rfl rfl ?_
                refine k_iald (D := (dC, dI)) hx hb hK hP 1 1 rfl rfl (k := 54) (by decide) (show ¬ ((54 : Int32) < 0 ∨ 113 ≤ (54 : Int32).toNatClampNeg) from by decide) dX8_one_114 ?_
                refine lv_iconst (v := 1) hx hb dX8_one_115 (by decide) ?_
                refine lv_iadd hx hb dX8_one_116 ?_
                refine k_iast (D := (dC, dI)) hx hb hK hP hD hS 1 1 rfl rfl (k := 54) (by decide) (show ¬ ((54 : Int32) < 0 ∨ 113 ≤ (54 : Int32).toNatClampNeg) from by decide) dX8_one_117 (fun H locs hP hD hS => ?_)
                have hP : va_P (dC, dI) vwCl (fl [wdX8 kc m_o m_now m_mind m_then m_text m_rules m_sizes m_read m_names m_letters m_begins m_words m_drifts m_above m_bodies m_trace m_sorts m_lengths m_items m_moved (upd mnow_103 54 ((mnow_103 54) + 1)) mmind mthen mkept mtext mtexted mrules msizes mruled mread msize mat mwell mwithin msum mbear mnames mletters mbegins mwords mdrifts mabove mbodies mtrace mran msorts mlengths mitems mmoved]) H := hP
                have hD : va_D A (fl [wdX8 kc m_o m_now m_mind m_then m_text m_rules m_sizes m_read m_names m_letters m_begins m_words m_drifts m_above m_bodies m_trace m_sorts m_lengths m_items m_moved (upd mnow_103 54 ((mnow_103 54) + 1)) mmind mthen mkept mtext mtexted mrules msizes mruled mread msize mat mwell mwithin msum mbear mnames mletters mbegins mwords mdrifts mabove mbodies mtrace mran msorts mlengths mitems mmoved]) := hD
                refine lv_iload hx hb dX8_one_118 (lv_at hl 4 rfl) ?_
                cases hm
                exact k_iret hx hb hr hlocks hP hS dX8_one_120
              · replace hm := it_f c61 hm
                refine lv_aload_n hx hb dX8_one_64 rfl (lv_at hl 0 rfl) ?_
                refine lv_iload hx hb dX8_one_65 (lv_at hl 4 rfl) ?_
                refine lv_iload hx hb dX8_one_67 (lv_at hl 5 rfl) ?_
                refine lv_iconst (v := 0) hx hb dX8_one_69 (by decide) ?_
                obtain ⟨r70, mnow_70, hc70, hm⟩ := bd2_e hm
                refine k_callGVi (dC := dC) (dI := dI) (kc := kc) (As := [.int (mnow 54), .int l5_57, .int 0]) (rest := []) (Gs' := [wdX8 kc m_o m_now m_mind m_then m_text m_rules m_sizes m_read m_names m_letters m_begins m_words m_drifts m_above m_bodies m_trace m_sorts m_lengths m_items m_moved mnow_70 mmind mthen mkept mtext mtexted mrules msizes mruled mread msize mat mwell mwithin msum mbear mnames mletters mbegins mwords mdrifts mabove mbodies mtrace mran msorts mlengths mitems mmoved]) hx hb hml hown hts hK hP hD hS hA (ctX8_change (m_o := m_o) (m_now := m_now) (m_mind := m_mind) (m_then := m_then) (m_text := m_text) (m_rules := m_rules) (m_sizes := m_sizes) (m_read := m_read) (m_names := m_names) (m_letters := m_letters) (m_begins := m_begins) (m_words := m_words) (m_drifts := m_drifts) (m_above := m_above) (m_bodies := m_bodies) (m_trace := m_trace) (m_sorts := m_sorts) (m_lengths := m_lengths) (m_items := m_items) (m_moved := m_moved) (mnow := mnow_57) (mmind := mmind) (mthen := mthen) (mkept := mkept) (mtext := mtext) (mtexted := mtexted) (mrules := mrules) (msizes := msizes) (mruled := mruled) (mread := mread) (msize := msize) (mat := mat) (mwell := mwell) (mwithin := mwithin) (msum := msum) (mbear := mbear) (mnames := mnames) (mletters := mletters) (mbegins := mbegins) (mwords := mwords) (mdrifts := mdrifts) (mabove := mabove) (mbodies := mbodies) (mtrace := mtrace) (mran := mran) (msorts := msorts) (mlengths := mlengths) (mitems := mitems) (mmoved := mmoved) (x1 := mnow 54) (x2 := l5_57) (x3 := 0) hc70) (cwV 3 hts gX8_one_X8_change rfl rfl rfl (by decide +kernel) ⟨Nat.le_of_ble_eq_true rfl, Nat.le_of_ble_eq_true rfl⟩) [0] rfl (by decide) 8 rfl rfl rfl rfl hl rfl (Nat.le_of_ble_eq_true rfl) dX8_one_70 ⟨Nat.zero_le _, Nat.zero_le _⟩ rfl rfl rfl (fun H locs hP hD hS => ?_)
                refine lv_pop hx hb dX8_one_73 rfl ?_
                refine lv_iinc (v := l5_57 + 1) (lv' := [(5, .int (l5_57 + 1)), (0, .ref m_o), (1, .int x1), (2, .int x2), (3, .int x3), (4, .int (mnow 54))]) hx hb dX8_one_74 hl (k := 5) rfl rfl (by decide) rfl (fun ls hl => ?_)
                refine lv_goto (tgt := 57) hx hb dX8_one_77 (by decide) ?_
                exact ih57 (l5_57 + 1) mnow_70 hm _ _ hP hD hS _ (lv_sub hl [1, 2, 3, 4, 5, 0] rfl)
          exact hL57 _ _ _ hm _ _ hP hD hS _ (lv_sub hl [2, 3, 4, 5, 1, 0] rfl)
        · replace hm := it_t c48 hm
          refine lv_bipush (v := (-4)) hx hb dX8_one_51 (by decide) ?_
          cases hm
          exact k_iret hx hb hr hlocks hP hS dX8_one_53
      · replace hm := it_t c29 hm
        refine lv_bipush (v := (-2)) hx hb dX8_one_32 (by decide) ?_
        cases hm
        exact k_iret hx hb hr hlocks hP hS dX8_one_34
  · replace hm := it_t c7 hm
    refine lv_iconst (v := (-1)) hx hb dX8_one_10 (by decide) ?_
    cases hm
    exact k_iret hx hb hr hlocks hP hS dX8_one_11
def LX8_leavesOf_4 (mnow : Nat → Int32) (x1 : Int32) : Nat → Int32 → Int32 → Option Int32
  | 0, _, _ => none
  | n4 + 1, l2_4, l3_4 => if (mnow 55) ≤ l3_4 then (some l2_4) else (bd1 (fX8_isHeld mnow l3_4) (fun r18 => if r18 = 0 then (LX8_leavesOf_4 mnow x1 n4 (l2_4 + 0) (l3_4 + 1)) else (bd1 (fX8_holder mnow l3_4 1) (fun r27 => if r27 = x1 then (LX8_leavesOf_4 mnow x1 n4 (l2_4 + 1) (l3_4 + 1)) else (bd1 (fX8_holder mnow l3_4 2) (fun r37 => if r37 = x1 then (LX8_leavesOf_4 mnow x1 n4 (l2_4 + 1) (l3_4 + 1)) else (LX8_leavesOf_4 mnow x1 n4 (l2_4 + 0) (l3_4 + 1))))))))
def fX8_leavesOf (fu : Nat) (mnow : Nat → Int32) (x1 : Int32) : Option Int32 := LX8_leavesOf_4 mnow x1 fu 0 0
theorem hinX8_leavesOf_X8 : ∀ w ∈ u_ws RX8 TX8 29, w ∈ wsX8_leavesOf := fun _ h => List.mem_cons_of_mem _ (List.mem_append_right _ h)
abbrev rmX8_leavesOf : Room := { frames := 2, cells := 0, slots := 0, locals := 55 }
set_option maxHeartbeats 4000000 in
set_option maxRecDepth 100000 in
theorem ctX8_leavesOf {l : Launch} {dC : Nat → ClassId} {dI : Nat → Nat → Nat} {kc : Nat → ClassId} {m_o m_now m_mind m_then m_text m_rules m_sizes m_read m_names m_letters m_begins m_words m_drifts m_above m_bodies m_trace m_sorts m_lengths m_items m_moved : Nat} {mnow : Nat → Int32} {mmind : Nat → Int32} {mthen : Nat → Int32} {mkept : Int32} {mtext : Nat → Int32} {mtexted : Int32} {mrules : Nat → Int32} {msizes : Nat → Int32} {mruled : Int32} {mread : Nat → Int32} {msize : Int32} {mat : Int32} {mwell : Int32} {mwithin : Int32} {msum : Int32} {mbear : Int32} {mnames : Nat → Int32} {mletters : Nat → Int32} {mbegins : Nat → Int32} {mwords : Nat → Int32} {mdrifts : Nat → Int32} {mabove : Nat → Int32} {mbodies : Nat → Int32} {mtrace : Nat → Int32} {mran : Int32} {msorts : Nat → Int32} {mlengths : Nat → Int32} {mitems : Nat → Int64} {mmoved : Nat → Int64} {x1 : Int32} {fu : Nat} {r : Int32} (hm : fX8_leavesOf fu mnow x1 = some r) : ∀ sz : Nat, Met l yX8_leavesOf wsX8_leavesOf rmX8_leavesOf (kPc dC dI kc [.ref m_o, .int x1] (fl [wdX8 kc m_o m_now m_mind m_then m_text m_rules m_sizes m_read m_names m_letters m_begins m_words m_drifts m_above m_bodies m_trace m_sorts m_lengths m_items m_moved mnow mmind mthen mkept mtext mtexted mrules msizes mruled mread msize mat mwell mwithin msum mbear mnames mletters mbegins mwords mdrifts mabove mbodies mtrace mran msorts mlengths mitems mmoved]) sz) (kQi dC dI r (fl [wdX8 kc m_o m_now m_mind m_then m_text m_rules m_sizes m_read m_names m_letters m_begins m_words m_drifts m_above m_bodies m_trace m_sorts m_lengths m_items m_moved mnow mmind mthen mkept mtext mtexted mrules msizes mruled mread msize mat mwell mwithin msum mbear mnames mletters mbegins mwords mdrifts mabove mbodies mtrace mran msorts mlengths mitems mmoved]) (va_A (fl [wdX8 kc m_o m_now m_mind m_then m_text m_rules m_sizes m_read m_names m_letters m_begins m_words m_drifts m_above m_bodies m_trace m_sorts m_lengths m_items m_moved mnow mmind mthen mkept mtext mtexted mrules msizes mruled mread msize mat mwell mwithin msum mbear mnames mletters mbegins mwords mdrifts mabove mbodies mtrace mran msorts mlengths mitems mmoved]) sz)) 0 0 (va_A (fl [wdX8 kc m_o m_now m_mind m_then m_text m_rules m_sizes m_read m_names m_letters m_begins m_words m_drifts m_above m_bodies m_trace m_sorts m_lengths m_items m_moved mnow mmind mthen mkept mtext mtexted mrules msizes mruled mread msize mat mwell mwithin msum mbear mnames mletters mbegins mwords mdrifts mabove mbodies mtrace mran msorts mlengths mitems mmoved]) sz) := by
  intro sz
  refine kMet (cc := cX8_leavesOf) (maxL := 4) (ret := (some .int)) (Qf := fun A => kQi dC dI r (fl [wdX8 kc m_o m_now m_mind m_then m_text m_rules m_sizes m_read m_names m_letters m_begins m_words m_drifts m_above m_bodies m_trace m_sorts m_lengths m_items m_moved mnow mmind mthen mkept mtext mtexted mrules msizes mruled mread msize mat mwell mwithin msum mbear mnames mletters mbegins mwords mdrifts mabove mbodies mtrace mran msorts mlengths mitems mmoved]) A) (by decide) rfl (Nat.le_of_ble_eq_true rfl) ?_
  intro p e s m below meth c A ls hx hb hr hml hts hown hlocks hname hsz hA hP hK hD hl
  have hS : va_S A s.heap s.heap [] := va_S.rf
  have hl : lv_has ls 4 [(0, .ref m_o), (1, .int x1)] := hl
  unfold fX8_leavesOf at hm
  refine lv_iconst (v := 0) hx hb dX8_leavesOf_0 (by decide) ?_
  refine lv_istore_n (lv' := [(2, .int 0), (0, .ref m_o), (1, .int x1)]) hx hb dX8_leavesOf_1 rfl hl (by decide) rfl (fun ls hl => ?_)
  refine lv_iconst (v := 0) hx hb dX8_leavesOf_2 (by decide) ?_
  refine lv_istore_n (lv' := [(3, .int 0), (2, .int 0), (0, .ref m_o), (1, .int x1)]) hx hb dX8_leavesOf_3 rfl hl (by decide) rfl (fun ls hl => ?_)
  have hL4 : ∀ (fn : Nat) (l2_4 : Int32) (l3_4 : Int32), LX8_leavesOf_4 mnow x1 fn l2_4 l3_4 = some r → ∀ (H : Heap) (locs : List Loc), va_P (dC, dI) vwCl (fl [wdX8 kc m_o m_now m_mind m_then m_text m_rules m_sizes m_read m_names m_letters m_begins m_words m_drifts m_above m_bodies m_trace m_sorts m_lengths m_items m_moved mnow mmind mthen mkept mtext mtexted mrules msizes mruled mread msize mat mwell mwithin msum mbear mnames mletters mbegins mwords mdrifts mabove mbodies mtrace mran msorts mlengths mitems mmoved]) H → va_D A (fl [wdX8 kc m_o m_now m_mind m_then m_text m_rules m_sizes m_read m_names m_letters m_begins m_words m_drifts m_above m_bodies m_trace m_sorts m_lengths m_items m_moved mnow mmind mthen mkept mtext mtexted mrules msizes mruled mread msize mat mwell mwithin msum mbear mnames mletters mbegins mwords mdrifts mabove mbodies mtrace mran msorts mlengths mitems mmoved]) → va_S A s.heap H locs → ∀ ls : Array Slot, lv_has ls 4 [(0, .ref m_o), (1, .int x1), (2, .int l2_4), (3, .int l3_4)] → W p l e (headSpec wsX8_leavesOf rmX8_leavesOf).room s m [.ref m_o, .int x1].toArray below meth c H locs 0 0 (MQ below (kQi dC dI r (fl [wdX8 kc m_o m_now m_mind m_then m_text m_rules m_sizes m_read m_names m_letters m_begins m_words m_drifts m_above m_bodies m_trace m_sorts m_lengths m_items m_moved mnow mmind mthen mkept mtext mtexted mrules msizes mruled mread msize mat mwell mwithin msum mbear mnames mletters mbegins mwords mdrifts mabove mbodies mtrace mran msorts mlengths mitems mmoved]) A) [.ref m_o, .int x1].toArray s 0 0 A) (F0 m 4 ls []) := by
    clear hm hP hD hS hl
    intro n4
    induction n4 with
    | zero => intro l2_4 l3_4 hm; rw [LX8_leavesOf_4] at hm; cases hm
    | succ n4 ih4 =>
      intro l2_4 l3_4 hm H locs hP hD hS ls hl
      rw [LX8_leavesOf_4] at hm
      refine lv_iload_n hx hb dX8_leavesOf_4 rfl (lv_at hl 3 rfl) ?_
      refine lv_aload_n hx hb dX8_leavesOf_5 rfl (lv_at hl 0 rfl) ?_
      refine va_get (D := (dC, dI)) (ci := 8) (v := .ref m_now) (C := RX8) (T := TX8) (N := 29) hx hb hts hinX8_leavesOf_X8 hown hK hP 0 rfl rfl 0 (by decide) (hts _ (List.mem_of_getElem? (i := 1) rfl)) (fun _ h9 => h9) rfl dX8_leavesOf_6 ?_
      refine lv_bipush (v := 55) hx hb dX8_leavesOf_9 (by decide) ?_
      refine k_iald (D := (dC, dI)) hx hb hK hP 1 1 rfl rfl (k := 55) (by decide) (show ¬ ((55 : Int32) < 0 ∨ 113 ≤ (55 : Int32).toNatClampNeg) from by decide) dX8_leavesOf_11 ?_
      refine lv_icmp_ge (tgt := 57) hx hb dX8_leavesOf_12 (by decide) (fun c12 => ?_) (fun c12 => ?_)
      · replace hm := it_t c12 hm
        refine lv_iload_n hx hb dX8_leavesOf_57 rfl (lv_at hl 2 rfl) ?_
        cases hm
        exact k_iret hx hb hr hlocks hP hS dX8_leavesOf_58
      · replace hm := it_f c12 hm
        refine lv_iload_n hx hb dX8_leavesOf_15 rfl (lv_at hl 2 rfl) ?_
        refine lv_aload_n hx hb dX8_leavesOf_16 rfl (lv_at hl 0 rfl) ?_
        refine lv_iload_n hx hb dX8_leavesOf_17 rfl (lv_at hl 3 rfl) ?_
        obtain ⟨r18, hc18, hm⟩ := bd1_e hm
        refine k_callGVi (dC := dC) (dI := dI) (kc := kc) (As := [.int l3_4]) (rest := [.int l2_4]) (Gs' := [wdX8 kc m_o m_now m_mind m_then m_text m_rules m_sizes m_read m_names m_letters m_begins m_words m_drifts m_above m_bodies m_trace m_sorts m_lengths m_items m_moved mnow mmind mthen mkept mtext mtexted mrules msizes mruled mread msize mat mwell mwithin msum mbear mnames mletters mbegins mwords mdrifts mabove mbodies mtrace mran msorts mlengths mitems mmoved]) hx hb hml hown hts hK hP hD hS hA (ctX8_isHeld (m_o := m_o) (m_now := m_now) (m_mind := m_mind) (m_then := m_then) (m_text := m_text) (m_rules := m_rules) (m_sizes := m_sizes) (m_read := m_read) (m_names := m_names) (m_letters := m_letters) (m_begins := m_begins) (m_words := m_words) (m_drifts := m_drifts) (m_above := m_above) (m_bodies := m_bodies) (m_trace := m_trace) (m_sorts := m_sorts) (m_lengths := m_lengths) (m_items := m_items) (m_moved := m_moved) (mnow := mnow) (mmind := mmind) (mthen := mthen) (mkept := mkept) (mtext := mtext) (mtexted := mtexted) (mrules := mrules) (msizes := msizes) (mruled := mruled) (mread := mread) (msize := msize) (mat := mat) (mwell := mwell) (mwithin := mwithin) (msum := msum) (mbear := mbear) (mnames := mnames) (mletters := mletters) (mbegins := mbegins) (mwords := mwords) (mdrifts := mdrifts) (mabove := mabove) (mbodies := mbodies) (mtrace := mtrace) (mran := mran) (msorts := msorts) (mlengths := mlengths) (mitems := mitems) (mmoved := mmoved) (x1 := l3_4) hc18) (cwV 1 hts gX8_leavesOf_X8_isHeld rfl rfl rfl (by decide +kernel) ⟨Nat.le_of_ble_eq_true rfl, Nat.le_of_ble_eq_true rfl⟩) [0] rfl (by decide) 8 rfl rfl rfl rfl hl rfl (Nat.le_of_ble_eq_true rfl) dX8_leavesOf_18 ⟨Nat.zero_le _, Nat.zero_le _⟩ rfl rfl rfl (fun H locs hP hD hS => ?_)
        refine lv_if_eq (tgt := 48) hx hb dX8_leavesOf_21 (by decide) (fun c21 => ?_) (fun c21 => ?_)
        · replace hm := it_t c21 hm
          refine lv_iconst (v := 0) hx hb dX8_leavesOf_48 (by decide) ?_
          refine lv_iadd hx hb dX8_leavesOf_49 ?_
          refine lv_istore_n (lv' := [(2, .int (l2_4 + 0)), (0, .ref m_o), (1, .int x1), (3, .int l3_4)]) hx hb dX8_leavesOf_50 rfl hl (by decide) rfl (fun ls hl => ?_)
          refine lv_iinc (v := l3_4 + 1) (lv' := [(3, .int (l3_4 + 1)), (2, .int (l2_4 + 0)), (0, .ref m_o), (1, .int x1)]) hx hb dX8_leavesOf_51 hl (k := 3) rfl rfl (by decide) rfl (fun ls hl => ?_)
          refine lv_goto (tgt := 4) hx hb dX8_leavesOf_54 (by decide) ?_
          exact ih4 (l2_4 + 0) (l3_4 + 1) hm _ _ hP hD hS _ (lv_sub hl [2, 3, 1, 0] rfl)
        · replace hm := it_f c21 hm
          refine lv_aload_n hx hb dX8_leavesOf_24 rfl (lv_at hl 0 rfl) ?_
          refine lv_iload_n hx hb dX8_leavesOf_25 rfl (lv_at hl 3 rfl) ?_
          refine lv_iconst (v := 1) hx hb dX8_leavesOf_26 (by decide) ?_
          obtain ⟨r27, hc27, hm⟩ := bd1_e hm
          refine k_callGVi (dC := dC) (dI := dI) (kc := kc) (As := [.int l3_4, .int 1]) (rest := [.int l2_4]) (Gs' := [wdX8 kc m_o m_now m_mind m_then m_text m_rules m_sizes m_read m_names m_letters m_begins m_words m_drifts m_above m_bodies m_trace m_sorts m_lengths m_items m_moved mnow mmind mthen mkept mtext mtexted mrules msizes mruled mread msize mat mwell mwithin msum mbear mnames mletters mbegins mwords mdrifts mabove mbodies mtrace mran msorts mlengths mitems mmoved]) hx hb hml hown hts hK hP hD hS hA (ctX8_holder (m_o := m_o) (m_now := m_now) (m_mind := m_mind) (m_then := m_then) (m_text := m_text) (m_rules := m_rules) (m_sizes := m_sizes) (m_read := m_read) (m_names := m_names) (m_letters := m_letters) (m_begins := m_begins) (m_words := m_words) (m_drifts := m_drifts) (m_above := m_above) (m_bodies := m_bodies) (m_trace := m_trace) (m_sorts := m_sorts) (m_lengths := m_lengths) (m_items := m_items) (m_moved := m_moved) (mnow := mnow) (mmind := mmind) (mthen := mthen) (mkept := mkept) (mtext := mtext) (mtexted := mtexted) (mrules := mrules) (msizes := msizes) (mruled := mruled) (mread := mread) (msize := msize) (mat := mat) (mwell := mwell) (mwithin := mwithin) (msum := msum) (mbear := mbear) (mnames := mnames) (mletters := mletters) (mbegins := mbegins) (mwords := mwords) (mdrifts := mdrifts) (mabove := mabove) (mbodies := mbodies) (mtrace := mtrace) (mran := mran) (msorts := msorts) (mlengths := mlengths) (mitems := mitems) (mmoved := mmoved) (x1 := l3_4) (x2 := 1) hc27) (cwV 2 hts gX8_leavesOf_X8_holder rfl rfl rfl (by decide +kernel) ⟨Nat.le_of_ble_eq_true rfl, Nat.le_of_ble_eq_true rfl⟩) [0] rfl (by decide) 8 rfl rfl rfl rfl hl rfl (Nat.le_of_ble_eq_true rfl) dX8_leavesOf_27 ⟨Nat.zero_le _, Nat.zero_le _⟩ rfl rfl rfl (fun H locs hP hD hS => ?_)
          refine lv_iload_n hx hb dX8_leavesOf_30 rfl (lv_at hl 1 rfl) ?_
          refine lv_icmp_eq (tgt := 44) hx hb dX8_leavesOf_31 (by decide) (fun c31 => ?_) (fun c31 => ?_)
          · replace hm := it_t c31 hm
            refine lv_iconst (v := 1) hx hb dX8_leavesOf_44 (by decide) ?_
            refine lv_goto (tgt := 49) hx hb dX8_leavesOf_45 (by decide) ?_
            refine lv_iadd hx hb dX8_leavesOf_49 ?_
            refine lv_istore_n (lv' := [(2, .int (l2_4 + 1)), (0, .ref m_o), (1, .int x1), (3, .int l3_4)]) hx hb dX8_leavesOf_50 rfl hl (by decide) rfl (fun ls hl => ?_)
            refine lv_iinc (v := l3_4 + 1) (lv' := [(3, .int (l3_4 + 1)), (2, .int (l2_4 + 1)), (0, .ref m_o), (1, .int x1)]) hx hb dX8_leavesOf_51 hl (k := 3) rfl rfl (by decide) rfl (fun ls hl => ?_)
            refine lv_goto (tgt := 4) hx hb dX8_leavesOf_54 (by decide) ?_
            exact ih4 (l2_4 + 1) (l3_4 + 1) hm _ _ hP hD hS _ (lv_sub hl [2, 3, 1, 0] rfl)
          · replace hm := it_f c31 hm
            refine lv_aload_n hx hb dX8_leavesOf_34 rfl (lv_at hl 0 rfl) ?_
            refine lv_iload_n hx hb dX8_leavesOf_35 rfl (lv_at hl 3 rfl) ?_
            refine lv_iconst (v := 2) hx hb dX8_leavesOf_36 (by decide) ?_
            obtain ⟨r37, hc37, hm⟩ := bd1_e hm
            refine k_callGVi (dC := dC) (dI := dI) (kc := kc) (As := [.int l3_4, .int 2]) (rest := [.int l2_4]) (Gs' := [wdX8 kc m_o m_now m_mind m_then m_text m_rules m_sizes m_read m_names m_letters m_begins m_words m_drifts m_above m_bodies m_trace m_sorts m_lengths m_items m_moved mnow mmind mthen mkept mtext mtexted mrules msizes mruled mread msize mat mwell mwithin msum mbear mnames mletters mbegins mwords mdrifts mabove mbodies mtrace mran msorts mlengths mitems mmoved]) hx hb hml hown hts hK hP hD hS hA (ctX8_holder (m_o := m_o) (m_now := m_now) (m_mind := m_mind) (m_then := m_then) (m_text := m_text) (m_rules := m_rules) (m_sizes := m_sizes) (m_read := m_read) (m_names := m_names) (m_letters := m_letters) (m_begins := m_begins) (m_words := m_words) (m_drifts := m_drifts) (m_above := m_above) (m_bodies := m_bodies) (m_trace := m_trace) (m_sorts := m_sorts) (m_lengths := m_lengths) (m_items := m_items) (m_moved := m_moved) (mnow := mnow) (mmind := mmind) (mthen := mthen) (mkept := mkept) (mtext := mtext) (mtexted := mtexted) (mrules := mrules) (msizes := msizes) (mruled := mruled) (mread := mread) (msize := msize) (mat := mat) (mwell := mwell) (mwithin := mwithin) (msum := msum) (mbear := mbear) (mnames := mnames) (mletters := mletters) (mbegins := mbegins) (mwords := mwords) (mdrifts := mdrifts) (mabove := mabove) (mbodies := mbodies) (mtrace := mtrace) (mran := mran) (msorts := msorts) (mlengths := mlengths) (mitems := mitems) (mmoved := mmoved) (x1 := l3_4) (x2 := 2) hc37) (cwV 2 hts gX8_leavesOf_X8_holder rfl rfl rfl (by decide +kernel) ⟨Nat.le_of_ble_eq_true rfl, Nat.le_of_ble_eq_true rfl⟩) [0] rfl (by decide) 8 rfl rfl rfl rfl hl rfl (Nat.le_of_ble_eq_true rfl) dX8_leavesOf_37 ⟨Nat.zero_le _, Nat.zero_le _⟩ rfl rfl rfl (fun H locs hP hD hS => ?_)
            refine lv_iload_n hx hb dX8_leavesOf_40 rfl (lv_at hl 1 rfl) ?_
            refine lv_icmp_ne (tgt := 48) hx hb dX8_leavesOf_41 (by decide) (fun c41 => ?_) (fun c41 => ?_)
            · replace hm := it_f c41 hm
              refine lv_iconst (v := 0) hx hb dX8_leavesOf_48 (by decide) ?_
              refine lv_iadd hx hb dX8_leavesOf_49 ?_
              refine lv_istore_n (lv' := [(2, .int (l2_4 + 0)), (0, .ref m_o), (1, .int x1), (3, .int l3_4)]) hx hb dX8_leavesOf_50 rfl hl (by decide) rfl (fun ls hl => ?_)
              refine lv_iinc (v := l3_4 + 1) (lv' := [(3, .int (l3_4 + 1)), (2, .int (l2_4 + 0)), (0, .ref m_o), (1, .int x1)]) hx hb dX8_leavesOf_51 hl (k := 3) rfl rfl (by decide) rfl (fun ls hl => ?_)
              refine lv_goto (tgt := 4) hx hb dX8_leavesOf_54 (by decide) ?_
              exact ih4 (l2_4 + 0) (l3_4 + 1) hm _ _ hP hD hS _ (lv_sub hl [2, 3, 1, 0] rfl)
            · replace hm := it_t c41 hm
              refine lv_iconst (v := 1) hx hb dX8_leavesOf_44 (by decide) ?_
              refine lv_goto (tgt := 49) hx hb dX8_leavesOf_45 (by decide) ?_
              refine lv_iadd hx hb dX8_leavesOf_49 ?_
              refine lv_istore_n (lv' := [(2, .int (l2_4 + 1)), (0, .ref m_o), (1, .int x1), (3, .int l3_4)]) hx hb dX8_leavesOf_50 rfl hl (by decide) rfl (fun ls hl => ?_)
              refine lv_iinc (v := l3_4 + 1) (lv' := [(3, .int (l3_4 + 1)), (2, .int (l2_4 + 1)), (0, .ref m_o), (1, .int x1)]) hx hb dX8_leavesOf_51 hl (k := 3) rfl rfl (by decide) rfl (fun ls hl => ?_)
              refine lv_goto (tgt := 4) hx hb dX8_leavesOf_54 (by decide) ?_
              exact ih4 (l2_4 + 1) (l3_4 + 1) hm _ _ hP hD hS _ (lv_sub hl [2, 3, 1, 0] rfl)
  exact hL4 _ _ _ hm _ _ hP hD hS _ (lv_sub hl [2, 3, 1, 0] rfl)
def LX8_clause_47 (fu : Nat) (mread : Nat → Int32) (msize : Int32) (mwithin : Int32) (msum : Int32) (mbear : Int32) (mnames : Nat → Int32) (mletters : Nat → Int32) (mwords : Nat → Int32) (l1_4 : Int32) : Nat → Int32 → Int32 → Int32 → Option (Int32 × Int32 × Int32 × Int32 × Int32)
  | 0, _, _, _ => none
  | n47 + 1, l2_47, mat_47, mwell_47 => if 5 ≤ l2_47 then (bd2 (fX8_takes mread msize mat_47 mwell_47 32) (fun mat_88 mwell_88 => bd3 (fX8_number_ mread msize mat_88 mwell_88) (fun r92 mat_92 mwell_92 => if l1_4 = 2 then (some (mat_92, mwell_92, mwithin, msum, r92)) else (bd2 (fX8_takes mread msize mat_92 mwell_92 32) (fun mat_110 mwell_110 => bd4 (fX8_any (fX8_factor fu 6) fu mread msize mat_110 mwell_110 0 mnames mletters) (fun r119 mat_119 mwell_119 mwithin_119 => if r119 = 0 then (some (mat_119, mwell_119, mwithin_119, msum + 0, mbear)) else (if l1_4 = 0 then (some (mat_119, mwell_119, mwithin_119, msum + r92, mbear)) else (some (mat_119, mwell_119, mwithin_119, msum + (-r92), mbear))))))))) else (gd (inb ((5 * l1_4) + l2_47) 15) (if (mwords (((5 * l1_4) + l2_47).toNatClampNeg)) = 0 then (bd2 (fX8_takes mread msize mat_47 mwell_47 32) (fun mat_88 mwell_88 => bd3 (fX8_number_ mread msize mat_88 mwell_88) (fun r92 mat_92 mwell_92 => if l1_4 = 2 then (some (mat_92, mwell_92, mwithin, msum, r92)) else (bd2 (fX8_takes mread msize mat_92 mwell_92 32) (fun mat_110 mwell_110 => bd4 (fX8_any (fX8_factor fu 6) fu mread msize mat_110 mwell_110 0 mnames mletters) (fun r119 mat_119 mwell_119 mwithin_119 => if r119 = 0 then (some (mat_119, mwell_119, mwithin_119, msum + 0, mbear)) else (if l1_4 = 0 then (some (mat_119, mwell_119, mwithin_119, msum + r92, mbear)) else (some (mat_119, mwell_119, mwithin_119, msum + (-r92), mbear))))))))) else (gd (inb ((5 * l1_4) + l2_47) 15) (bd2 (fX8_takes mread msize mat_47 mwell_47 (mwords (((5 * l1_4) + l2_47).toNatClampNeg))) (fun mat_76 mwell_76 => LX8_clause_47 fu mread msize mwithin msum mbear mnames mletters mwords l1_4 n47 (l2_47 + 1) mat_76 mwell_76)))))
def LX8_clause_4 (fu : Nat) (mread : Nat → Int32) (msize : Int32) (mat : Int32) (mwell : Int32) (mwithin : Int32) (msum : Int32) (mbear : Int32) (mnames : Nat → Int32) (mletters : Nat → Int32) (mbegins : Nat → Int32) (mwords : Nat → Int32) : Nat → Int32 → Int32 → Option (Int32 × Int32 × Int32 × Int32 × Int32)
  | 0, _, _ => none
  | n4 + 1, l1_4, l2_4 => if 3 ≤ l2_4 then (if l1_4 = (-1) then (some (mat, 0, mwithin, msum, mbear)) else (LX8_clause_47 fu mread msize mwithin msum mbear mnames mletters mwords l1_4 fu 0 mat mwell)) else (gd (inb l2_4 3) (bd1 (fX8_isAt mread msize mat mwell (mbegins (l2_4.toNatClampNeg))) (fun r16 => if r16 = 0 then (LX8_clause_4 fu mread msize mat mwell mwithin msum mbear mnames mletters mbegins mwords n4 l1_4 (l2_4 + 1)) else (LX8_clause_4 fu mread msize mat mwell mwithin msum mbear mnames mletters mbegins mwords n4 l2_4 (l2_4 + 1)))))
def fX8_clause (fu : Nat) (mread : Nat → Int32) (msize : Int32) (mat : Int32) (mwell : Int32) (mwithin : Int32) (msum : Int32) (mbear : Int32) (mnames : Nat → Int32) (mletters : Nat → Int32) (mbegins : Nat → Int32) (mwords : Nat → Int32) : Option (Int32 × Int32 × Int32 × Int32 × Int32) := LX8_clause_4 fu mread msize mat mwell mwithin msum mbear mnames mletters mbegins mwords fu (-1) 0
theorem hinX8_clause_X8 : ∀ w ∈ u_ws RX8 TX8 29, w ∈ wsX8_clause := fun _ h => List.mem_cons_of_mem _ (List.mem_append_right _ h)
abbrev rmX8_clause : Room := { frames := 254, cells := 0, slots := 0, locals := 6900 }
set_option maxHeartbeats 4000000 in
set_option maxRecDepth 100000 in
theorem ctX8_clause {l : Launch} {dC : Nat → ClassId} {dI : Nat → Nat → Nat} {kc : Nat → ClassId} {m_o m_now m_mind m_then m_text m_rules m_sizes m_read m_names m_letters m_begins m_words m_drifts m_above m_bodies m_trace m_sorts m_lengths m_items m_moved : Nat} {mnow : Nat → Int32} {mmind : Nat → Int32} {mthen : Nat → Int32} {mkept : Int32} {mtext : Nat → Int32} {mtexted : Int32} {mrules : Nat → Int32} {msizes : Nat → Int32} {mruled : Int32} {mread : Nat → Int32} {msize : Int32} {mat : Int32} {mwell : Int32} {mwithin : Int32} {msum : Int32} {mbear : Int32} {mnames : Nat → Int32} {mletters : Nat → Int32} {mbegins : Nat → Int32} {mwords : Nat → Int32} {mdrifts : Nat → Int32} {mabove : Nat → Int32} {mbodies : Nat → Int32} {mtrace : Nat → Int32} {mran : Int32} {msorts : Nat → Int32} {mlengths : Nat → Int32} {mitems : Nat → Int64} {mmoved : Nat → Int64} {fu : Nat} {mat' : Int32} {mwell' : Int32} {mwithin' : Int32} {msum' : Int32} {mbear' : Int32} (hm : fX8_clause fu mread msize mat mwell mwithin msum mbear mnames mletters mbegins mwords = some (mat', mwell', mwithin', msum', mbear')) : ∀ sz : Nat, Met l yX8_clause wsX8_clause rmX8_clause (kPc dC dI kc [.ref m_o] (fl [wdX8 kc m_o m_now m_mind m_then m_text m_rules m_sizes m_read m_names m_letters m_begins m_words m_drifts m_above m_bodies m_trace m_sorts m_lengths m_items m_moved mnow mmind mthen mkept mtext mtexted mrules msizes mruled mread msize mat mwell mwithin msum mbear mnames mletters mbegins mwords mdrifts mabove mbodies mtrace mran msorts mlengths mitems mmoved]) sz) (kQv dC dI (fl [wdX8 kc m_o m_now m_mind m_then m_text m_rules m_sizes m_read m_names m_letters m_begins m_words m_drifts m_above m_bodies m_trace m_sorts m_lengths m_items m_moved mnow mmind mthen mkept mtext mtexted mrules msizes mruled mread msize mat' mwell' mwithin' msum' mbear' mnames mletters mbegins mwords mdrifts mabove mbodies mtrace mran msorts mlengths mitems mmoved]) (va_A (fl [wdX8 kc m_o m_now m_mind m_then m_text m_rules m_sizes m_read m_names m_letters m_begins m_words m_drifts m_above m_bodies m_trace m_sorts m_lengths m_items m_moved mnow mmind mthen mkept mtext mtexted mrules msizes mruled mread msize mat mwell mwithin msum mbear mnames mletters mbegins mwords mdrifts mabove mbodies mtrace mran msorts mlengths mitems mmoved]) sz)) 0 0 (va_A (fl [wdX8 kc m_o m_now m_mind m_then m_text m_rules m_sizes m_read m_names m_letters m_begins m_words m_drifts m_above m_bodies m_trace m_sorts m_lengths m_items m_moved mnow mmind mthen mkept mtext mtexted mrules msizes mruled mread msize mat mwell mwithin msum mbear mnames mletters mbegins mwords mdrifts mabove mbodies mtrace mran msorts mlengths mitems mmoved]) sz) := by
  intro sz
  refine kMet (cc := cX8_clause) (maxL := 4) (ret := none) (Qf := fun A => kQv dC dI (fl [wdX8 kc m_o m_now m_mind m_then m_text m_rules m_sizes m_read m_names m_letters m_begins m_words m_drifts m_above m_bodies m_trace m_sorts m_lengths m_items m_moved mnow mmind mthen mkept mtext mtexted mrules msizes mruled mread msize mat' mwell' mwithin' msum' mbear' mnames mletters mbegins mwords mdrifts mabove mbodies mtrace mran msorts mlengths mitems mmoved]) A) (by decide) rfl (Nat.le_of_ble_eq_true rfl) ?_
  intro p e s m below meth c A ls hx hb hr hml hts hown hlocks hname hsz hA hP hK hD hl
  have hS : va_S A s.heap s.heap [] := va_S.rf
  have hl : lv_has ls 4 [(0, .ref m_o)] := hl
  unfold fX8_clause at hm
  refine lv_iconst (v := (-1)) hx hb dX8_clause_0 (by decide) ?_
  refine lv_istore_n (lv' := [(1, .int (-1)), (0, .ref m_o)]) hx hb dX8_clause_1 rfl hl (by decide) rfl (fun ls hl => ?_)
  refine lv_iconst (v := 0) hx hb dX8_clause_2 (by decide) ?_
  refine lv_istore_n (lv' := [(2, .int 0), (1, .int (-1)), (0, .ref m_o)]) hx hb dX8_clause_3 rfl hl (by decide) rfl (fun ls hl => ?_)
  have hL4 : ∀ (fn : Nat) (l1_4 : Int32) (l2_4 : Int32), LX8_clause_4 fu mread msize mat mwell mwithin msum mbear mnames mletters mbegins mwords fn l1_4 l2_4 = some (mat', mwell', mwithin', msum', mbear') → ∀ (H : Heap) (locs : List Loc), va_P (dC, dI) vwCl (fl [wdX8 kc m_o m_now m_mind m_then m_text m_rules m_sizes m_read m_names m_letters m_begins m_words m_drifts m_above m_bodies m_trace m_sorts m_lengths m_items m_moved mnow mmind mthen mkept mtext mtexted mrules msizes mruled mread msize mat mwell mwithin msum mbear mnames mletters mbegins mwords mdrifts mabove mbodies mtrace mran msorts mlengths mitems mmoved]) H → va_D A (fl [wdX8 kc m_o m_now m_mind m_then m_text m_rules m_sizes m_read m_names m_letters m_begins m_words m_drifts m_above m_bodies m_trace m_sorts m_lengths m_items m_moved mnow mmind mthen mkept mtext mtexted mrules msizes mruled mread msize mat mwell mwithin msum mbear mnames mletters mbegins mwords mdrifts mabove mbodies mtrace mran msorts mlengths mitems mmoved]) → va_S A s.heap H locs → ∀ ls : Array Slot, lv_has ls 4 [(0, .ref m_o), (1, .int l1_4), (2, .int l2_4)] → W p l e (headSpec wsX8_clause rmX8_clause).room s m [.ref m_o].toArray below meth c H locs 0 0 (MQ below (kQv dC dI (fl [wdX8 kc m_o m_now m_mind m_then m_text m_rules m_sizes m_read m_names m_letters m_begins m_words m_drifts m_above m_bodies m_trace m_sorts m_lengths m_items m_moved mnow mmind mthen mkept mtext mtexted mrules msizes mruled mread msize mat' mwell' mwithin' msum' mbear' mnames mletters mbegins mwords mdrifts mabove mbodies mtrace mran msorts mlengths mitems mmoved]) A) [.ref m_o].toArray s 0 0 A) (F0 m 4 ls []) := by
    clear hm hP hD hS hl
    intro n4
    induction n4 with
    | zero => intro l1_4 l2_4 hm; rw [LX8_clause_4] at hm; cases hm
    | succ n4 ih4 =>
      intro l1_4 l2_4 hm H locs hP hD hS ls hl
      rw [LX8_clause_4] at hm
      refine lv_iload_n hx hb dX8_clause_4 rfl (lv_at hl 2 rfl) ?_
      refine lv_iconst (v := 3) hx hb dX8_clause_5 (by decide) ?_
      refine lv_icmp_ge (tgt := 34) hx hb dX8_clause_6 (by decide) (fun c6 => ?_) (fun c6 => ?_)
      · replace hm := it_t c6 hm
        refine lv_iload_n hx hb dX8_clause_34 rfl (lv_at hl 1 rfl) ?_
        refine lv_iconst (v := (-1)) hx hb dX8_clause_35 (by decide) ?_
        refine lv_icmp_ne (tgt := 45) hx hb dX8_clause_36 (by decide) (fun c36 => ?_) (fun c36 => ?_)
        · replace hm := it_f c36 hm
          refine lv_iconst (v := 0) hx hb dX8_clause_45 (by decide) ?_
          refine lv_istore_n (lv' := [(2, .int 0), (0, .ref m_o), (1, .int l1_4)]) hx hb dX8_clause_46 rfl hl (by decide) rfl (fun ls hl => ?_)
          have hL47 : ∀ (fn : Nat) (l2_47 : Int32) (mat_47 : Int32) (mwell_47 : Int32), LX8_clause_47 fu mread msize mwithin msum mbear mnames mletters mwords l1_4 fn l2_47 mat_47 mwell_47 = some (mat', mwell', mwithin', msum', mbear') → ∀ (H : Heap) (locs : List Loc), va_P (dC, dI) vwCl (fl [wdX8 kc m_o m_now m_mind m_then m_text m_rules m_sizes m_read m_names m_letters m_begins m_words m_drifts m_above m_bodies m_trace m_sorts m_lengths m_items m_moved mnow mmind mthen mkept mtext mtexted mrules msizes mruled mread msize mat_47 mwell_47 mwithin msum mbear mnames mletters mbegins mwords mdrifts mabove mbodies mtrace mran msorts mlengths mitems mmoved]) H → va_D A (fl [wdX8 kc m_o m_now m_mind m_then m_text m_rules m_sizes m_read m_names m_letters m_begins m_words m_drifts m_above m_bodies m_trace m_sorts m_lengths m_items m_moved mnow mmind mthen mkept mtext mtexted mrules msizes mruled mread msize mat_47 mwell_47 mwithin msum mbear mnames mletters mbegins mwords mdrifts mabove mbodies mtrace mran msorts mlengths mitems mmoved]) → va_S A s.heap H locs → ∀ ls : Array Slot, lv_has ls 4 [(0, .ref m_o), (1, .int l1_4), (2, .int l2_47)] → W p l e (headSpec wsX8_clause rmX8_clause).room s m [.ref m_o].toArray below meth c H locs 0 0 (MQ below (kQv dC dI (fl [wdX8 kc m_o m_now m_mind m_then m_text m_rules m_sizes m_read m_names m_letters m_begins m_words m_drifts m_above m_bodies m_trace m_sorts m_lengths m_items m_moved mnow mmind mthen mkept mtext mtexted mrules msizes mruled mread msize mat' mwell' mwithin' msum' mbear' mnames mletters mbegins mwords mdrifts mabove mbodies mtrace mran msorts mlengths mitems mmoved]) A) [.ref m_o].toArray s 0 0 A) (F0 m 47 ls []) := by
            clear hm hP hD hS hl
            intro n47
            induction n47 with
            | zero => intro l2_47 mat_47 mwell_47 hm; rw [LX8_clause_47] at hm; cases hm
            | succ n47 ih47 =>
              intro l2_47 mat_47 mwell_47 hm H locs hP hD hS ls hl
              rw [LX8_clause_47] at hm
              refine lv_iload_n hx hb dX8_clause_47 rfl (lv_at hl 2 rfl) ?_
              refine lv_iconst (v := 5) hx hb dX8_clause_48 (by decide) ?_
              refine lv_icmp_ge (tgt := 85) hx hb dX8_clause_49 (by decide) (fun c49 => ?_) (fun c49 => ?_)
              · replace hm := it_t c49 hm
                refine lv_aload_n hx hb dX8_clause_85 rfl (lv_at hl 0 rfl) ?_
                refine lv_bipush (v := 32) hx hb dX8_clause_86 (by decide) ?_
                obtain ⟨mat_88, mwell_88, hc88, hm⟩ := bd2_e hm
                refine k_callGVv (dC := dC) (dI := dI) (kc := kc) (As := [.int 32]) (rest := []) (Gs' := [wdX8 kc m_o m_now m_mind m_then m_text m_rules m_sizes m_read m_names m_letters m_begins m_words m_drifts m_above m_bodies m_trace m_sorts m_lengths m_items m_moved mnow mmind mthen mkept mtext mtexted mrules msizes mruled mread msize mat_88 mwell_88 mwithin msum mbear mnames mletters mbegins mwords mdrifts mabove mbodies mtrace mran msorts mlengths mitems mmoved]) hx hb hml hown hts hK hP hD hS hA (ctX8_takes (m_o := m_o) (m_now := m_now) (m_mind := m_mind) (m_then := m_then) (m_text := m_text) (m_rules := m_rules) (m_sizes := m_sizes) (m_read := m_read) (m_names := m_names) (m_letters := m_letters) (m_begins := m_begins) (m_words := m_words) (m_drifts := m_drifts) (m_above := m_above) (m_bodies := m_bodies) (m_trace := m_trace) (m_sorts := m_sorts) (m_lengths := m_lengths) (m_items := m_items) (m_moved := m_moved) (mnow := mnow) (mmind := mmind) (mthen := mthen) (mkept := mkept) (mtext := mtext) (mtexted := mtexted) (mrules := mrules) (msizes := msizes) (mruled := mruled) (mread := mread) (msize := msize) (mat := mat_47) (mwell := mwell_47) (mwithin := mwithin) (msum := msum) (mbear := mbear) (mnames := mnames) (mletters := mletters) (mbegins := mbegins) (mwords := mwords) (mdrifts := mdrifts) (mabove := mabove) (mbodies := mbodies) (mtrace := mtrace) (mran := mran) (msorts := msorts) (mlengths := mlengths) (mitems := mitems) (mmoved := mmoved) (x1 := 32) hc88) (cwV 1 hts gX8_clause_X8_takes rfl rfl rfl (by decide +kernel) ⟨Nat.le_of_ble_eq_true rfl, Nat.le_of_ble_eq_true rfl⟩) [0] rfl (by decide) 8 rfl rfl rfl rfl hl rfl (Nat.le_of_ble_eq_true rfl) dX8_clause_88 ⟨Nat.zero_le _, Nat.zero_le _⟩ rfl rfl rfl (fun H locs hP hD hS => ?_)
                refine lv_aload_n hx hb dX8_clause_91 rfl (lv_at hl 0 rfl) ?_
                obtain ⟨r92, mat_92, mwell_92, hc92, hm⟩ := bd3_e hm
                refine k_callGVi (dC := dC) (dI := dI) (kc := kc) (As := []) (rest := []) (Gs' := [wdX8 kc m_o m_now m_mind m_then m_text m_rules m_sizes m_read m_names m_letters m_begins m_words m_drifts m_above m_bodies m_trace m_sorts m_lengths m_items m_moved mnow mmind mthen mkept mtext mtexted mrules msizes mruled mread msize mat_92 mwell_92 mwithin msum mbear mnames mletters mbegins mwords mdrifts mabove mbodies mtrace mran msorts mlengths mitems mmoved]) hx hb hml hown hts hK hP hD hS hA (ctX8_number_ (m_o := m_o) (m_now := m_now) (m_mind := m_mind) (m_then := m_then) (m_text := m_text) (m_rules := m_rules) (m_sizes := m_sizes) (m_read := m_read) (m_names := m_names) (m_letters := m_letters) (m_begins := m_begins) (m_words := m_words) (m_drifts := m_drifts) (m_above := m_above) (m_bodies := m_bodies) (m_trace := m_trace) (m_sorts := m_sorts) (m_lengths := m_lengths) (m_items := m_items) (m_moved := m_moved) (mnow := mnow) (mmind := mmind) (mthen := mthen) (mkept := mkept) (mtext := mtext) (mtexted := mtexted) (mrules := mrules) (msizes := msizes) (mruled := mruled) (mread := mread) (msize := msize) (mat := mat_88) (mwell := mwell_88) (mwithin := mwithin) (msum := msum) (mbear := mbear) (mnames := mnames) (mletters := mletters) (mbegins := mbegins) (mwords := mwords) (mdrifts := mdrifts) (mabove := mabove) (mbodies := mbodies) (mtrace := mtrace) (mran := mran) (msorts := msorts) (mlengths := mlengths) (mitems := mitems) (mmoved := mmoved) hc92) (cwV 0 hts gX8_clause_X8_number_ rfl rfl rfl (by decide +kernel) ⟨Nat.le_of_ble_eq_true rfl, Nat.le_of_ble_eq_true rfl⟩) [0] rfl (by decide) 8 rfl rfl rfl rfl hl rfl (Nat.le_of_ble_eq_true rfl) dX8_clause_92 ⟨Nat.zero_le _, Nat.zero_le _⟩ rfl rfl rfl (fun H locs hP hD hS => ?_)
                refine lv_istore_n (lv' := [(2, .int r92), (0, .ref m_o), (1, .int l1_4)]) hx hb dX8_clause_95 rfl hl (by decide) rfl (fun ls hl => ?_)
                refine lv_iload_n hx hb dX8_clause_96 rfl (lv_at hl 2 rfl) ?_
                refine lv_iconst (v := 2) hx hb dX8_clause_97 (by decide) ?_
                refine lv_icmp_ne (tgt := 107) hx hb dX8_clause_98 (by decide) (fun c98 => ?_) (fun c98 => ?_)
                · replace hm := it_f c98 hm
                  refine lv_aload_n hx hb dX8_clause_107 rfl (lv_at hl 1 rfl) ?_
                  refine lv_bipush (v := 32) hx hb dX8_clause_108 (by decide) ?_
                  obtain ⟨mat_110, mwell_110, hc110, hm⟩ := bd2_e hm
                  refine k_callGVv (dC := dC) (dI := dI) (kc := kc) (As := [.int 32]) (rest := []) (Gs' := [wdX8 kc m_o m_now m_mind m_then m_text m_rules m_sizes m_read m_names m_letters m_begins m_words m_drifts m_above m_bodies m_trace m_sorts m_lengths m_items m_moved mnow mmind mthen mkept mtext mtexted mrules msizes mruled mread msize mat_110 mwell_110 mwithin msum mbear mnames mletters mbegins mwords mdrifts mabove mbodies mtrace mran msorts mlengths mitems mmoved]) hx hb hml hown hts hK hP hD hS hA (ctX8_takes (m_o := m_o) (m_now := m_now) (m_mind := m_mind) (m_then := m_then) (m_text := m_text) (m_rules := m_rules) (m_sizes := m_sizes) (m_read := m_read) (m_names := m_names) (m_letters := m_letters) (m_begins := m_begins) (m_words := m_words) (m_drifts := m_drifts) (m_above := m_above) (m_bodies := m_bodies) (m_trace := m_trace) (m_sorts := m_sorts) (m_lengths := m_lengths) (m_items := m_items) (m_moved := m_moved) (mnow := mnow) (mmind := mmind) (mthen := mthen) (mkept := mkept) (mtext := mtext) (mtexted := mtexted) (mrules := mrules) (msizes := msizes) (mruled := mruled) (mread := mread) (msize := msize) (mat := mat_92) (mwell := mwell_92) (mwithin := mwithin) (msum := msum) (mbear := mbear) (mnames := mnames) (mletters := mletters) (mbegins := mbegins) (mwords := mwords) (mdrifts := mdrifts) (mabove := mabove) (mbodies := mbodies) (mtrace := mtrace) (mran := mran) (msorts := msorts) (mlengths := mlengths) (mitems := mitems) (mmoved := mmoved) (x1 := 32) hc110) (cwV 1 hts gX8_clause_X8_takes rfl rfl rfl (by decide +kernel) ⟨Nat.le_of_ble_eq_true rfl, Nat.le_of_ble_eq_true rfl⟩) [0] rfl (by decide) 8 rfl rfl rfl rfl hl rfl (Nat.le_of_ble_eq_true rfl) dX8_clause_110 ⟨Nat.zero_le _, Nat.zero_le _⟩ rfl rfl rfl (fun H locs hP hD hS => ?_)
                  refine lv_aload_n hx hb dX8_clause_113 rfl (lv_at hl 1 rfl) ?_
                  refine lv_iconst (v := 0) hx hb dX8_clause_114 (by decide) ?_
                  refine va_put (D := (dC, dI)) (ci := 8) (v := .int 0) (ty := .int) (C := RX8) (T := TX8) (N := 29) hx hb hts hinX8_clause_X8 tyX8 tyX8_ok nmX8 hown hK hP hD hS 0 rfl rfl 13 (by decide) (hts _ (List.mem_of_getElem? (i := 5) rfl)) (fun _ h9 => h9) rfl (by decide +kernel) rfl rfl (Nat.le_of_ble_eq_true rfl) dX8_clause_115 (fun H locs hP hD hS => ?_)
                  have hP : va_P (dC, dI) vwCl (fl [wdX8 kc m_o m_now m_mind m_then m_text m_rules m_sizes m_read m_names m_letters m_begins m_words m_drifts m_above m_bodies m_trace m_sorts m_lengths m_items m_moved mnow mmind mthen mkept mtext mtexted mrules msizes mruled mread msize mat_110 mwell_110 0 msum mbear mnames mletters mbegins mwords mdrifts mabove mbodies mtrace mran msorts mlengths mitems mmoved]) H := hP
                  have hD : va_D A (fl [wdX8 kc m_o m_now m_mind m_then m_text m_rules m_sizes m_read m_names m_letters m_begins m_words m_drifts m_above m_bodies m_trace m_sorts m_lengths m_items m_moved mnow mmind mthen mkept mtext mtexted mrules msizes mruled mread msize mat_110 mwell_110 0 msum mbear mnames mletters mbegins mwords mdrifts mabove mbodies mtrace mran msorts mlengths mitems mmoved]) := hD
                  refine lv_aload_n hx hb dX8_clause_118 rfl (lv_at hl 1 rfl) ?_
                  obtain ⟨r119, mat_119, mwell_119, mwithin_119, hc119, hm⟩ := bd4_e hm
                  refine k_callGVi (dC := dC) (dI := dI) (kc := kc) (As := []) (rest := []) (Gs' := [wdX8 kc m_o m_now m_mind m_then m_text m_rules m_sizes m_read m_names m_letters m_begins m_words m_drifts m_above m_bodies m_trace m_sorts m_lengths m_items m_moved mnow mmind mthen mkept mtext mtexted mrules msizes mruled mread msize mat_119 mwell_119 mwithin_119 msum mbear mnames mletters mbegins mwords mdrifts mabove mbodies mtrace mran msorts mlengths mitems mmoved]) hx hb hml hown hts hK hP hD hS hA (ctX8_any (F := fX8_factor fu 6) (n := 6) (fu := fu) (m_o := m_o) (m_now := m_now) (m_mind := m_mind) (m_then := m_then) (m_text := m_text) (m_rules := m_rules) (m_sizes := m_sizes) (m_read := m_read) (m_names := m_names) (m_letters := m_letters) (m_begins := m_begins) (m_words := m_words) (m_drifts := m_drifts) (m_above := m_above) (m_bodies := m_bodies) (m_trace := m_trace) (m_sorts := m_sorts) (m_lengths := m_lengths) (m_items := m_items) (m_moved := m_moved) (mnow := mnow) (mmind := mmind) (mthen := mthen) (mkept := mkept) (mtext := mtext) (mtexted := mtexted) (mrules := mrules) (msizes := msizes) (mruled := mruled) (mread := mread) (msize := msize) (mat := mat_110) (mwell := mwell_110) (mwithin := 0) (msum := msum) (mbear := mbear) (mnames := mnames) (mletters := mletters) (mbegins := mbegins) (mwords := mwords) (mdrifts := mdrifts) (mabove := mabove) (mbodies := mbodies) (mtrace := mtrace) (mran := mran) (msorts := msorts) (mlengths := mlengths) (mitems := mitems) (mmoved := mmoved) hFX8_factor hc119) (cwV 0 hts gX8_clause_X8_any rfl rfl rfl (by decide +kernel) ⟨Nat.le_of_ble_eq_true rfl, Nat.le_of_ble_eq_true rfl⟩) [0] rfl (by decide) 8 rfl rfl rfl rfl hl rfl (Nat.le_of_ble_eq_true rfl) dX8_clause_119 ⟨Nat.zero_le _, Nat.zero_le _⟩ rfl rfl rfl (fun H locs hP hD hS => ?_)
                  refine lv_istore_n (lv' := [(3, .int r119), (2, .int r92), (0, .ref m_o), (1, .int l1_4)]) hx hb dX8_clause_122 rfl hl (by decide) rfl (fun ls hl => ?_)
                  refine lv_aload_n hx hb dX8_clause_123 rfl (lv_at hl 2 rfl) ?_
                  refine lv_dup hx hb dX8_clause_124 rfl ?_
                  refine va_get (D := (dC, dI)) (ci := 8) (v := .int msum) (C := RX8) (T := TX8) (N := 29) hx hb hts hinX8_clause_X8 hown hK hP 0 rfl rfl 14 (by decide) (hts _ (List.mem_of_getElem? (i := 6) rfl)) (fun _ h9 => h9) rfl dX8_clause_125 ?_
                  refine lv_iload_n hx hb dX8_clause_128 rfl (lv_at hl 0 rfl) ?_
                  refine lv_if_ne (tgt := 136) hx hb dX8_clause_129 (by decide) (fun c129 => ?_) (fun c129 => ?_)
                  · replace hm := it_f c129 hm
                    refine lv_iload_n hx hb dX8_clause_136 rfl (lv_at hl 3 rfl) ?_
                    refine lv_if_ne (tgt := 144) hx hb dX8_clause_137 (by decide) (fun c137 => ?_) (fun c137 => ?_)
                    · replace hm := it_f c137 hm
                      refine lv_iload_n hx hb dX8_clause_144 rfl (lv_at hl 1 rfl) ?_
                      refine lv_ineg hx hb dX8_clause_145 ?_
                      refine lv_iadd hx hb dX8_clause_146 ?_
                      refine va_put (D := (dC, dI)) (ci := 8) (v := .int (msum + (-r92))) (ty := .int) (C := RX8) (T := TX8) (N := 29) hx hb hts hinX8_clause_X8 tyX8 tyX8_ok nmX8 hown hK hP hD hS 0 rfl rfl 14 (by decide) (hts _ (List.mem_of_getElem? (i := 6) rfl)) (fun _ h9 => h9) rfl (by decide +kernel) rfl rfl (Nat.le_of_ble_eq_true rfl) dX8_clause_147 (fun H locs hP hD hS => ?_)
                      have hP : va_P (dC, dI) vwCl (fl [wdX8 kc m_o m_now m_mind m_then m_text m_rules m_sizes m_read m_names m_letters m_begins m_words m_drifts m_above m_bodies m_trace m_sorts m_lengths m_items m_moved mnow mmind mthen mkept mtext mtexted mrules msizes mruled mread msize mat_119 mwell_119 mwithin_119 (msum + (-r92)) mbear mnames mletters mbegins mwords mdrifts mabove mbodies mtrace mran msorts mlengths mitems mmoved]) H := hP
                      have hD : va_D A (fl [wdX8 kc m_o m_now m_mind m_then m_text m_rules m_sizes m_read m_names m_letters m_begins m_words m_drifts m_above m_bodies m_trace m_sorts m_lengths m_items m_moved mnow mmind mthen mkept mtext mtexted mrules msizes mruled mread msize mat_119 mwell_119 mwithin_119 (msum + (-r92)) mbear mnames mletters mbegins mwords mdrifts mabove mbodies mtrace mran msorts mlengths mitems mmoved]) := hD
                      cases hm
                      exact k_vret hx hb hr hlocks hP hS dX8_clause_150
                    · replace hm := it_t c137 hm
                      refine lv_iload_n hx hb dX8_clause_140 rfl (lv_at hl 1 rfl) ?_
                      refine lv_goto (tgt := 146) hx hb dX8_clause_141 (by decide) ?_
                      refine lv_iadd hx hb dX8_clause_146 ?_
                      refine va_put (D := (dC, dI)) (ci := 8) (v := .int (msum + r92)) (ty := .int) (C := RX8) (T := TX8) (N := 29) hx hb hts hinX8_clause_X8 tyX8 tyX8_ok nmX8 hown hK hP hD hS 0 rfl rfl 14 (by decide) (hts _ (List.mem_of_getElem? (i := 6) rfl)) (fun _ h9 => h9) rfl (by decide +kernel) rfl rfl (Nat.le_of_ble_eq_true rfl) dX8_clause_147 (fun H locs hP hD hS => ?_)
                      have hP : va_P (dC, dI) vwCl (fl [wdX8 kc m_o m_now m_mind m_then m_text m_rules m_sizes m_read m_names m_letters m_begins m_words m_drifts m_above m_bodies m_trace m_sorts m_lengths m_items m_moved mnow mmind mthen mkept mtext mtexted mrules msizes mruled mread msize mat_119 mwell_119 mwithin_119 (msum + r92) mbear mnames mletters mbegins mwords mdrifts mabove mbodies mtrace mran msorts mlengths mitems mmoved]) H := hP
                      have hD : va_D A (fl [wdX8 kc m_o m_now m_mind m_then m_text m_rules m_sizes m_read m_names m_letters m_begins m_words m_drifts m_above m_bodies m_trace m_sorts m_lengths m_items m_moved mnow mmind mthen mkept mtext mtexted mrules msizes mruled mread msize mat_119 mwell_119 mwithin_119 (msum + r92) mbear mnames mletters mbegins mwords mdrifts mabove mbodies mtrace mran msorts mlengths mitems mmoved]) := hD
                      cases hm
                      exact k_vret hx hb hr hlocks hP hS dX8_clause_150
                  · replace hm := it_t c129 hm
                    refine lv_iconst (v := 0) hx hb dX8_clause_132 (by decide) ?_
                    refine lv_goto (tgt := 146) hx hb dX8_clause_133 (by decide) ?_
                    refine lv_iadd hx hb dX8_clause_146 ?_
                    refine va_put (D := (dC, dI)) (ci := 8) (v := .int (msum + 0)) (ty := .int) (C := RX8) (T := TX8) (N := 29) hx hb hts hinX8_clause_X8 tyX8 tyX8_ok nmX8 hown hK hP hD hS 0 rfl rfl 14 (by decide) (hts _ (List.mem_of_getElem? (i := 6) rfl)) (fun _ h9 => h9) rfl (by decide +kernel) rfl rfl (Nat.le_of_ble_eq_true rfl) dX8_clause_147 (fun H locs hP hD hS => ?_)
                    have hP : va_P (dC, dI) vwCl (fl [wdX8 kc m_o m_now m_mind m_then m_text m_rules m_sizes m_read m_names m_letters m_begins m_words m_drifts m_above m_bodies m_trace m_sorts m_lengths m_items m_moved mnow mmind mthen mkept mtext mtexted mrules msizes mruled mread msize mat_119 mwell_119 mwithin_119 (msum + 0) mbear mnames mletters mbegins mwords mdrifts mabove mbodies mtrace mran msorts mlengths mitems mmoved]) H := hP
                    have hD : va_D A (fl [wdX8 kc m_o m_now m_mind m_then m_text m_rules m_sizes m_read m_names m_letters m_begins m_words m_drifts m_above m_bodies m_trace m_sorts m_lengths m_items m_moved mnow mmind mthen mkept mtext mtexted mrules msizes mruled mread msize mat_119 mwell_119 mwithin_119 (msum + 0) mbear mnames mletters mbegins mwords mdrifts mabove mbodies mtrace mran msorts mlengths mitems mmoved]) := hD
                    cases hm
                    exact k_vret hx hb hr hlocks hP hS dX8_clause_150
                · replace hm := it_t c98 hm
                  refine lv_aload_n hx hb dX8_clause_101 rfl (lv_at hl 1 rfl) ?_
                  refine lv_iload_n hx hb dX8_clause_102 rfl (lv_at hl 0 rfl) ?_
                  refine va_put (D := (dC, dI)) (ci := 8) (v := .int r92) (ty := .int) (C := RX8) (T := TX8) (N := 29) hx hb hts hinX8_clause_X8 tyX8 tyX8_ok nmX8 hown hK hP hD hS 0 rfl rfl 15 (by decide) (hts _ (List.mem_of_getElem? (i := 4) rfl)) (fun _ h9 => h9) rfl (by decide +kernel) rfl rfl (Nat.le_of_ble_eq_true rfl) dX8_clause_103 (fun H locs hP hD hS => ?_)
                  have hP : va_P (dC, dI) vwCl (fl [wdX8 kc m_o m_now m_mind m_then m_text m_rules m_sizes m_read m_names m_letters m_begins m_words m_drifts m_above m_bodies m_trace m_sorts m_lengths m_items m_moved mnow mmind mthen mkept mtext mtexted mrules msizes mruled mread msize mat_92 mwell_92 mwithin msum r92 mnames mletters mbegins mwords mdrifts mabove mbodies mtrace mran msorts mlengths mitems mmoved]) H := hP
                  have hD : va_D A (fl [wdX8 kc m_o m_now m_mind m_then m_text m_rules m_sizes m_read m_names m_letters m_begins m_words m_drifts m_above m_bodies m_trace m_sorts m_lengths m_items m_moved mnow mmind mthen mkept mtext mtexted mrules msizes mruled mread msize mat_92 mwell_92 mwithin msum r92 mnames mletters mbegins mwords mdrifts mabove mbodies mtrace mran msorts mlengths mitems mmoved]) := hD
                  cases hm
                  exact k_vret hx hb hr hlocks hP hS dX8_clause_106
              · replace hm := it_f c49 hm
                refine lv_aload_n hx hb dX8_clause_52 rfl (lv_at hl 0 rfl) ?_
                refine va_get (D := (dC, dI)) (ci := 8) (v := .ref m_words) (C := RX8) (T := TX8) (N := 29) hx hb hts hinX8_clause_X8 hown hK hP 0 rfl rfl 19 (by decide) (hts _ (List.mem_of_getElem? (i := 3) rfl)) (fun _ h9 => h9) rfl dX8_clause_53 ?_
                refine lv_iconst (v := 5) hx hb dX8_clause_56 (by decide) ?_
                refine lv_iload_n hx hb dX8_clause_57 rfl (lv_at hl 1 rfl) ?_
                refine lv_imul hx hb dX8_clause_58 ?_
                refine lv_iload_n hx hb dX8_clause_59 rfl (lv_at hl 2 rfl) ?_
                refine lv_iadd hx hb dX8_clause_60 ?_
                obtain ⟨hg61, hm⟩ := gd_e hm
                refine k_cald (D := (dC, dI)) hx hb hK hP 11 0 rfl rfl (k := ((5 * l1_4) + l2_47).toNatClampNeg) rfl hg61 dX8_clause_61 ?_
                refine lv_if_eq (tgt := 85) hx hb dX8_clause_62 (by decide) (fun c62 => ?_) (fun c62 => ?_)
                · replace hm := it_t c62 hm
                  refine lv_aload_n hx hb dX8_clause_85 rfl (lv_at hl 0 rfl) ?_
                  refine lv_bipush (v := 32) hx hb dX8_clause_86 (by decide) ?_
                  obtain ⟨mat_88, mwell_88, hc88, hm⟩ := bd2_e hm
                  refine k_callGVv (dC := dC) (dI := dI) (kc := kc) (As := [.int 32]) (rest := []) (Gs' := [wdX8 kc m_o m_now m_mind m_then m_text m_rules m_sizes m_read m_names m_letters m_begins m_words m_drifts m_above m_bodies m_trace m_sorts m_lengths m_items m_moved mnow mmind mthen mkept mtext mtexted mrules msizes mruled mread msize mat_88 mwell_88 mwithin msum mbear mnames mletters mbegins mwords mdrifts mabove mbodies mtrace mran msorts mlengths mitems mmoved]) hx hb hml hown hts hK hP hD hS hA (ctX8_takes (m_o := m_o) (m_now := m_now) (m_mind := m_mind) (m_then := m_then) (m_text := m_text) (m_rules := m_rules) (m_sizes := m_sizes) (m_read := m_read) (m_names := m_names) (m_letters := m_letters) (m_begins := m_begins) (m_words := m_words) (m_drifts := m_drifts) (m_above := m_above) (m_bodies := m_bodies) (m_trace := m_trace) (m_sorts := m_sorts) (m_lengths := m_lengths) (m_items := m_items) (m_moved := m_moved) (mnow := mnow) (mmind := mmind) (mthen := mthen) (mkept := mkept) (mtext := mtext) (mtexted := mtexted) (mrules := mrules) (msizes := msizes) (mruled := mruled) (mread := mread) (msize := msize) (mat := mat_47) (mwell := mwell_47) (mwithin := mwithin) (msum := msum) (mbear := mbear) (mnames := mnames) (mletters := mletters) (mbegins := mbegins) (mwords := mwords) (mdrifts := mdrifts) (mabove := mabove) (mbodies := mbodies) (mtrace := mtrace) (mran := mran) (msorts := msorts) (mlengths := mlengths) (mitems := mitems) (mmoved := mmoved) (x1 := 32) hc88) (cwV 1 hts gX8_clause_X8_takes rfl rfl rfl (by decide +kernel) ⟨Nat.le_of_ble_eq_true rfl, Nat.le_of_ble_eq_true rfl⟩) [0] rfl (by decide) 8 rfl rfl rfl rfl hl rfl (Nat.le_of_ble_eq_true rfl) dX8_clause_88 ⟨Nat.zero_le _, Nat.zero_le _⟩ rfl rfl rfl (fun H locs hP hD hS => ?_)
                  refine lv_aload_n hx hb dX8_clause_91 rfl (lv_at hl 0 rfl) ?_
                  obtain ⟨r92, mat_92, mwell_92, hc92, hm⟩ := bd3_e hm
                  refine k_callGVi (dC := dC) (dI := dI) (kc := kc) (As := []) (rest := []) (Gs' := [wdX8 kc m_o m_now m_mind m_then m_text m_rules m_sizes m_read m_names m_letters m_begins m_words m_drifts m_above m_bodies m_trace m_sorts m_lengths m_items m_moved mnow mmind mthen mkept mtext mtexted mrules msizes mruled mread msize mat_92 mwell_92 mwithin msum mbear mnames mletters mbegins mwords mdrifts mabove mbodies mtrace mran msorts mlengths mitems mmoved]) hx hb hml hown hts hK hP hD hS hA (ctX8_number_ (m_o := m_o) (m_now := m_now) (m_mind := m_mind) (m_then := m_then) (m_text := m_text) (m_rules := m_rules) (m_sizes := m_sizes) (m_read := m_read) (m_names := m_names) (m_letters := m_letters) (m_begins := m_begins) (m_words := m_words) (m_drifts := m_drifts) (m_above := m_above) (m_bodies := m_bodies) (m_trace := m_trace) (m_sorts := m_sorts) (m_lengths := m_lengths) (m_items := m_items) (m_moved := m_moved) (mnow := mnow) (mmind := mmind) (mthen := mthen) (mkept := mkept) (mtext := mtext) (mtexted := mtexted) (mrules := mrules) (msizes := msizes) (mruled := mruled) (mread := mread) (msize := msize) (mat := mat_88) (mwell := mwell_88) (mwithin := mwithin) (msum := msum) (mbear := mbear) (mnames := mnames) (mletters := mletters) (mbegins := mbegins) (mwords := mwords) (mdrifts := mdrifts) (mabove := mabove) (mbodies := mbodies) (mtrace := mtrace) (mran := mran) (msorts := msorts) (mlengths := mlengths) (mitems := mitems) (mmoved := mmoved) hc92) (cwV 0 hts gX8_clause_X8_number_ rfl rfl rfl (by decide +kernel) ⟨Nat.le_of_ble_eq_true rfl, Nat.le_of_ble_eq_true rfl⟩) [0] rfl (by decide) 8 rfl rfl rfl rfl hl rfl (Nat.le_of_ble_eq_true rfl) dX8_clause_92 ⟨Nat.zero_le _, Nat.zero_le _⟩ rfl rfl rfl (fun H locs hP hD hS => ?_)
                  refine lv_istore_n (lv' := [(2, .int r92), (0, .ref m_o), (1, .int l1_4)]) hx hb dX8_clause_95 rfl hl (by decide) rfl (fun ls hl => ?_)
                  refine lv_iload_n hx hb dX8_clause_96 rfl (lv_at hl 2 rfl) ?_
                  refine lv_iconst (v := 2) hx hb dX8_clause_97 (by decide) ?_
                  refine lv_icmp_ne (tgt := 107) hx hb dX8_clause_98 (by decide) (fun c98 => ?_) (fun c98 => ?_)
                  · replace hm := it_f c98 hm
                    refine lv_aload_n hx hb dX8_clause_107 rfl (lv_at hl 1 rfl) ?_
                    refine lv_bipush (v := 32) hx hb dX8_clause_108 (by decide) ?_
                    obtain ⟨mat_110, mwell_110, hc110, hm⟩ := bd2_e hm
                    refine k_callGVv (dC := dC) (dI := dI) (kc := kc) (As := [.int 32]) (rest := []) (Gs' := [wdX8 kc m_o m_now m_mind m_then m_text m_rules m_sizes m_read m_names m_letters m_begins m_words m_drifts m_above m_bodies m_trace m_sorts m_lengths m_items m_moved mnow mmind mthen mkept mtext mtexted mrules msizes mruled mread msize mat_110 mwell_110 mwithin msum mbear mnames mletters mbegins mwords mdrifts mabove mbodies mtrace mran msorts mlengths mitems mmoved]) hx hb hml hown hts hK hP hD hS hA (ctX8_takes (m_o := m_o) (m_now := m_now) (m_mind := m_mind) (m_then := m_then) (m_text := m_text) (m_rules := m_rules) (m_sizes := m_sizes) (m_read := m_read) (m_names := m_names) (m_letters := m_letters) (m_begins := m_begins) (m_words := m_words) (m_drifts := m_drifts) (m_above := m_above) (m_bodies := m_bodies) (m_trace := m_trace) (m_sorts := m_sorts) (m_lengths := m_lengths) (m_items := m_items) (m_moved := m_moved) (mnow := mnow) (mmind := mmind) (mthen := mthen) (mkept := mkept) (mtext := mtext) (mtexted := mtexted) (mrules := mrules) (msizes := msizes) (mruled := mruled) (mread := mread) (msize := msize) (mat := mat_92) (mwell := mwell_92) (mwithin := mwithin) (msum := msum) (mbear := mbear) (mnames := mnames) (mletters := mletters) (mbegins := mbegins) (mwords := mwords) (mdrifts := mdrifts) (mabove := mabove) (mbodies := mbodies) (mtrace := mtrace) (mran := mran) (msorts := msorts) (mlengths := mlengths) (mitems := mitems) (mmoved := mmoved) (x1 := 32) hc110) (cwV 1 hts gX8_clause_X8_takes rfl rfl rfl (by decide +kernel) ⟨Nat.le_of_ble_eq_true rfl, Nat.le_of_ble_eq_true rfl⟩) [0] rfl (by decide) 8 rfl rfl rfl rfl hl rfl (Nat.le_of_ble_eq_true rfl) dX8_clause_110 ⟨Nat.zero_le _, Nat.zero_le _⟩ rfl rfl rfl (fun H locs hP hD hS => ?_)
                    refine lv_aload_n hx hb dX8_clause_113 rfl (lv_at hl 1 rfl) ?_
                    refine lv_iconst (v := 0) hx hb dX8_clause_114 (by decide) ?_
                    refine va_put (D := (dC, dI)) (ci := 8) (v := .int 0) (ty := .int) (C := RX8) (T := TX8) (N := 29) hx hb hts hinX8_clause_X8 tyX8 tyX8_ok nmX8 hown hK hP hD hS 0 rfl rfl 13 (by decide) (hts _ (List.mem_of_getElem? (i := 5) rfl)) (fun _ h9 => h9) rfl (by decide +kernel) rfl rfl (Nat.le_of_ble_eq_true rfl) dX8_clause_115 (fun H locs hP hD hS => ?_)
                    have hP : va_P (dC, dI) vwCl (fl [wdX8 kc m_o m_now m_mind m_then m_text m_rules m_sizes m_read m_names m_letters m_begins m_words m_drifts m_above m_bodies m_trace m_sorts m_lengths m_items m_moved mnow mmind mthen mkept mtext mtexted mrules msizes mruled mread msize mat_110 mwell_110 0 msum mbear mnames mletters mbegins mwords mdrifts mabove mbodies mtrace mran msorts mlengths mitems mmoved]) H := hP
                    have hD : va_D A (fl [wdX8 kc m_o m_now m_mind m_then m_text m_rules m_sizes m_read m_names m_letters m_begins m_words m_drifts m_above m_bodies m_trace m_sorts m_lengths m_items m_moved mnow mmind mthen mkept mtext mtexted mrules msizes mruled mread msize mat_110 mwell_110 0 msum mbear mnames mletters mbegins mwords mdrifts mabove mbodies mtrace mran msorts mlengths mitems mmoved]) := hD
                    refine lv_aload_n hx hb dX8_clause_118 rfl (lv_at hl 1 rfl) ?_
                    obtain ⟨r119, mat_119, mwell_119, mwithin_119, hc119, hm⟩ := bd4_e hm
                    refine k_callGVi (dC := dC) (dI := dI) (kc := kc) (As := []) (rest := []) (Gs' := [wdX8 kc m_o m_now m_mind m_then m_text m_rules m_sizes m_read m_names m_letters m_begins m_words m_drifts m_above m_bodies m_trace m_sorts m_lengths m_items m_moved mnow mmind mthen mkept mtext mtexted mrules msizes mruled mread msize mat_119 mwell_119 mwithin_119 msum mbear mnames mletters mbegins mwords mdrifts mabove mbodies mtrace mran msorts mlengths mitems mmoved]) hx hb hml hown hts hK hP hD hS hA (ctX8_any (F := fX8_factor fu 6) (n := 6) (fu := fu) (m_o := m_o) (m_now := m_now) (m_mind := m_mind) (m_then := m_then) (m_text := m_text) (m_rules := m_rules) (m_sizes := m_sizes) (m_read := m_read) (m_names := m_names) (m_letters := m_letters) (m_begins := m_begins) (m_words := m_words) (m_drifts := m_drifts) (m_above := m_above) (m_bodies := m_bodies) (m_trace := m_trace) (m_sorts := m_sorts) (m_lengths := m_lengths) (m_items := m_items) (m_moved := m_moved) (mnow := mnow) (mmind := mmind) (mthen := mthen) (mkept := mkept) (mtext := mtext) (mtexted := mtexted) (mrules := mrules) (msizes := msizes) (mruled := mruled) (mread := mread) (msize := msize) (mat := mat_110) (mwell := mwell_110) (mwithin := 0) (msum := msum) (mbear := mbear) (mnames := mnames) (mletters := mletters) (mbegins := mbegins) (mwords := mwords) (mdrifts := mdrifts) (mabove := mabove) (mbodies := mbodies) (mtrace := mtrace) (mran := mran) (msorts := msorts) (mlengths := mlengths) (mitems := mitems) (mmoved := mmoved) hFX8_factor hc119) (cwV 0 hts gX8_clause_X8_any rfl rfl rfl (by decide +kernel) ⟨Nat.le_of_ble_eq_true rfl, Nat.le_of_ble_eq_true rfl⟩) [0] rfl (by decide) 8 rfl rfl rfl rfl hl rfl (Nat.le_of_ble_eq_true rfl) dX8_clause_119 ⟨Nat.zero_le _, Nat.zero_le _⟩ rfl rfl rfl (fun H locs hP hD hS => ?_)
                    refine lv_istore_n (lv' := [(3, .int r119), (2, .int r92), (0, .ref m_o), (1, .int l1_4)]) hx hb dX8_clause_122 rfl hl (by decide) rfl (fun ls hl => ?_)
                    refine lv_aload_n hx hb dX8_clause_123 rfl (lv_at hl 2 rfl) ?_
                    refine lv_dup hx hb dX8_clause_124 rfl ?_
                    refine va_get (D := (dC, dI)) (ci := 8) (v := .int msum) (C := RX8) (T := TX8) (N := 29) hx hb hts hinX8_clause_X8 hown hK hP 0 rfl rfl 14 (by decide) (hts _ (List.mem_of_getElem? (i := 6) rfl)) (fun _ h9 => h9) rfl dX8_clause_125 ?_
                    refine lv_iload_n hx hb dX8_clause_128 rfl (lv_at hl 0 rfl) ?_
                    refine lv_if_ne (tgt := 136) hx hb dX8_clause_129 (by decide) (fun c129 => ?_) (fun c129 => ?_)
                    · replace hm := it_f c129 hm
                      refine lv_iload_n hx hb dX8_clause_136 rfl (lv_at hl 3 rfl) ?_
                      refine lv_if_ne (tgt := 144) hx hb dX8_clause_137 (by decide) (fun c137 => ?_) (fun c137 => ?_)
                      · replace hm := it_f c137 hm
                        refine lv_iload_n hx hb dX8_clause_144 rfl (lv_at hl 1 rfl) ?_
                        refine lv_ineg hx hb dX8_clause_145 ?_
                        refine lv_iadd hx hb dX8_clause_146 ?_
                        refine va_put (D := (dC, dI)) (ci := 8) (v := .int (msum + (-r92))) (ty := .int) (C := RX8) (T := TX8) (N := 29) hx hb hts hinX8_clause_X8 tyX8 tyX8_ok nmX8 hown hK hP hD hS 0 rfl rfl 14 (by decide) (hts _ (List.mem_of_getElem? (i := 6) rfl)) (fun _ h9 => h9) rfl (by decide +kernel) rfl rfl (Nat.le_of_ble_eq_true rfl) dX8_clause_147 (fun H locs hP hD hS => ?_)
                        have hP : va_P (dC, dI) vwCl (fl [wdX8 kc m_o m_now m_mind m_then m_text m_rules m_sizes m_read m_names m_letters m_begins m_words m_drifts m_above m_bodies m_trace m_sorts m_lengths m_items m_moved mnow mmind mthen mkept mtext mtexted mrules msizes mruled mread msize mat_119 mwell_119 mwithin_119 (msum + (-r92)) mbear mnames mletters mbegins mwords mdrifts mabove mbodies mtrace mran msorts mlengths mitems mmoved]) H := hP
                        have hD : va_D A (fl [wdX8 kc m_o m_now m_mind m_then m_text m_rules m_sizes m_read m_names m_letters m_begins m_words m_drifts m_above m_bodies m_trace m_sorts m_lengths m_items m_moved mnow mmind mthen mkept mtext mtexted mrules msizes mruled mread msize mat_119 mwell_119 mwithin_119 (msum + (-r92)) mbear mnames mletters mbegins mwords mdrifts mabove mbodies mtrace mran msorts mlengths mitems mmoved]) := hD
                        cases hm
                        exact k_vret hx hb hr hlocks hP hS dX8_clause_150
                      · replace hm := it_t c137 hm
                        refine lv_iload_n hx hb dX8_clause_140 rfl (lv_at hl 1 rfl) ?_
                        refine lv_goto (tgt := 146) hx hb dX8_clause_141 (by decide) ?_
                        refine lv_iadd hx hb dX8_clause_146 ?_
                        refine va_put (D := (dC, dI)) (ci := 8) (v := .int (msum + r92)) (ty := .int) (C := RX8) (T := TX8) (N := 29) hx hb hts hinX8_clause_X8 tyX8 tyX8_ok nmX8 hown hK hP hD hS 0 rfl rfl 14 (by decide) (hts _ (List.mem_of_getElem? (i := 6) rfl)) (fun _ h9 => h9) rfl (by decide +kernel) rfl rfl (Nat.le_of_ble_eq_true rfl) dX8_clause_147 (fun H locs hP hD hS => ?_)
                        have hP : va_P (dC, dI) vwCl (fl [wdX8 kc m_o m_now m_mind m_then m_text m_rules m_sizes m_read m_names m_letters m_begins m_words m_drifts m_above m_bodies m_trace m_sorts m_lengths m_items m_moved mnow mmind mthen mkept mtext mtexted mrules msizes mruled mread msize mat_119 mwell_119 mwithin_119 (msum + r92) mbear mnames mletters mbegins mwords mdrifts mabove mbodies mtrace mran msorts mlengths mitems mmoved]) H := hP
                        have hD : va_D A (fl [wdX8 kc m_o m_now m_mind m_then m_text m_rules m_sizes m_read m_names m_letters m_begins m_words m_drifts m_above m_bodies m_trace m_sorts m_lengths m_items m_moved mnow mmind mthen mkept mtext mtexted mrules msizes mruled mread msize mat_119 mwell_119 mwithin_119 (msum + r92) mbear mnames mletters mbegins mwords mdrifts mabove mbodies mtrace mran msorts mlengths mitems mmoved]) := hD
                        cases hm
                        exact k_vret hx hb hr hlocks hP hS dX8_clause_150
                    · replace hm := it_t c129 hm
                      refine lv_iconst (v := 0) hx hb dX8_clause_132 (by decide) ?_
                      refine lv_goto (tgt := 146) hx hb dX8_clause_133 (by decide) ?_
                      refine lv_iadd hx hb dX8_clause_146 ?_
                      refine va_put (D := (dC, dI)) (ci := 8) (v := .int (msum + 0)) (ty := .int) (C := RX8) (T := TX8) (N := 29) hx hb hts hinX8_clause_X8 tyX8 tyX8_ok nmX8 hown hK hP hD hS 0 rfl rfl 14 (by decide) (hts _ (List.mem_of_getElem? (i := 6) rfl)) (fun _ h9 => h9) rfl (by decide +kernel) rfl rfl (Nat.le_of_ble_eq_true rfl) dX8_clause_147 (fun H locs hP hD hS => ?_)
                      have hP : va_P (dC, dI) vwCl (fl [wdX8 kc m_o m_now m_mind m_then m_text m_rules m_sizes m_read m_names m_letters m_begins m_words m_drifts m_above m_bodies m_trace m_sorts m_lengths m_items m_moved mnow mmind mthen mkept mtext mtexted mrules msizes mruled mread msize mat_119 mwell_119 mwithin_119 (msum + 0) mbear mnames mletters mbegins mwords mdrifts mabove mbodies mtrace mran msorts mlengths mitems mmoved]) H := hP
                      have hD : va_D A (fl [wdX8 kc m_o m_now m_mind m_then m_text m_rules m_sizes m_read m_names m_letters m_begins m_words m_drifts m_above m_bodies m_trace m_sorts m_lengths m_items m_moved mnow mmind mthen mkept mtext mtexted mrules msizes mruled mread msize mat_119 mwell_119 mwithin_119 (msum + 0) mbear mnames mletters mbegins mwords mdrifts mabove mbodies mtrace mran msorts mlengths mitems mmoved]) := hD
                      cases hm
                      exact k_vret hx hb hr hlocks hP hS dX8_clause_150
                  · replace hm := it_t c98 hm
                    refine lv_aload_n hx hb dX8_clause_101 rfl (lv_at hl 1 rfl) ?_
                    refine lv_iload_n hx hb dX8_clause_102 rfl (lv_at hl 0 rfl) ?_
                    refine va_put (D := (dC, dI)) (ci := 8) (v := .int r92) (ty := .int) (C := RX8) (T := TX8) (N := 29) hx hb hts hinX8_clause_X8 tyX8 tyX8_ok nmX8 hown hK hP hD hS 0 rfl rfl 15 (by decide) (hts _ (List.mem_of_getElem? (i := 4) rfl)) (fun _ h9 => h9) rfl (by decide +kernel) rfl rfl (Nat.le_of_ble_eq_true rfl) dX8_clause_103 (fun H locs hP hD hS => ?_)
                    have hP : va_P (dC, dI) vwCl (fl [wdX8 kc m_o m_now m_mind m_then m_text m_rules m_sizes m_read m_names m_letters m_begins m_words m_drifts m_above m_bodies m_trace m_sorts m_lengths m_items m_moved mnow mmind mthen mkept mtext mtexted mrules msizes mruled mread msize mat_92 mwell_92 mwithin msum r92 mnames mletters mbegins mwords mdrifts mabove mbodies mtrace mran msorts mlengths mitems mmoved]) H := hP
                    have hD : va_D A (fl [wdX8 kc m_o m_now m_mind m_then m_text m_rules m_sizes m_read m_names m_letters m_begins m_words m_drifts m_above m_bodies m_trace m_sorts m_lengths m_items m_moved mnow mmind mthen mkept mtext mtexted mrules msizes mruled mread msize mat_92 mwell_92 mwithin msum r92 mnames mletters mbegins mwords mdrifts mabove mbodies mtrace mran msorts mlengths mitems mmoved]) := hD
                    cases hm
                    exact k_vret hx hb hr hlocks hP hS dX8_clause_106
                · replace hm := it_f c62 hm
                  refine lv_aload_n hx hb dX8_clause_65 rfl (lv_at hl 0 rfl) ?_
                  refine lv_aload_n hx hb dX8_clause_66 rfl (lv_at hl 0 rfl) ?_
                  refine va_get (D := (dC, dI)) (ci := 8) (v := .ref m_words) (C := RX8) (T := TX8) (N := 29) hx hb hts hinX8_clause_X8 hown hK hP 0 rfl rfl 19 (by decide) (hts _ (List.mem_of_getElem? (i := 3) rfl)) (fun _ h9 => h9) rfl dX8_clause_67 ?_
                  refine lv_iconst (v := 5) hx hb dX8_clause_70 (by decide) ?_
                  refine lv_iload_n hx hb dX8_clause_71 rfl (lv_at hl 1 rfl) ?_
                  refine lv_imul hx hb dX8_clause_72 ?_
                  refine lv_iload_n hx hb dX8_clause_73 rfl (lv_at hl 2 rfl) ?_
                  refine lv_iadd hx hb dX8_clause_74 ?_
                  obtain ⟨hg75, hm⟩ := gd_e hm
                  refine k_cald (D := (dC, dI)) hx hb hK hP 11 0 rfl rfl (k := ((5 * l1_4) + l2_47).toNatClampNeg) rfl hg75 dX8_clause_75 ?_
                  obtain ⟨mat_76, mwell_76, hc76, hm⟩ := bd2_e hm
                  refine k_callGVv (dC := dC) (dI := dI) (kc := kc) (As := [.int (mwords (((5 * l1_4) + l2_47).toNatClampNeg))]) (rest := []) (Gs' := [wdX8 kc m_o m_now m_mind m_then m_text m_rules m_sizes m_read m_names m_letters m_begins m_words m_drifts m_above m_bodies m_trace m_sorts m_lengths m_items m_moved mnow mmind mthen mkept mtext mtexted mrules msizes mruled mread msize mat_76 mwell_76 mwithin msum mbear mnames mletters mbegins mwords mdrifts mabove mbodies mtrace mran msorts mlengths mitems mmoved]) hx hb hml hown hts hK hP hD hS hA (ctX8_takes (m_o := m_o) (m_now := m_now) (m_mind := m_mind) (m_then := m_then) (m_text := m_text) (m_rules := m_rules) (m_sizes := m_sizes) (m_read := m_read) (m_names := m_names) (m_letters := m_letters) (m_begins := m_begins) (m_words := m_words) (m_drifts := m_drifts) (m_above := m_above) (m_bodies := m_bodies) (m_trace := m_trace) (m_sorts := m_sorts) (m_lengths := m_lengths) (m_items := m_items) (m_moved := m_moved) (mnow := mnow) (mmind := mmind) (mthen := mthen) (mkept := mkept) (mtext := mtext) (mtexted := mtexted) (mrules := mrules) (msizes := msizes) (mruled := mruled) (mread := mread) (msize := msize) (mat := mat_47) (mwell := mwell_47) (mwithin := mwithin) (msum := msum) (mbear := mbear) (mnames := mnames) (mletters := mletters) (mbegins := mbegins) (mwords := mwords) (mdrifts := mdrifts) (mabove := mabove) (mbodies := mbodies) (mtrace := mtrace) (mran := mran) (msorts := msorts) (mlengths := mlengths) (mitems := mitems) (mmoved := mmoved) (x1 := mwords (((5 * l1_4) + l2_47).toNatClampNeg)) hc76) (cwV 1 hts gX8_clause_X8_takes rfl rfl rfl (by decide +kernel) ⟨Nat.le_of_ble_eq_true rfl, Nat.le_of_ble_eq_true rfl⟩) [0] rfl (by decide) 8 rfl rfl rfl rfl hl rfl (Nat.le_of_ble_eq_true rfl) dX8_clause_76 ⟨Nat.zero_le _, Nat.zero_le _⟩ rfl rfl rfl (fun H locs hP hD hS => ?_)
                  refine lv_iinc (v := l2_47 + 1) (lv' := [(2, .int (l2_47 + 1)), (0, .ref m_o), (1, .int l1_4)]) hx hb dX8_clause_79 hl (k := 2) rfl rfl (by decide) rfl (fun ls hl => ?_)
                  refine lv_goto (tgt := 47) hx hb dX8_clause_82 (by decide) ?_
                  exact ih47 (l2_47 + 1) mat_76 mwell_76 hm _ _ hP hD hS _ (lv_sub hl [1, 2, 0] rfl)
          exact hL47 _ _ _ _ hm _ _ hP hD hS _ (lv_sub hl [1, 2, 0] rfl)
        · replace hm := it_t c36 hm
          refine lv_aload_n hx hb dX8_clause_39 rfl (lv_at hl 0 rfl) ?_
          refine lv_iconst (v := 0) hx hb dX8_clause_40 (by decide) ?_
          refine va_put (D := (dC, dI)) (ci := 8) (v := .int 0) (ty := .boolean) (C := RX8) (T := TX8) (N := 29) hx hb hts hinX8_clause_X8 tyX8 tyX8_ok nmX8 hown hK hP hD hS 0 rfl rfl 12 (by decide) (hts _ (List.mem_of_getElem? (i := 2) rfl)) (fun _ h9 => h9) rfl (by decide +kernel) rfl rfl (Nat.le_of_ble_eq_true rfl) dX8_clause_41 (fun H locs hP hD hS => ?_)
          have hP : va_P (dC, dI) vwCl (fl [wdX8 kc m_o m_now m_mind m_then m_text m_rules m_sizes m_read m_names m_letters m_begins m_words m_drifts m_above m_bodies m_trace m_sorts m_lengths m_items m_moved mnow mmind mthen mkept mtext mtexted mrules msizes mruled mread msize mat 0 mwithin msum mbear mnames mletters mbegins mwords mdrifts mabove mbodies mtrace mran msorts mlengths mitems mmoved]) H := hP
          have hD : va_D A (fl [wdX8 kc m_o m_now m_mind m_then m_text m_rules m_sizes m_read m_names m_letters m_begins m_words m_drifts m_above m_bodies m_trace m_sorts m_lengths m_items m_moved mnow mmind mthen mkept mtext mtexted mrules msizes mruled mread msize mat 0 mwithin msum mbear mnames mletters mbegins mwords mdrifts mabove mbodies mtrace mran msorts mlengths mitems mmoved]) := hD
          cases hm
          exact k_vret hx hb hr hlocks hP hS dX8_clause_44
      · replace hm := it_f c6 hm
        refine lv_aload_n hx hb dX8_clause_9 rfl (lv_at hl 0 rfl) ?_
        refine lv_aload_n hx hb dX8_clause_10 rfl (lv_at hl 0 rfl) ?_
        refine va_get (D := (dC, dI)) (ci := 8) (v := .ref m_begins) (C := RX8) (T := TX8) (N := 29) hx hb hts hinX8_clause_X8 hown hK hP 0 rfl rfl 18 (by decide) (hts _ (List.mem_of_getElem? (i := 1) rfl)) (fun _ h9 => h9) rfl dX8_clause_11 ?_
        refine lv_iload_n hx hb dX8_clause_14 rfl (lv_at hl 2 rfl) ?_
        obtain ⟨hg15, hm⟩ := gd_e hm
        refine k_cald (D := (dC, dI)) hx hb hK hP 10 0 rfl rfl (k := l2_4.toNatClampNeg) rfl hg15 dX8_clause_15 ?_
        obtain ⟨r16, hc16, hm⟩ := bd1_e hm
        refine k_callGVi (dC := dC) (dI := dI) (kc := kc) (As := [.int (mbegins (l2_4.toNatClampNeg))]) (rest := []) (Gs' := [wdX8 kc m_o m_now m_mind m_then m_text m_rules m_sizes m_read m_names m_letters m_begins m_words m_drifts m_above m_bodies m_trace m_sorts m_lengths m_items m_moved mnow mmind mthen mkept mtext mtexted mrules msizes mruled mread msize mat mwell mwithin msum mbear mnames mletters mbegins mwords mdrifts mabove mbodies mtrace mran msorts mlengths mitems mmoved]) hx hb hml hown hts hK hP hD hS hA (ctX8_isAt (m_o := m_o) (m_now := m_now) (m_mind := m_mind) (m_then := m_then) (m_text := m_text) (m_rules := m_rules) (m_sizes := m_sizes) (m_read := m_read) (m_names := m_names) (m_letters := m_letters) (m_begins := m_begins) (m_words := m_words) (m_drifts := m_drifts) (m_above := m_above) (m_bodies := m_bodies) (m_trace := m_trace) (m_sorts := m_sorts) (m_lengths := m_lengths) (m_items := m_items) (m_moved := m_moved) (mnow := mnow) (mmind := mmind) (mthen := mthen) (mkept := mkept) (mtext := mtext) (mtexted := mtexted) (mrules := mrules) (msizes := msizes) (mruled := mruled) (mread := mread) (msize := msize) (mat := mat) (mwell := mwell) (mwithin := mwithin) (msum := msum) (mbear := mbear) (mnames := mnames) (mletters := mletters) (mbegins := mbegins) (mwords := mwords) (mdrifts := mdrifts) (mabove := mabove) (mbodies := mbodies) (mtrace := mtrace) (mran := mran) (msorts := msorts) (mlengths := mlengths) (mitems := mitems) (mmoved := mmoved) (x1 := mbegins (l2_4.toNatClampNeg)) hc16) (cwV 1 hts gX8_clause_X8_isAt rfl rfl rfl (by decide +kernel) ⟨Nat.le_of_ble_eq_true rfl, Nat.le_of_ble_eq_true rfl⟩) [0] rfl (by decide) 8 rfl rfl rfl rfl hl rfl (Nat.le_of_ble_eq_true rfl) dX8_clause_16 ⟨Nat.zero_le _, Nat.zero_le _⟩ rfl rfl rfl (fun H locs hP hD hS => ?_)
        refine lv_if_eq (tgt := 26) hx hb dX8_clause_19 (by decide) (fun c19 => ?_) (fun c19 => ?_)
        · replace hm := it_t c19 hm
          refine lv_iload_n hx hb dX8_clause_26 rfl (lv_at hl 1 rfl) ?_
          refine lv_istore_n (lv' := [(1, .int l1_4), (0, .ref m_o), (2, .int l2_4)]) hx hb dX8_clause_27 rfl hl (by decide) rfl (fun ls hl => ?_)
          refine lv_iinc (v := l2_4 + 1) (lv' := [(2, .int (l2_4 + 1)), (1, .int l1_4), (0, .ref m_o)]) hx hb dX8_clause_28 hl (k := 2) rfl rfl (by decide) rfl (fun ls hl => ?_)
          refine lv_goto (tgt := 4) hx hb dX8_clause_31 (by decide) ?_
          exact ih4 l1_4 (l2_4 + 1) hm _ _ hP hD hS _ (lv_sub hl [2, 1, 0] rfl)
        · replace hm := it_f c19 hm
          refine lv_iload_n hx hb dX8_clause_22 rfl (lv_at hl 2 rfl) ?_
          refine lv_goto (tgt := 27) hx hb dX8_clause_23 (by decide) ?_
          refine lv_istore_n (lv' := [(1, .int l2_4), (0, .ref m_o), (2, .int l2_4)]) hx hb dX8_clause_27 rfl hl (by decide) rfl (fun ls hl => ?_)
          refine lv_iinc (v := l2_4 + 1) (lv' := [(2, .int (l2_4 + 1)), (1, .int l2_4), (0, .ref m_o)]) hx hb dX8_clause_28 hl (k := 2) rfl rfl (by decide) rfl (fun ls hl => ?_)
          refine lv_goto (tgt := 4) hx hb dX8_clause_31 (by decide) ?_
          exact ih4 l2_4 (l2_4 + 1) hm _ _ hP hD hS _ (lv_sub hl [2, 1, 0] rfl)
  exact hL4 _ _ _ hm _ _ hP hD hS _ (lv_sub hl [2, 1, 0] rfl)
def LX8_readAll_27 (fu : Nat) (mread : Nat → Int32) (msize : Int32) (mnames : Nat → Int32) (mletters : Nat → Int32) (mbegins : Nat → Int32) (mwords : Nat → Int32) : Nat → Int32 → Int32 → Int32 → Int32 → Int32 → Int32 → Option (Int32 × Int32 × Int32 × Int32 × Int32 × Int32)
  | 0, _, _, _, _, _, _ => none
  | n27 + 1, l1_27, mat_27, mwell_27, mwithin_27, msum_27, mbear_27 => if 10 ≤ l1_27 then (if mwell_27 = 0 then (some ((0 : Int32), mat_27, mwell_27, mwithin_27, msum_27, mbear_27)) else (if mat_27 = msize then (some ((1 : Int32), mat_27, mwell_27, mwithin_27, msum_27, mbear_27)) else (some ((0 : Int32), mat_27, mwell_27, mwithin_27, msum_27, mbear_27)))) else (bd1 (fX8_isAt mread msize mat_27 mwell_27 59) (fun r36 => if r36 = 0 then (if mwell_27 = 0 then (some ((0 : Int32), mat_27, mwell_27, mwithin_27, msum_27, mbear_27)) else (if mat_27 = msize then (some ((1 : Int32), mat_27, mwell_27, mwithin_27, msum_27, mbear_27)) else (some ((0 : Int32), mat_27, mwell_27, mwithin_27, msum_27, mbear_27)))) else (bd5 (fX8_clause fu mread msize (mat_27 + 1) mwell_27 mwithin_27 msum_27 mbear_27 mnames mletters mbegins mwords) (fun mat_53 mwell_53 mwithin_53 msum_53 mbear_53 => LX8_readAll_27 fu mread msize mnames mletters mbegins mwords n27 (l1_27 + 1) mat_53 mwell_53 mwithin_53 msum_53 mbear_53))))
def fX8_readAll (fu : Nat) (mread : Nat → Int32) (msize : Int32) (mat : Int32) (mwell : Int32) (mwithin : Int32) (msum : Int32) (mbear : Int32) (mnames : Nat → Int32) (mletters : Nat → Int32) (mbegins : Nat → Int32) (mwords : Nat → Int32) : Option (Int32 × Int32 × Int32 × Int32 × Int32 × Int32) := bd5 (fX8_clause fu mread msize 0 1 mwithin 0 6 mnames mletters mbegins mwords) (fun mat_24 mwell_24 mwithin_24 msum_24 mbear_24 => LX8_readAll_27 fu mread msize mnames mletters mbegins mwords fu 1 mat_24 mwell_24 mwithin_24 msum_24 mbear_24)
theorem hinX8_readAll_X8 : ∀ w ∈ u_ws RX8 TX8 29, w ∈ wsX8_readAll := fun _ h => List.mem_cons_of_mem _ (List.mem_append_right _ h)
abbrev rmX8_readAll : Room := { frames := 255, cells := 0, slots := 0, locals := 6923 }
set_option maxHeartbeats 4000000 in
set_option maxRecDepth 100000 in
theorem ctX8_readAll {l : Launch} {dC : Nat → ClassId} {dI : Nat → Nat → Nat} {kc : Nat → ClassId} {m_o m_now m_mind m_then m_text m_rules m_sizes m_read m_names m_letters m_begins m_words m_drifts m_above m_bodies m_trace m_sorts m_lengths m_items m_moved : Nat} {mnow : Nat → Int32} {mmind : Nat → Int32} {mthen : Nat → Int32} {mkept : Int32} {mtext : Nat → Int32} {mtexted : Int32} {mrules : Nat → Int32} {msizes : Nat → Int32} {mruled : Int32} {mread : Nat → Int32} {msize : Int32} {mat : Int32} {mwell : Int32} {mwithin : Int32} {msum : Int32} {mbear : Int32} {mnames : Nat → Int32} {mletters : Nat → Int32} {mbegins : Nat → Int32} {mwords : Nat → Int32} {mdrifts : Nat → Int32} {mabove : Nat → Int32} {mbodies : Nat → Int32} {mtrace : Nat → Int32} {mran : Int32} {msorts : Nat → Int32} {mlengths : Nat → Int32} {mitems : Nat → Int64} {mmoved : Nat → Int64} {fu : Nat} {r : Int32} {mat' : Int32} {mwell' : Int32} {mwithin' : Int32} {msum' : Int32} {mbear' : Int32} (hm : fX8_readAll fu mread msize mat mwell mwithin msum mbear mnames mletters mbegins mwords = some (r, mat', mwell', mwithin', msum', mbear')) : ∀ sz : Nat, Met l yX8_readAll wsX8_readAll rmX8_readAll (kPc dC dI kc [.ref m_o] (fl [wdX8 kc m_o m_now m_mind m_then m_text m_rules m_sizes m_read m_names m_letters m_begins m_words m_drifts m_above m_bodies m_trace m_sorts m_lengths m_items m_moved mnow mmind mthen mkept mtext mtexted mrules msizes mruled mread msize mat mwell mwithin msum mbear mnames mletters mbegins mwords mdrifts mabove mbodies mtrace mran msorts mlengths mitems mmoved]) sz) (kQi dC dI r (fl [wdX8 kc m_o m_now m_mind m_then m_text m_rules m_sizes m_read m_names m_letters m_begins m_words m_drifts m_above m_bodies m_trace m_sorts m_lengths m_items m_moved mnow mmind mthen mkept mtext mtexted mrules msizes mruled mread msize mat' mwell' mwithin' msum' mbear' mnames mletters mbegins mwords mdrifts mabove mbodies mtrace mran msorts mlengths mitems mmoved]) (va_A (fl [wdX8 kc m_o m_now m_mind m_then m_text m_rules m_sizes m_read m_names m_letters m_begins m_words m_drifts m_above m_bodies m_trace m_sorts m_lengths m_items m_moved mnow mmind mthen mkept mtext mtexted mrules msizes mruled mread msize mat mwell mwithin msum mbear mnames mletters mbegins mwords mdrifts mabove mbodies mtrace mran msorts mlengths mitems mmoved]) sz)) 0 0 (va_A (fl [wdX8 kc m_o m_now m_mind m_then m_text m_rules m_sizes m_read m_names m_letters m_begins m_words m_drifts m_above m_bodies m_trace m_sorts m_lengths m_items m_moved mnow mmind mthen mkept mtext mtexted mrules msizes mruled mread msize mat mwell mwithin msum mbear mnames mletters mbegins mwords mdrifts mabove mbodies mtrace mran msorts mlengths mitems mmoved]) sz) := by
  intro sz
  refine kMet (cc := cX8_readAll) (maxL := 2) (ret := (some .boolean)) (Qf := fun A => kQi dC dI r (fl [wdX8 kc m_o m_now m_mind m_then m_text m_rules m_sizes m_read m_names m_letters m_begins m_words m_drifts m_above m_bodies m_trace m_sorts m_lengths m_items m_moved mnow mmind mthen mkept mtext mtexted mrules msizes mruled mread msize mat' mwell' mwithin' msum' mbear' mnames mletters mbegins mwords mdrifts mabove mbodies mtrace mran msorts mlengths mitems mmoved]) A) (by decide) rfl (Nat.le_of_ble_eq_true rfl) ?_
  intro p e s m below meth c A ls hx hb hr hml hts hown hlocks hname hsz hA hP hK hD hl
  have hS : va_S A s.heap s.heap [] := va_S.rf
  have hl : lv_has ls 2 [(0, .ref m_o)] := hl
  unfold fX8_readAll at hm
  refine lv_aload_n hx hb dX8_readAll_0 rfl (lv_at hl 0 rfl) ?_
  refine lv_iconst (v := 0) hx hb dX8_readAll_1 (by decide) ?_
  refine va_put (D := (dC, dI)) (ci := 8) (v := .int 0) (ty := .int) (C := RX8) (T := TX8) (N := 29) hx hb hts hinX8_readAll_X8 tyX8 tyX8_ok nmX8 hown hK hP hD hS 0 rfl rfl 11 (by decide) (hts _ (List.mem_of_getElem? (i := 1) rfl)) (fun _ h9 => h9) rfl (by decide +kernel) rfl rfl (Nat.le_of_ble_eq_true rfl) dX8_readAll_2 (fun H locs hP hD hS => ?_)
  have hP : va_P (dC, dI) vwCl (fl [wdX8 kc m_o m_now m_mind m_then m_text m_rules m_sizes m_read m_names m_letters m_begins m_words m_drifts m_above m_bodies m_trace m_sorts m_lengths m_items m_moved mnow mmind mthen mkept mtext mtexted mrules msizes mruled mread msize 0 mwell mwithin msum mbear mnames mletters mbegins mwords mdrifts mabove mbodies mtrace mran msorts mlengths mitems mmoved]) H := hP
  have hD : va_D A (fl [wdX8 kc m_o m_now m_mind m_then m_text m_rules m_sizes m_read m_names m_letters m_begins m_words m_drifts m_above m_bodies m_trace m_sorts m_lengths m_items m_moved mnow mmind mthen mkept mtext mtexted mrules msizes mruled mread msize 0 mwell mwithin msum mbear mnames mletters mbegins mwords mdrifts mabove mbodies mtrace mran msorts mlengths mitems mmoved]) := hD
  refine lv_aload_n hx hb dX8_readAll_5 rfl (lv_at hl 0 rfl) ?_
  refine lv_iconst (v := 1) hx hb dX8_readAll_6 (by decide) ?_
  refine va_put (D := (dC, dI)) (ci := 8) (v := .int 1) (ty := .boolean) (C := RX8) (T := TX8) (N := 29) hx hb hts hinX8_readAll_X8 tyX8 tyX8_ok nmX8 hown hK hP hD hS 0 rfl rfl 12 (by decide) (hts _ (List.mem_of_getElem? (i := 2) rfl)) (fun _ h9 => h9) rfl (by decide +kernel) rfl rfl (Nat.le_of_ble_eq_true rfl) dX8_readAll_7 (fun H locs hP hD hS => ?_)
  have hP : va_P (dC, dI) vwCl (fl [wdX8 kc m_o m_now m_mind m_then m_text m_rules m_sizes m_read m_names m_letters m_begins m_words m_drifts m_above m_bodies m_trace m_sorts m_lengths m_items m_moved mnow mmind mthen mkept mtext mtexted mrules msizes mruled mread msize 0 1 mwithin msum mbear mnames mletters mbegins mwords mdrifts mabove mbodies mtrace mran msorts mlengths mitems mmoved]) H := hP
  have hD : va_D A (fl [wdX8 kc m_o m_now m_mind m_then m_text m_rules m_sizes m_read m_names m_letters m_begins m_words m_drifts m_above m_bodies m_trace m_sorts m_lengths m_items m_moved mnow mmind mthen mkept mtext mtexted mrules msizes mruled mread msize 0 1 mwithin msum mbear mnames mletters mbegins mwords mdrifts mabove mbodies mtrace mran msorts mlengths mitems mmoved]) := hD
  refine lv_aload_n hx hb dX8_readAll_10 rfl (lv_at hl 0 rfl) ?_
  refine lv_iconst (v := 0) hx hb dX8_readAll_11 (by decide) ?_
  refine va_put (D := (dC, dI)) (ci := 8) (v := .int 0) (ty := .int) (C := RX8) (T := TX8) (N := 29) hx hb hts hinX8_readAll_X8 tyX8 tyX8_ok nmX8 hown hK hP hD hS 0 rfl rfl 14 (by decide) (hts _ (List.mem_of_getElem? (i := 3) rfl)) (fun _ h9 => h9) rfl (by decide +kernel) rfl rfl (Nat.le_of_ble_eq_true rfl) dX8_readAll_12 (fun H locs hP hD hS => ?_)
  have hP : va_P (dC, dI) vwCl (fl [wdX8 kc m_o m_now m_mind m_then m_text m_rules m_sizes m_read m_names m_letters m_begins m_words m_drifts m_above m_bodies m_trace m_sorts m_lengths m_items m_moved mnow mmind mthen mkept mtext mtexted mrules msizes mruled mread msize 0 1 mwithin 0 mbear mnames mletters mbegins mwords mdrifts mabove mbodies mtrace mran msorts mlengths mitems mmoved]) H := hP
  have hD : va_D A (fl [wdX8 kc m_o m_now m_mind m_then m_text m_rules m_sizes m_read m_names m_letters m_begins m_words m_drifts m_above m_bodies m_trace m_sorts m_lengths m_items m_moved mnow mmind mthen mkept mtext mtexted mrules msizes mruled mread msize 0 1 mwithin 0 mbear mnames mletters mbegins mwords mdrifts mabove mbodies mtrace mran msorts mlengths mitems mmoved]) := hD
  refine lv_aload_n hx hb dX8_readAll_15 rfl (lv_at hl 0 rfl) ?_
  refine lv_bipush (v := 6) hx hb dX8_readAll_16 (by decide) ?_
  refine va_put (D := (dC, dI)) (ci := 8) (v := .int 6) (ty := .int) (C := RX8) (T := TX8) (N := 29) hx hb hts hinX8_readAll_X8 tyX8 tyX8_ok nmX8 hown hK hP hD hS 0 rfl rfl 15 (by decide) (hts _ (List.mem_of_getElem? (i := 4) rfl)) (fun _ h9 => h9) rfl (by decide +kernel) rfl rfl (Nat.le_of_ble_eq_true rfl) dX8_readAll_18 (fun H locs hP hD hS => ?_)
  have hP : va_P (dC, dI) vwCl (fl [wdX8 kc m_o m_now m_mind m_then m_text m_rules m_sizes m_read m_names m_letters m_begins m_words m_drifts m_above m_bodies m_trace m_sorts m_lengths m_items m_moved mnow mmind mthen mkept mtext mtexted mrules msizes mruled mread msize 0 1 mwithin 0 6 mnames mletters mbegins mwords mdrifts mabove mbodies mtrace mran msorts mlengths mitems mmoved]) H := hP
  have hD : va_D A (fl [wdX8 kc m_o m_now m_mind m_then m_text m_rules m_sizes m_read m_names m_letters m_begins m_words m_drifts m_above m_bodies m_trace m_sorts m_lengths m_items m_moved mnow mmind mthen mkept mtext mtexted mrules msizes mruled mread msize 0 1 mwithin 0 6 mnames mletters mbegins mwords mdrifts mabove mbodies mtrace mran msorts mlengths mitems mmoved]) := hD
  refine lv_iconst (v := 1) hx hb dX8_readAll_21 (by decide) ?_
  refine lv_istore_n (lv' := [(1, .int 1), (0, .ref m_o)]) hx hb dX8_readAll_22 rfl hl (by decide) rfl (fun ls hl => ?_)
  refine lv_aload_n hx hb dX8_readAll_23 rfl (lv_at hl 1 rfl) ?_
  obtain ⟨mat_24, mwell_24, mwithin_24, msum_24, mbear_24, hc24, hm⟩ := bd5_e hm
  refine k_callGVv (dC := dC) (dI := dI) (kc := kc) (As := []) (rest := []) (Gs' := [wdX8 kc m_o m_now m_mind m_then m_text m_rules m_sizes m_read m_names m_letters m_begins m_words m_drifts m_above m_bodies m_trace m_sorts m_lengths m_items m_moved mnow mmind mthen mkept mtext mtexted mrules msizes mruled mread msize mat_24 mwell_24 mwithin_24 msum_24 mbear_24 mnames mletters mbegins mwords mdrifts mabove mbodies mtrace mran msorts mlengths mitems mmoved]) hx hb hml hown hts hK hP hD hS hA (ctX8_clause (m_o := m_o) (m_now := m_now) (m_mind := m_mind) (m_then := m_then) (m_text := m_text) (m_rules := m_rules) (m_sizes := m_sizes) (m_read := m_read) (m_names := m_names) (m_letters := m_letters) (m_begins := m_begins) (m_words := m_words) (m_drifts := m_drifts) (m_above := m_above) (m_bodies := m_bodies) (m_trace := m_trace) (m_sorts := m_sorts) (m_lengths := m_lengths) (m_items := m_items) (m_moved := m_moved) (mnow := mnow) (mmind := mmind) (mthen := mthen) (mkept := mkept) (mtext := mtext) (mtexted := mtexted) (mrules := mrules) (msizes := msizes) (mruled := mruled) (mread := mread) (msize := msize) (mat := 0) (mwell := 1) (mwithin := mwithin) (msum := 0) (mbear := 6) (mnames := mnames) (mletters := mletters) (mbegins := mbegins) (mwords := mwords) (mdrifts := mdrifts) (mabove := mabove) (mbodies := mbodies) (mtrace := mtrace) (mran := mran) (msorts := msorts) (mlengths := mlengths) (mitems := mitems) (mmoved := mmoved) hc24) (cwV 0 hts gX8_readAll_X8_clause rfl rfl rfl (by decide +kernel) ⟨Nat.le_of_ble_eq_true rfl, Nat.le_of_ble_eq_true rfl⟩) [0] rfl (by decide) 8 rfl rfl rfl rfl hl rfl (Nat.le_of_ble_eq_true rfl) dX8_readAll_24 ⟨Nat.zero_le _, Nat.zero_le _⟩ rfl rfl rfl (fun H locs hP hD hS => ?_)
  have hL27 : ∀ (fn : Nat) (l1_27 : Int32) (mat_27 : Int32) (mwell_27 : Int32) (mwithin_27 : Int32) (msum_27 : Int32) (mbear_27 : Int32), LX8_readAll_27 fu mread msize mnames mletters mbegins mwords fn l1_27 mat_27 mwell_27 mwithin_27 msum_27 mbear_27 = some (r, mat', mwell', mwithin', msum', mbear') → ∀ (H : Heap) (locs : List Loc), va_P (dC, dI) vwCl (fl [wdX8 kc m_o m_now m_mind m_then m_text m_rules m_sizes m_read m_names m_letters m_begins m_words m_drifts m_above m_bodies m_trace m_sorts m_lengths m_items m_moved mnow mmind mthen mkept mtext mtexted mrules msizes mruled mread msize mat_27 mwell_27 mwithin_27 msum_27 mbear_27 mnames mletters mbegins mwords mdrifts mabove mbodies mtrace mran msorts mlengths mitems mmoved]) H → va_D A (fl [wdX8 kc m_o m_now m_mind m_then m_text m_rules m_sizes m_read m_names m_letters m_begins m_words m_drifts m_above m_bodies m_trace m_sorts m_lengths m_items m_moved mnow mmind mthen mkept mtext mtexted mrules msizes mruled mread msize mat_27 mwell_27 mwithin_27 msum_27 mbear_27 mnames mletters mbegins mwords mdrifts mabove mbodies mtrace mran msorts mlengths mitems mmoved]) → va_S A s.heap H locs → ∀ ls : Array Slot, lv_has ls 2 [(0, .ref m_o), (1, .int l1_27)] → W p l e (headSpec wsX8_readAll rmX8_readAll).room s m [.ref m_o].toArray below meth c H locs 0 0 (MQ below (kQi dC dI r (fl [wdX8 kc m_o m_now m_mind m_then m_text m_rules m_sizes m_read m_names m_letters m_begins m_words m_drifts m_above m_bodies m_trace m_sorts m_lengths m_items m_moved mnow mmind mthen mkept mtext mtexted mrules msizes mruled mread msize mat' mwell' mwithin' msum' mbear' mnames mletters mbegins mwords mdrifts mabove mbodies mtrace mran msorts mlengths mitems mmoved]) A) [.ref m_o].toArray s 0 0 A) (F0 m 27 ls []) := by
    clear hm hP hD hS hl
    intro n27
    induction n27 with
    | zero => intro l1_27 mat_27 mwell_27 mwithin_27 msum_27 mbear_27 hm; rw [LX8_readAll_27] at hm; cases hm
    | succ n27 ih27 =>
      intro l1_27 mat_27 mwell_27 mwithin_27 msum_27 mbear_27 hm H locs hP hD hS ls hl
      rw [LX8_readAll_27] at hm
      refine lv_iload_n hx hb dX8_readAll_27 rfl (lv_at hl 1 rfl) ?_
      refine lv_bipush (v := 10) hx hb dX8_readAll_28 (by decide) ?_
      refine lv_icmp_ge (tgt := 62) hx hb dX8_readAll_30 (by decide) (fun c30 => ?_) (fun c30 => ?_)
      · replace hm := it_t c30 hm
        refine lv_aload_n hx hb dX8_readAll_62 rfl (lv_at hl 0 rfl) ?_
        refine va_get (D := (dC, dI)) (ci := 8) (v := .int mwell_27) (C := RX8) (T := TX8) (N := 29) hx hb hts hinX8_readAll_X8 hown hK hP 0 rfl rfl 12 (by decide) (hts _ (List.mem_of_getElem? (i := 2) rfl)) (fun _ h9 => h9) rfl dX8_readAll_63 ?_
        refine lv_if_eq (tgt := 84) hx hb dX8_readAll_66 (by decide) (fun c66 => ?_) (fun c66 => ?_)
        · replace hm := it_t c66 hm
          refine lv_iconst (v := 0) hx hb dX8_readAll_84 (by decide) ?_
          cases hm
          exact k_zret hx hb hr hlocks (by decide) hP hS dX8_readAll_85
        · replace hm := it_f c66 hm
          refine lv_aload_n hx hb dX8_readAll_69 rfl (lv_at hl 0 rfl) ?_
          refine va_get (D := (dC, dI)) (ci := 8) (v := .int mat_27) (C := RX8) (T := TX8) (N := 29) hx hb hts hinX8_readAll_X8 hown hK hP 0 rfl rfl 11 (by decide) (hts _ (List.mem_of_getElem? (i := 1) rfl)) (fun _ h9 => h9) rfl dX8_readAll_70 ?_
          refine lv_aload_n hx hb dX8_readAll_73 rfl (lv_at hl 0 rfl) ?_
          refine va_get (D := (dC, dI)) (ci := 8) (v := .int msize) (C := RX8) (T := TX8) (N := 29) hx hb hts hinX8_readAll_X8 hown hK hP 0 rfl rfl 10 (by decide) (hts _ (List.mem_of_getElem? (i := 5) rfl)) (fun _ h9 => h9) rfl dX8_readAll_74 ?_
          refine lv_icmp_ne (tgt := 84) hx hb dX8_readAll_77 (by decide) (fun c77 => ?_) (fun c77 => ?_)
          · replace hm := it_f c77 hm
            refine lv_iconst (v := 0) hx hb dX8_readAll_84 (by decide) ?_
            cases hm
            exact k_zret hx hb hr hlocks (by decide) hP hS dX8_readAll_85
          · replace hm := it_t c77 hm
            refine lv_iconst (v := 1) hx hb dX8_readAll_80 (by decide) ?_
            refine lv_goto (tgt := 85) hx hb dX8_readAll_81 (by decide) ?_
            cases hm
            exact k_zret hx hb hr hlocks (by decide) hP hS dX8_readAll_85
      · replace hm := it_f c30 hm
        refine lv_aload_n hx hb dX8_readAll_33 rfl (lv_at hl 0 rfl) ?_
        refine lv_bipush (v := 59) hx hb dX8_readAll_34 (by decide) ?_
        obtain ⟨r36, hc36, hm⟩ := bd1_e hm
        refine k_callGVi (dC := dC) (dI := dI) (kc := kc) (As := [.int 59]) (rest := []) (Gs' := [wdX8 kc m_o m_now m_mind m_then m_text m_rules m_sizes m_read m_names m_letters m_begins m_words m_drifts m_above m_bodies m_trace m_sorts m_lengths m_items m_moved mnow mmind mthen mkept mtext mtexted mrules msizes mruled mread msize mat_27 mwell_27 mwithin_27 msum_27 mbear_27 mnames mletters mbegins mwords mdrifts mabove mbodies mtrace mran msorts mlengths mitems mmoved]) hx hb hml hown hts hK hP hD hS hA (ctX8_isAt (m_o := m_o) (m_now := m_now) (m_mind := m_mind) (m_then := m_then) (m_text := m_text) (m_rules := m_rules) (m_sizes := m_sizes) (m_read := m_read) (m_names := m_names) (m_letters := m_letters) (m_begins := m_begins) (m_words := m_words) (m_drifts := m_drifts) (m_above := m_above) (m_bodies := m_bodies) (m_trace := m_trace) (m_sorts := m_sorts) (m_lengths := m_lengths) (m_items := m_items) (m_moved := m_moved) (mnow := mnow) (mmind := mmind) (mthen := mthen) (mkept := mkept) (mtext := mtext) (mtexted := mtexted) (mrules := mrules) (msizes := msizes) (mruled := mruled) (mread := mread) (msize := msize) (mat := mat_27) (mwell := mwell_27) (mwithin := mwithin_27) (msum := msum_27) (mbear := mbear_27) (mnames := mnames) (mletters := mletters) (mbegins := mbegins) (mwords := mwords) (mdrifts := mdrifts) (mabove := mabove) (mbodies := mbodies) (mtrace := mtrace) (mran := mran) (msorts := msorts) (mlengths := mlengths) (mitems := mitems) (mmoved := mmoved) (x1 := 59) hc36) (cwV 1 hts gX8_readAll_X8_isAt rfl rfl rfl (by decide +kernel) ⟨Nat.le_of_ble_eq_true rfl, Nat.le_of_ble_eq_true rfl⟩) [0] rfl (by decide) 8 rfl rfl rfl rfl hl rfl (Nat.le_of_ble_eq_true rfl) dX8_readAll_36 ⟨Nat.zero_le _, Nat.zero_le _⟩ rfl rfl rfl (fun H locs hP hD hS => ?_)
        refine lv_if_eq (tgt := 62) hx hb dX8_readAll_39 (by decide) (fun c39 => ?_) (fun c39 => ?_)
        · replace hm := it_t c39 hm
          refine lv_aload_n hx hb dX8_readAll_62 rfl (lv_at hl 0 rfl) ?_
          refine va_get (D := (dC, dI)) (ci := 8) (v := .int mwell_27) (C := RX8) (T := TX8) (N := 29) hx hb hts hinX8_readAll_X8 hown hK hP 0 rfl rfl 12 (by decide) (hts _ (List.mem_of_getElem? (i := 2) rfl)) (fun _ h9 => h9) rfl dX8_readAll_63 ?_
          refine lv_if_eq (tgt := 84) hx hb dX8_readAll_66 (by decide) (fun c66 => ?_) (fun c66 => ?_)
          · replace hm := it_t c66 hm
            refine lv_iconst (v := 0) hx hb dX8_readAll_84 (by decide) ?_
            cases hm
            exact k_zret hx hb hr hlocks (by decide) hP hS dX8_readAll_85
          · replace hm := it_f c66 hm
            refine lv_aload_n hx hb dX8_readAll_69 rfl (lv_at hl 0 rfl) ?_
            refine va_get (D := (dC, dI)) (ci := 8) (v := .int mat_27) (C := RX8) (T := TX8) (N := 29) hx hb hts hinX8_readAll_X8 hown hK hP 0 rfl rfl 11 (by decide) (hts _ (List.mem_of_getElem? (i := 1) rfl)) (fun _ h9 => h9) rfl dX8_readAll_70 ?_
            refine lv_aload_n hx hb dX8_readAll_73 rfl (lv_at hl 0 rfl) ?_
            refine va_get (D := (dC, dI)) (ci := 8) (v := .int msize) (C := RX8) (T := TX8) (N := 29) hx hb hts hinX8_readAll_X8 hown hK hP 0 rfl rfl 10 (by decide) (hts _ (List.mem_of_getElem? (i := 5) rfl)) (fun _ h9 => h9) rfl dX8_readAll_74 ?_
            refine lv_icmp_ne (tgt := 84) hx hb dX8_readAll_77 (by decide) (fun c77 => ?_) (fun c77 => ?_)
            · replace hm := it_f c77 hm
              refine lv_iconst (v := 0) hx hb dX8_readAll_84 (by decide) ?_
              cases hm
              exact k_zret hx hb hr hlocks (by decide) hP hS dX8_readAll_85
            · replace hm := it_t c77 hm
              refine lv_iconst (v := 1) hx hb dX8_readAll_80 (by decide) ?_
              refine lv_goto (tgt := 85) hx hb dX8_readAll_81 (by decide) ?_
              cases hm
              exact k_zret hx hb hr hlocks (by decide) hP hS dX8_readAll_85
        · replace hm := it_f c39 hm
          refine lv_aload_n hx hb dX8_readAll_42 rfl (lv_at hl 0 rfl) ?_
          refine lv_dup hx hb dX8_readAll_43 rfl ?_
          refine va_get (D := (dC, dI)) (ci := 8) (v := .int mat_27) (C := RX8) (T := TX8) (N := 29) hx hb hts hinX8_readAll_X8 hown hK hP 0 rfl rfl 11 (by decide) (hts _ (List.mem_of_getElem? (i := 1) rfl)) (fun _ h9 => h9) rfl dX8_readAll_44 ?_
          refine lv_iconst (v := 1) hx hb dX8_readAll_47 (by decide) ?_
          refine lv_iadd hx hb dX8_readAll_48 ?_
          refine va_put (D := (dC, dI)) (ci := 8) (v := .int (mat_27 + 1)) (ty := .int) (C := RX8) (T := TX8) (N := 29) hx hb hts hinX8_readAll_X8 tyX8 tyX8_ok nmX8 hown hK hP hD hS 0 rfl rfl 11 (by decide) (hts _ (List.mem_of_getElem? (i := 1) rfl)) (fun _ h9 => h9) rfl (by decide +kernel) rfl rfl (Nat.le_of_ble_eq_true rfl) dX8_readAll_49 (fun H locs hP hD hS => ?_)
          have hP : va_P (dC, dI) vwCl (fl [wdX8 kc m_o m_now m_mind m_then m_text m_rules m_sizes m_read m_names m_letters m_begins m_words m_drifts m_above m_bodies m_trace m_sorts m_lengths m_items m_moved mnow mmind mthen mkept mtext mtexted mrules msizes mruled mread msize (mat_27 + 1) mwell_27 mwithin_27 msum_27 mbear_27 mnames mletters mbegins mwords mdrifts mabove mbodies mtrace mran msorts mlengths mitems mmoved]) H := hP
          have hD : va_D A (fl [wdX8 kc m_o m_now m_mind m_then m_text m_rules m_sizes m_read m_names m_letters m_begins m_words m_drifts m_above m_bodies m_trace m_sorts m_lengths m_items m_moved mnow mmind mthen mkept mtext mtexted mrules msizes mruled mread msize (mat_27 + 1) mwell_27 mwithin_27 msum_27 mbear_27 mnames mletters mbegins mwords mdrifts mabove mbodies mtrace mran msorts mlengths mitems mmoved]) := hD
          refine lv_aload_n hx hb dX8_readAll_52 rfl (lv_at hl 0 rfl) ?_
          obtain ⟨mat_53, mwell_53, mwithin_53, msum_53, mbear_53, hc53, hm⟩ := bd5_e hm
          refine k_callGVv (dC := dC) (dI := dI) (kc := kc) (As := []) (rest := []) (Gs' := [wdX8 kc m_o m_now m_mind m_then m_text m_rules m_sizes m_read m_names m_letters m_begins m_words m_drifts m_above m_bodies m_trace m_sorts m_lengths m_items m_moved mnow mmind mthen mkept mtext mtexted mrules msizes mruled mread msize mat_53 mwell_53 mwithin_53 msum_53 mbear_53 mnames mletters mbegins mwords mdrifts mabove mbodies mtrace mran msorts mlengths mitems mmoved]) hx hb hml hown hts hK hP hD hS hA (ctX8_clause (m_o := m_o) (m_now := m_now) (m_mind := m_mind) (m_then := m_then) (m_text := m_text) (m_rules := m_rules) (m_sizes := m_sizes) (m_read := m_read) (m_names := m_names) (m_letters := m_letters) (m_begins := m_begins) (m_words := m_words) (m_drifts := m_drifts) (m_above := m_above) (m_bodies := m_bodies) (m_trace := m_trace) (m_sorts := m_sorts) (m_lengths := m_lengths) (m_items := m_items) (m_moved := m_moved) (mnow := mnow) (mmind := mmind) (mthen := mthen) (mkept := mkept) (mtext := mtext) (mtexted := mtexted) (mrules := mrules) (msizes := msizes) (mruled := mruled) (mread := mread) (msize := msize) (mat := mat_27 + 1) (mwell := mwell_27) (mwithin := mwithin_27) (msum := msum_27) (mbear := mbear_27) (mnames := mnames) (mletters := mletters) (mbegins := mbegins) (mwords := mwords) (mdrifts := mdrifts) (mabove := mabove) (mbodies := mbodies) (mtrace := mtrace) (mran := mran) (msorts := msorts) (mlengths := mlengths) (mitems := mitems) (mmoved := mmoved) hc53) (cwV 0 hts gX8_readAll_X8_clause rfl rfl rfl (by decide +kernel) ⟨Nat.le_of_ble_eq_true rfl, Nat.le_of_ble_eq_true rfl⟩) [0] rfl (by decide) 8 rfl rfl rfl rfl hl rfl (Nat.le_of_ble_eq_true rfl) dX8_readAll_53 ⟨Nat.zero_le _, Nat.zero_le _⟩ rfl rfl rfl (fun H locs hP hD hS => ?_)
          refine lv_iinc (v := l1_27 + 1) (lv' := [(1, .int (l1_27 + 1)), (0, .ref m_o)]) hx hb dX8_readAll_56 hl (k := 1) rfl rfl (by decide) rfl (fun ls hl => ?_)
          refine lv_goto (tgt := 27) hx hb dX8_readAll_59 (by decide) ?_
          exact ih27 (l1_27 + 1) mat_53 mwell_53 mwithin_53 msum_53 mbear_53 hm _ _ hP hD hS _ (lv_sub hl [1, 0] rfl)
  exact hL27 _ _ _ _ _ _ _ hm _ _ hP hD hS _ (lv_sub hl [1, 0] rfl)
def LX8_readFor_117 (fu : Nat) (mnow : Nat → Int32) (mrules : Nat → Int32) (msizes : Nat → Int32) (mat : Int32) (mwell : Int32) (mwithin : Int32) (msum : Int32) (mbear : Int32) (mnames : Nat → Int32) (mletters : Nat → Int32) (mbegins : Nat → Int32) (mwords : Nat → Int32) (x1 : Int32) (r15 : Int32) (r27 : Int32) (r39 : Int32) (r53 : Int32) : Nat → Int32 → (Nat → Int32) → Option ((Nat → Int32) × Int32 × Int32 × Int32 × Int32 × Int32 × Int32 × (Nat → Int32))
  | 0, _, _ => none
  | n117 + 1, l3_117, mread_117 => if (msizes (((mnow 58) - 1).toNatClampNeg)) ≤ l3_117 then (bd6 (fX8_readAll fu mread_117 (msizes (((mnow 58) - 1).toNatClampNeg)) mat mwell mwithin msum mbear (upd (upd (upd (upd (upd (upd mnames 0 x1) 1 r15) 2 r27) 3 (r39 / 10)) 4 r53) 5 ((mnow 57) - (mnow 57) / 10 * 10)) mletters mbegins mwords) (fun r149 mat_149 mwell_149 mwithin_149 msum_149 mbear_149 => some (mread_117, msizes (((mnow 58) - 1).toNatClampNeg), mat_149, mwell_149, mwithin_149, msum_149, mbear_149, upd (upd (upd (upd (upd (upd mnames 0 x1) 1 r15) 2 r27) 3 (r39 / 10)) 4 r53) 5 ((mnow 57) - (mnow 57) / 10 * 10)))) else (gd (inb ((100 * ((mnow 58) - 1)) + l3_117) 600) (gd (inb l3_117 100) (LX8_readFor_117 fu mnow mrules msizes mat mwell mwithin msum mbear mnames mletters mbegins mwords x1 r15 r27 r39 r53 n117 (l3_117 + 1) (upd mread_117 (l3_117.toNatClampNeg) (mrules (((100 * ((mnow 58) - 1)) + l3_117).toNatClampNeg))))))
def fX8_readFor (fu : Nat) (mnow : Nat → Int32) (mrules : Nat → Int32) (msizes : Nat → Int32) (mread : Nat → Int32) (msize : Int32) (mat : Int32) (mwell : Int32) (mwithin : Int32) (msum : Int32) (mbear : Int32) (mnames : Nat → Int32) (mletters : Nat → Int32) (mbegins : Nat → Int32) (mwords : Nat → Int32) (x1 : Int32) : Option ((Nat → Int32) × Int32 × Int32 × Int32 × Int32 × Int32 × Int32 × (Nat → Int32)) := bd1 (fX8_number mnow x1 0) (fun r15 => bd1 (fX8_number mnow x1 1) (fun r27 => bd1 (fX8_number mnow x1 2) (fun r39 => bd1 (fX8_leavesOf fu mnow x1) (fun r53 => if (mnow 58) = 0 then (some (mread, msize, mat, mwell, mwithin, 0, 6, upd (upd (upd (upd (upd (upd mnames 0 x1) 1 r15) 2 r27) 3 (r39 / 10)) 4 r53) 5 ((mnow 57) - (mnow 57) / 10 * 10))) else (gd (inb ((mnow 58) - 1) 6) (LX8_readFor_117 fu mnow mrules msizes mat mwell mwithin msum mbear mnames mletters mbegins mwords x1 r15 r27 r39 r53 fu 0 mread))))))
theorem hinX8_readFor_X8 : ∀ w ∈ u_ws RX8 TX8 29, w ∈ wsX8_readFor := fun _ h => List.mem_cons_of_mem _ (List.mem_append_right _ h)
abbrev rmX8_readFor : Room := { frames := 256, cells := 0, slots := 0, locals := 6944 }
set_option maxHeartbeats 4000000 in
set_option maxRecDepth 100000 in
theorem ctX8_readFor {l : Launch} {dC : Nat → ClassId} {dI : Nat → Nat → Nat} {kc : Nat → ClassId} {m_o m_now m_mind m_then m_text m_rules m_sizes m_read m_names m_letters m_begins m_words m_drifts m_above m_bodies m_trace m_sorts m_lengths m_items m_moved : Nat} {mnow : Nat → Int32} {mmind : Nat → Int32} {mthen : Nat → Int32} {mkept : Int32} {mtext : Nat → Int32} {mtexted : Int32} {mrules : Nat → Int32} {msizes : Nat → Int32} {mruled : Int32} {mread : Nat → Int32} {msize : Int32} {mat : Int32} {mwell : Int32} {mwithin : Int32} {msum : Int32} {mbear : Int32} {mnames : Nat → Int32} {mletters : Nat → Int32} {mbegins : Nat → Int32} {mwords : Nat → Int32} {mdrifts : Nat → Int32} {mabove : Nat → Int32} {mbodies : Nat → Int32} {mtrace : Nat → Int32} {mran : Int32} {msorts : Nat → Int32} {mlengths : Nat → Int32} {mitems : Nat → Int64} {mmoved : Nat → Int64} {x1 : Int32} {fu : Nat} {mread' : Nat → Int32} {msize' : Int32} {mat' : Int32} {mwell' : Int32} {mwithin' : Int32} {msum' : Int32} {mbear' : Int32} {mnames' : Nat → Int32} (hm : fX8_readFor fu mnow mrules msizes mread msize mat mwell mwithin msum mbear mnames mletters mbegins mwords x1 = some (mread', msize', mat', mwell', mwithin', msum', mbear', mnames')) : ∀ sz : Nat, Met l yX8_readFor wsX8_readFor rmX8_readFor (kPc dC dI kc [.ref m_o, .int x1] (fl [wdX8 kc m_o m_now m_mind m_then m_text m_rules m_sizes m_read m_names m_letters m_begins m_words m_drifts m_above m_bodies m_trace m_sorts m_lengths m_items m_moved mnow mmind mthen mkept mtext mtexted mrules msizes mruled mread msize mat mwell mwithin msum mbear mnames mletters mbegins mwords mdrifts mabove mbodies mtrace mran msorts mlengths mitems mmoved]) sz) (kQv dC dI (fl [wdX8 kc m_o m_now m_mind m_then m_text m_rules m_sizes m_read m_names m_letters m_begins m_words m_drifts m_above m_bodies m_trace m_sorts m_lengths m_items m_moved mnow mmind mthen mkept mtext mtexted mrules msizes mruled mread' msize' mat' mwell' mwithin' msum' mbear' mnames' mletters mbegins mwords mdrifts mabove mbodies mtrace mran msorts mlengths mitems mmoved]) (va_A (fl [wdX8 kc m_o m_now m_mind m_then m_text m_rules m_sizes m_read m_names m_letters m_begins m_words m_drifts m_above m_bodies m_trace m_sorts m_lengths m_items m_moved mnow mmind mthen mkept mtext mtexted mrules msizes mruled mread msize mat mwell mwithin msum mbear mnames mletters mbegins mwords mdrifts mabove mbodies mtrace mran msorts mlengths mitems mmoved]) sz)) 0 0 (va_A (fl [wdX8 kc m_o m_now m_mind m_then m_text m_rules m_sizes m_read m_names m_letters m_begins m_words m_drifts m_above m_bodies m_trace m_sorts m_lengths m_items m_moved mnow mmind mthen mkept mtext mtexted mrules msizes mruled mread msize mat mwell mwithin msum mbear mnames mletters mbegins mwords mdrifts mabove mbodies mtrace mran msorts mlengths mitems mmoved]) sz) := by
  intro sz
  refine kMet (cc := cX8_readFor) (maxL := 4) (ret := none) (Qf := fun A => kQv dC dI (fl [wdX8 kc m_o m_now m_mind m_then m_text m_rules m_sizes m_read m_names m_letters m_begins m_words m_drifts m_above m_bodies m_trace m_sorts m_lengths m_items m_moved mnow mmind mthen mkept mtext mtexted mrules msizes mruled mread' msize' mat' mwell' mwithin' msum' mbear' mnames' mletters mbegins mwords mdrifts mabove mbodies mtrace mran msorts mlengths mitems mmoved]) A) (by decide) rfl (Nat.le_of_ble_eq_true rfl) ?_
  intro p e s m below meth c A ls hx hb hr hml hts hown hlocks hname hsz hA hP hK hD hl
  have hS : va_S A s.heap s.heap [] := va_S.rf
  have hl : lv_has ls 4 [(0, .ref m_o), (1, .int x1)] := hl
  unfold fX8_readFor at hm
  refine lv_aload_n hx hb dX8_readFor_0 rfl (lv_at hl 0 rfl) ?_
  refine va_get (D := (dC, dI)) (ci := 8) (v := .ref m_names) (C := RX8) (T := TX8) (N := 29) hx hb hts hinX8_readFor_X8 hown hK hP 0 rfl rfl 16 (by decide) (hts _ (List.mem_of_getElem? (i := 1) rfl)) (fun _ h9 => h9) rfl dX8_readFor_1 ?_
  refine lv_iconst (v := 0) hx hb dX8_readFor_4 (by decide) ?_
  refine lv_iload_n hx hb dX8_readFor_5 rfl (lv_at hl 1 rfl) ?_
  refine k_iast (D := (dC, dI)) hx hb hK hP hD hS 8 1 rfl rfl (k := 0) (by decide) (show ¬ ((0 : Int32) < 0 ∨ 6 ≤ (0 : Int32).toNatClampNeg) from by decide) dX8_readFor_6 (fun H locs hP hD hS => ?_)
  have hP : va_P (dC, dI) vwCl (fl [wdX8 kc m_o m_now m_mind m_then m_text m_rules m_sizes m_read m_names m_letters m_begins m_words m_drifts m_above m_bodies m_trace m_sorts m_lengths m_items m_moved mnow mmind mthen mkept mtext mtexted mrules msizes mruled mread msize mat mwell mwithin msum mbear (upd mnames 0 x1) mletters mbegins mwords mdrifts mabove mbodies mtrace mran msorts mlengths mitems mmoved]) H := hP
  have hD : va_D A (fl [wdX8 kc m_o m_now m_mind m_then m_text m_rules m_sizes m_read m_names m_letters m_begins m_words m_drifts m_above m_bodies m_trace m_sorts m_lengths m_items m_moved mnow mmind mthen mkept mtext mtexted mrules msizes mruled mread msize mat mwell mwithin msum mbear (upd mnames 0 x1) mletters mbegins mwords mdrifts mabove mbodies mtrace mran msorts mlengths mitems mmoved]) := hD
  refine lv_aload_n hx hb dX8_readFor_7 rfl (lv_at hl 0 rfl) ?_
  refine va_get (D := (dC, dI)) (ci := 8) (v := .ref m_names) (C := RX8) (T := TX8) (N := 29) hx hb hts hinX8_readFor_X8 hown hK hP 0 rfl rfl 16 (by decide) (hts _ (List.mem_of_getElem? (i := 1) rfl)) (fun _ h9 => h9) rfl dX8_readFor_8 ?_
  refine lv_iconst (v := 1) hx hb dX8_readFor_11 (by decide) ?_
  refine lv_aload_n hx hb dX8_readFor_12 rfl (lv_at hl 0 rfl) ?_
  refine lv_iload_n hx hb dX8_readFor_13 rfl (lv_at hl 1 rfl) ?_
  refine lv_iconst (v := 0) hx hb dX8_readFor_14 (by decide) ?_
  obtain ⟨r15, hc15, hm⟩ := bd1_e hm
  refine k_callGVi (dC := dC) (dI := dI) (kc := kc) (As := [.int x1, .int 0]) (rest := [.int 1, .ref m_names]) (Gs' := [wdX8 kc m_o m_now m_mind m_then m_text m_rules m_sizes m_read m_names m_letters m_begins m_words m_drifts m_above m_bodies m_trace m_sorts m_lengths m_items m_moved mnow mmind mthen mkept mtext mtexted mrules msizes mruled mread msize mat mwell mwithin msum mbear (upd mnames 0 x1) mletters mbegins mwords mdrifts mabove mbodies mtrace mran msorts mlengths mitems mmoved]) hx hb hml hown hts hK hP hD hS hA (ctX8_number (m_o := m_o) (m_now := m_now) (m_mind := m_mind) (m_then := m_then) (m_text := m_text) (m_rules := m_rules) (m_sizes := m_sizes) (m_read := m_read) (m_names := m_names) (m_letters := m_letters) (m_begins := m_begins) (m_words := m_words) (m_drifts := m_drifts) (m_above := m_above) (m_bodies := m_bodies) (m_trace := m_trace) (m_sorts := m_sorts) (m_lengths := m_lengths) (m_items := m_items) (m_moved := m_moved) (mnow := mnow) (mmind := mmind) (mthen := mthen) (mkept := mkept) (mtext := mtext) (mtexted := mtexted) (mrules := mrules) (msizes := msizes) (mruled := mruled) (mread := mread) (msize := msize) (mat := mat) (mwell := mwell) (mwithin := mwithin) (msum := msum) (mbear := mbear) (mnames := upd mnames 0 x1) (mletters := mletters) (mbegins := mbegins) (mwords := mwords) (mdrifts := mdrifts) (mabove := mabove) (mbodies := mbodies) (mtrace := mtrace) (mran := mran) (msorts := msorts) (mlengths := mlengths) (mitems := mitems) (mmoved := mmoved) (x1 := x1) (x2 := 0) hc15) (cwV 2 hts gX8_readFor_X8_number rfl rfl rfl (by decide +kernel) ⟨Nat.le_of_ble_eq_true rfl, Nat.le_of_ble_eq_true rfl⟩) [0] rfl (by decide) 8 rfl rfl rfl rfl hl rfl (Nat.le_of_ble_eq_true rfl) dX8_readFor_15 ⟨Nat.zero_le _, Nat.zero_le _⟩ rfl rfl rfl (fun H locs hP hD hS => ?_)
  refine k_iast (D := (dC, dI)) hx hb hK hP hD hS 8 1 rfl rfl (k := 1) (by decide) (show ¬ ((1 : Int32) < 0 ∨ 6 ≤ (1 : Int32).toNatClampNeg) from by decide) dX8_readFor_18 (fun H locs hP hD hS => ?_)
  have hP : va_P (dC, dI) vwCl (fl [wdX8 kc m_o m_now m_mind m_then m_text m_rules m_sizes m_read m_names m_letters m_begins m_words m_drifts m_above m_bodies m_trace m_sorts m_lengths m_items m_moved mnow mmind mthen mkept mtext mtexted mrules msizes mruled mread msize mat mwell mwithin msum mbear (upd (upd mnames 0 x1) 1 r15) mletters mbegins mwords mdrifts mabove mbodies mtrace mran msorts mlengths mitems mmoved]) H := hP
  have hD : va_D A (fl [wdX8 kc m_o m_now m_mind m_then m_text m_rules m_sizes m_read m_names m_letters m_begins m_words m_drifts m_above m_bodies m_trace m_sorts m_lengths m_items m_moved mnow mmind mthen mkept mtext mtexted mrules msizes mruled mread msize mat mwell mwithin msum mbear (upd (upd mnames 0 x1) 1 r15) mletters mbegins mwords mdrifts mabove mbodies mtrace mran msorts mlengths mitems mmoved]) := hD
  refine lv_aload_n hx hb dX8_readFor_19 rfl (lv_at hl 0 rfl) ?_
  refine va_get (D := (dC, dI)) (ci := 8) (v := .ref m_names) (C := RX8) (T := TX8) (N := 29) hx hb hts hinX8_readFor_X8 hown hK hP 0 rfl rfl 16 (by decide) (hts _ (List.mem_of_getElem? (i := 1) rfl)) (fun _ h9 => h9) rfl dX8_readFor_20 ?_
  refine lv_iconst (v := 2) hx hb dX8_readFor_23 (by decide) ?_
  refine lv_aload_n hx hb dX8_readFor_24 rfl (lv_at hl 0 rfl) ?_
  refine lv_iload_n hx hb dX8_readFor_25 rfl (lv_at hl 1 rfl) ?_
  refine lv_iconst (v := 1) hx hb dX8_readFor_26 (by decide) ?_
  obtain ⟨r27, hc27, hm⟩ := bd1_e hm
  refine k_callGVi (dC := dC) (dI := dI) (kc := kc) (As := [.int x1, .int 1]) (rest := [.int 2, .ref m_names]) (Gs' := [wdX8 kc m_o m_now m_mind m_then m_text m_rules m_sizes m_read m_names m_letters m_begins m_words m_drifts m_above m_bodies m_trace m_sorts m_lengths m_items m_moved mnow mmind mthen mkept mtext mtexted mrules msizes mruled mread msize mat mwell mwithin msum mbear (upd (upd mnames 0 x1) 1 r15) mletters mbegins mwords mdrifts mabove mbodies mtrace mran msorts mlengths mitems mmoved]) hx hb hml hown hts hK hP hD hS hA (ctX8_number (m_o := m_o) (m_now := m_now) (m_mind := m_mind) (m_then := m_then) (m_text := m_text) (m_rules := m_rules) (m_sizes := m_sizes) (m_read := m_read) (m_names := m_names) (m_letters := m_letters) (m_begins := m_begins) (m_words := m_words) (m_drifts := m_drifts) (m_above := m_above) (m_bodies := m_bodies) (m_trace := m_trace) (m_sorts := m_sorts) (m_lengths := m_lengths) (m_items := m_items) (m_moved := m_moved) (mnow := mnow) (mmind := mmind) (mthen := mthen) (mkept := mkept) (mtext := mtext) (mtexted := mtexted) (mrules := mrules) (msizes := msizes) (mruled := mruled) (mread := mread) (msize := msize) (mat := mat) (mwell := mwell) (mwithin := mwithin) (msum := msum) (mbear := mbear) (mnames := upd (upd mnames 0 x1) 1 r15) (mletters := mletters) (mbegins := mbegins) (mwords := mwords) (mdrifts := mdrifts) (mabove := mabove) (mbodies := mbodies) (mtrace := mtrace) (mran := mran) (msorts := msorts) (mlengths := mlengths) (mitems := mitems) (mmoved := mmoved) (x1 := x1) (x2 := 1) hc27) (cwV 2 hts gX8_readFor_X8_number rfl rfl rfl (by decide +kernel) ⟨Nat.le_of_ble_eq_true rfl, Nat.le_of_ble_eq_true rfl⟩) [0] rfl (by decide) 8 rfl rfl rfl rfl hl rfl (Nat.le_of_ble_eq_true rfl) dX8_readFor_27 ⟨Nat.zero_le _, Nat.zero_le _⟩ rfl rfl rfl (fun H locs hP hD hS => ?_)
  refine k_iast (D := (dC, dI)) hx hb hK hP hD hS 8 1 rfl rfl (k := 2) (by decide) (show ¬ ((2 : Int32) < 0 ∨ 6 ≤ (2 : Int32).toNatClampNeg) from by decide) dX8_readFor_30 (fun H locs hP hD hS => ?_)
  have hP : va_P (dC, dI) vwCl (fl [wdX8 kc m_o m_now m_mind m_then m_text m_rules m_sizes m_read m_names m_letters m_begins m_words m_drifts m_above m_bodies m_trace m_sorts m_lengths m_items m_moved mnow mmind mthen mkept mtext mtexted mrules msizes mruled mread msize mat mwell mwithin msum mbear (upd (upd (upd mnames 0 x1) 1 r15) 2 r27) mletters mbegins mwords mdrifts mabove mbodies mtrace mran msorts mlengths mitems mmoved]) H := hP
  have hD : va_D A (fl [wdX8 kc m_o m_now m_mind m_then m_text m_rules m_sizes m_read m_names m_letters m_begins m_words m_drifts m_above m_bodies m_trace m_sorts m_lengths m_items m_moved mnow mmind mthen mkept mtext mtexted mrules msizes mruled mread msize mat mwell mwithin msum mbear (upd (upd (upd mnames 0 x1) 1 r15) 2 r27) mletters mbegins mwords mdrifts mabove mbodies mtrace mran msorts mlengths mitems mmoved]) := hD
  refine lv_aload_n hx hb dX8_readFor_31 rfl (lv_at hl 0 rfl) ?_
  refine va_get (D := (dC, dI)) (ci := 8) (v := .ref m_names) (C := RX8) (T := TX8) (N := 29) hx hb hts hinX8_readFor_X8 hown hK hP 0 rfl rfl 16 (by decide) (hts _ (List.mem_of_getElem? (i := 1) rfl)) (fun _ h9 => h9) rfl dX8_readFor_32 ?_
  refine lv_iconst (v := 3) hx hb dX8_readFor_35 (by decide) ?_
  refine lv_aload_n hx hb dX8_readFor_36 rfl (lv_at hl 0 rfl) ?_
  refine lv_iload_n hx hb dX8_readFor_37 rfl (lv_at hl 1 rfl) ?_
  refine lv_iconst (v := 2) hx hb dX8_readFor_38 (by decide) ?_
  obtain ⟨r39, hc39, hm⟩ := bd1_e hm
  refine k_callGVi (dC := dC) (dI := dI) (kc := kc) (As := [.int x1, .int 2]) (rest := [.int 3, .ref m_names]) (Gs' := [wdX8 kc m_o m_now m_mind m_then m_text m_rules m_sizes m_read m_names m_letters m_begins m_words m_drifts m_above m_bodies m_trace m_sorts m_lengths m_items m_moved mnow mmind mthen mkept mtext mtexted mrules msizes mruled mread msize mat mwell mwithin msum mbear (upd (upd (upd mnames 0 x1) 1 r15) 2 r27) mletters mbegins mwords mdrifts mabove mbodies mtrace mran msorts mlengths mitems mmoved]) hx hb hml hown hts hK hP hD hS hA (ctX8_number (m_o := m_o) (m_now := m_now) (m_mind := m_mind) (m_then := m_then) (m_text := m_text) (m_rules := m_rules) (m_sizes := m_sizes) (m_read := m_read) (m_names := m_names) (m_letters := m_letters) (m_begins := m_begins) (m_words := m_words) (m_drifts := m_drifts) (m_above := m_above) (m_bodies := m_bodies) (m_trace := m_trace) (m_sorts := m_sorts) (m_lengths := m_lengths) (m_items := m_items) (m_moved := m_moved) (mnow := mnow) (mmind := mmind) (mthen := mthen) (mkept := mkept) (mtext := mtext) (mtexted := mtexted) (mrules := mrules) (msizes := msizes) (mruled := mruled) (mread := mread) (msize := msize) (mat := mat) (mwell := mwell) (mwithin := mwithin) (msum := msum) (mbear := mbear) (mnames := upd (upd (upd mnames 0 x1) 1 r15) 2 r27) (mletters := mletters) (mbegins := mbegins) (mwords := mwords) (mdrifts := mdrifts) (mabove := mabove) (mbodies := mbodies) (mtrace := mtrace) (mran := mran) (msorts := msorts) (mlengths := mlengths) (mitems := mitems) (mmoved := mmoved) (x1 := x1) (x2 := 2) hc39) (cwV 2 hts gX8_readFor_X8_number rfl rfl rfl (by decide +kernel) ⟨Nat.le_of_ble_eq_true rfl, Nat.le_of_ble_eq_true rfl⟩) [0] rfl (by decide) 8 rfl rfl rfl rfl hl rfl (Nat.le_of_ble_eq_true rfl) dX8_readFor_39 ⟨Nat.zero_le _, Nat.zero_le _⟩ rfl rfl rfl (fun H locs hP hD hS => ?_)
  refine lv_bipush (v := 10) hx hb dX8_readFor_42 (by decide) ?_
  refine lv_idiv hx hb dX8_readFor_44 (by decide) ?_
  refine k_iast (D := (dC, dI)) hx hb hK hP hD hS 8 1 rfl rfl (k := 3) (by decide) (show ¬ ((3 : Int32) < 0 ∨ 6 ≤ (3 : Int32).toNatClampNeg) from by decide) dX8_readFor_45 (fun H locs hP hD hS => ?_)
  have hP : va_P (dC, dI) vwCl (fl [wdX8 kc m_o m_now m_mind m_then m_text m_rules m_sizes m_read m_names m_letters m_begins m_words m_drifts m_above m_bodies m_trace m_sorts m_lengths m_items m_moved mnow mmind mthen mkept mtext mtexted mrules msizes mruled mread msize mat mwell mwithin msum mbear (upd (upd (upd (upd mnames 0 x1) 1 r15) 2 r27) 3 (r39 / 10)) mletters mbegins mwords mdrifts mabove mbodies mtrace mran msorts mlengths mitems mmoved]) H := hP
  have hD : va_D A (fl [wdX8 kc m_o m_now m_mind m_then m_text m_rules m_sizes m_read m_names m_letters m_begins m_words m_drifts m_above m_bodies m_trace m_sorts m_lengths m_items m_moved mnow mmind mthen mkept mtext mtexted mrules msizes mruled mread msize mat mwell mwithin msum mbear (upd (upd (upd (upd mnames 0 x1) 1 r15) 2 r27) 3 (r39 / 10)) mletters mbegins mwords mdrifts mabove mbodies mtrace mran msorts mlengths mitems mmoved]) := hD
  refine lv_aload_n hx hb dX8_readFor_46 rfl (lv_at hl 0 rfl) ?_
  refine va_get (D := (dC, dI)) (ci := 8) (v := .ref m_names) (C := RX8) (T := TX8) (N := 29) hx hb hts hinX8_readFor_X8 hown hK hP 0 rfl rfl 16 (by decide) (hts _ (List.mem_of_getElem? (i := 1) rfl)) (fun _ h9 => h9) rfl dX8_readFor_47 ?_
  refine lv_iconst (v := 4) hx hb dX8_readFor_50 (by decide) ?_
  refine lv_aload_n hx hb dX8_readFor_51 rfl (lv_at hl 0 rfl) ?_
  refine lv_iload_n hx hb dX8_readFor_52 rfl (lv_at hl 1 rfl) ?_
  obtain ⟨r53, hc53, hm⟩ := bd1_e hm
  refine k_callGVi (dC := dC) (dI := dI) (kc := kc) (As := [.int x1]) (rest := [.int 4, .ref m_names]) (Gs' := [wdX8 kc m_o m_now m_mind m_then m_text m_rules m_sizes m_read m_names m_letters m_begins m_words m_drifts m_above m_bodies m_trace m_sorts m_lengths m_items m_moved mnow mmind mthen mkept mtext mtexted mrules msizes mruled mread msize mat mwell mwithin msum mbear (upd (upd (upd (upd mnames 0 x1) 1 r15) 2 r27) 3 (r39 / 10)) mletters mbegins mwords mdrifts mabove mbodies mtrace mran msorts mlengths mitems mmoved]) hx hb hml hown hts hK hP hD hS hA (ctX8_leavesOf (m_o := m_o) (m_now := m_now) (m_mind := m_mind) (m_then := m_then) (m_text := m_text) (m_rules := m_rules) (m_sizes := m_sizes) (m_read := m_read) (m_names := m_names) (m_letters := m_letters) (m_begins := m_begins) (m_words := m_words) (m_drifts := m_drifts) (m_above := m_above) (m_bodies := m_bodies) (m_trace := m_trace) (m_sorts := m_sorts) (m_lengths := m_lengths) (m_items := m_items) (m_moved := m_moved) (mnow := mnow) (mmind := mmind) (mthen := mthen) (mkept := mkept) (mtext := mtext) (mtexted := mtexted) (mrules := mrules) (msizes := msizes) (mruled := mruled) (mread := mread) (msize := msize) (mat := mat) (mwell := mwell) (mwithin := mwithin) (msum := msum) (mbear := mbear) (mnames := upd (upd (upd (upd mnames 0 x1) 1 r15) 2 r27) 3 (r39 / 10)) (mletters := mletters) (mbegins := mbegins) (mwords := mwords) (mdrifts := mdrifts) (mabove := mabove) (mbodies := mbodies) (mtrace := mtrace) (mran := mran) (msorts := msorts) (mlengths := mlengths) (mitems := mitems) (mmoved := mmoved) (x1 := x1) hc53) (cwV 1 hts gX8_readFor_X8_leavesOf rfl rfl rfl (by decide +kernel) ⟨Nat.le_of_ble_eq_true rfl, Nat.le_of_ble_eq_true rfl⟩) [0] rfl (by decide) 8 rfl rfl rfl rfl hl rfl (Nat.le_of_ble_eq_true rfl) dX8_readFor_53 ⟨Nat.zero_le _, Nat.zero_le _⟩ rfl rfl rfl (fun H locs hP hD hS => ?_)
  refine k_iast (D := (dC, dI)) hx hb hK hP hD hS 8 1 rfl rfl (k := 4) (by decide) (show ¬ ((4 : Int32) < 0 ∨ 6 ≤ (4 : Int32).toNatClampNeg) from by decide) dX8_readFor_56 (fun H locs hP hD hS => ?_)
  have hP : va_P (dC, dI) vwCl (fl [wdX8 kc m_o m_now m_mind m_then m_text m_rules m_sizes m_read m_names m_letters m_begins m_words m_drifts m_above m_bodies m_trace m_sorts m_lengths m_items m_moved mnow mmind mthen mkept mtext mtexted mrules msizes mruled mread msize mat mwell mwithin msum mbear (upd (upd (upd (upd (upd mnames 0 x1) 1 r15) 2 r27) 3 (r39 / 10)) 4 r53) mletters mbegins mwords mdrifts mabove mbodies mtrace mran msorts mlengths mitems mmoved]) H := hP
  have hD : va_D A (fl [wdX8 kc m_o m_now m_mind m_then m_text m_rules m_sizes m_read m_names m_letters m_begins m_words m_drifts m_above m_bodies m_trace m_sorts m_lengths m_items m_moved mnow mmind mthen mkept mtext mtexted mrules msizes mruled mread msize mat mwell mwithin msum mbear (upd (upd (upd (upd (upd mnames 0 x1) 1 r15) 2 r27) 3 (r39 / 10)) 4 r53) mletters mbegins mwords mdrifts mabove mbodies mtrace mran msorts mlengths mitems mmoved]) := hD
  refine lv_aload_n hx hb dX8_readFor_57 rfl (lv_at hl 0 rfl) ?_
  refine va_get (D := (dC, dI)) (ci := 8) (v := .ref m_names) (C := RX8) (T := TX8) (N := 29) hx hb hts hinX8_readFor_X8 hown hK hP 0 rfl rfl 16 (by decide) (hts _ (List.mem_of_getElem? (i := 1) rfl)) (fun _ h9 => h9) rfl dX8_readFor_58 ?_
  refine lv_iconst (v := 5) hx hb dX8_readFor_61 (by decide) ?_
  refine lv_aload_n hx hb dX8_readFor_62 rfl (lv_at hl 0 rfl) ?_
  refine va_get (D := (dC, dI)) (ci := 8) (v := .ref m_now) (C := RX8) (T := TX8) (N := 29) hx hb hts hinX8_readFor_X8 hown hK hP 0 rfl rfl 0 (by decide) (hts _ (List.mem_of_getElem? (i := 2) rfl)) (fun _ h9 => h9) rfl dX8_readFor_63 ?_
  refine lv_bipush (v := 57) hx hb dX8_readFor_66 (by decide) ?_
  refine k_iald (D := (dC, dI)) hx hb hK hP 1 1 rfl rfl (k := 57) (by decide) (show ¬ ((57 : Int32) < 0 ∨ 113 ≤ (57 : Int32).toNatClampNeg) from by decide) dX8_readFor_68 ?_
  refine lv_bipush (v := 10) hx hb dX8_readFor_69 (by decide) ?_
  refine lv_irem hx hb dX8_readFor_71 (by decide) ?_
  refine k_iast (D := (dC, dI)) hx hb hK hP hD hS 8 1 rfl rfl (k := 5) (by decide) (show ¬ ((5 : Int32) < 0 ∨ 6 ≤ (5 : Int32).toNatClampNeg) from by decide) dX8_readFor_72 (fun H locs hP hD hS => ?_)
  have hP : va_P (dC, dI) vwCl (fl [wdX8 kc m_o m_now m_mind m_then m_text m_rules m_sizes m_read m_names m_letters m_begins m_words m_drifts m_above m_bodies m_trace m_sorts m_lengths m_items m_moved mnow mmind mthen mkept mtext mtexted mrules msizes mruled mread msize mat mwell mwithin msum mbear (upd (upd (upd (upd (upd (upd mnames 0 x1) 1 r15) 2 r27) 3 (r39 / 10)) 4 r53) 5 ((mnow 57) - (mnow 57) / 10 * 10)) mletters mbegins mwords mdrifts mabove mbodies mtrace mran msorts mlengths mitems mmoved]) H := hP
  have hD : va_D A (fl [wdX8 kc m_o m_now m_mind m_then m_text m_rules m_sizes m_read m_names m_letters m_begins m_words m_drifts m_above m_bodies m_trace m_sorts m_lengths m_items m_moved mnow mmind mthen mkept mtext mtexted mrules msizes mruled mread msize mat mwell mwithin msum mbear (upd (upd (upd (upd (upd (upd mnames 0 x1) 1 r15) 2 r27) 3 (r39 / 10)) 4 r53) 5 ((mnow 57) - (mnow 57) / 10 * 10)) mletters mbegins mwords mdrifts mabove mbodies mtrace mran msorts mlengths mitems mmoved]) := hD
  refine lv_aload_n hx hb dX8_readFor_73 rfl (lv_at hl 0 rfl) ?_
  refine va_get (D := (dC, dI)) (ci := 8) (v := .ref m_now) (C := RX8) (T := TX8) (N := 29) hx hb hts hinX8_readFor_X8 hown hK hP 0 rfl rfl 0 (by decide) (hts _ (List.mem_of_getElem? (i := 2) rfl)) (fun _ h9 => h9) rfl dX8_readFor_74 ?_
  refine lv_bipush (v := 58) hx hb dX8_readFor_77 (by decide) ?_
  refine k_iald (D := (dC, dI)) hx hb hK hP 1 1 rfl rfl (k := 58) (by decide) (show ¬ ((58 : Int32) < 0 ∨ 113 ≤ (58 : Int32).toNatClampNeg) from by decide) dX8_readFor_79 ?_
  refine lv_if_ne (tgt := 95) hx hb dX8_readFor_80 (by decide) (fun c80 => ?_) (fun c80 => ?_)
  · replace hm := it_f c80 hm
    refine lv_aload_n hx hb dX8_readFor_95 rfl (lv_at hl 0 rfl) ?_
    refine va_get (D := (dC, dI)) (ci := 8) (v := .ref m_now) (C := RX8) (T := TX8) (N := 29) hx hb hts hinX8_readFor_X8 hown hK hP 0 rfl rfl 0 (by decide) (hts _ (List.mem_of_getElem? (i := 2) rfl)) (fun _ h9 => h9) rfl dX8_readFor_96 ?_
    refine lv_bipush (v := 58) hx hb dX8_readFor_99 (by decide) ?_
    refine k_iald (D := (dC, dI)) hx hb hK hP 1 1 rfl rfl (k := 58) (by decide) (show ¬ ((58 : Int32) < 0 ∨ 113 ≤ (58 : Int32).toNatClampNeg) from by decide) dX8_readFor_101 ?_
    refine lv_iconst (v := 1) hx hb dX8_readFor_102 (by decide) ?_
    refine lv_isub hx hb dX8_readFor_103 ?_
    refine lv_istore_n (lv' := [(2, .int ((mnow 58) - 1)), (0, .ref m_o), (1, .int x1)]) hx hb dX8_readFor_104 rfl hl (by decide) rfl (fun ls hl => ?_)
    refine lv_aload_n hx hb dX8_readFor_105 rfl (lv_at hl 1 rfl) ?_
    refine lv_aload_n hx hb dX8_readFor_106 rfl (lv_at hl 1 rfl) ?_
    refine va_get (D := (dC, dI)) (ci := 8) (v := .ref m_sizes) (C := RX8) (T := TX8) (N := 29) hx hb hts hinX8_readFor_X8 hown hK hP 0 rfl rfl 7 (by decide) (hts _ (List.mem_of_getElem? (i := 5) rfl)) (fun _ h9 => h9) rfl dX8_readFor_107 ?_
    refine lv_iload_n hx hb dX8_readFor_110 rfl (lv_at hl 0 rfl) ?_
    obtain ⟨hg111, hm⟩ := gd_e hm
    refine k_iald (D := (dC, dI)) hx hb hK hP 6 1 rfl rfl (k := ((mnow 58) - 1).toNatClampNeg) rfl hg111 dX8_readFor_111 ?_
    refine va_put (D := (dC, dI)) (ci := 8) (v := .int (msizes (((mnow 58) - 1).toNatClampNeg))) (ty := .int) (C := RX8) (T := TX8) (N := 29) hx hb hts hinX8_readFor_X8 tyX8 tyX8_ok nmX8 hown hK hP hD hS 0 rfl rfl 10 (by decide) (hts _ (List.mem_of_getElem? (i := 6) rfl)) (fun _ h9 => h9) rfl (by decide +kernel) rfl rfl (Nat.le_of_ble_eq_true rfl) dX8_readFor_112 (fun H locs hP hD hS => ?_)
    have hP : va_P (dC, dI) vwCl (fl [wdX8 kc m_o m_now m_mind m_then m_text m_rules m_sizes m_read m_names m_letters m_begins m_words m_drifts m_above m_bodies m_trace m_sorts m_lengths m_items m_moved mnow mmind mthen mkept mtext mtexted mrules msizes mruled mread (msizes (((mnow 58) - 1).toNatClampNeg)) mat mwell mwithin msum mbear (upd (upd (upd (upd (upd (upd mnames 0 x1) 1 r15) 2 r27) 3 (r39 / 10)) 4 r53) 5 ((mnow 57) - (mnow 57) / 10 * 10)) mletters mbegins mwords mdrifts mabove mbodies mtrace mran msorts mlengths mitems mmoved]) H := hP
    have hD : va_D A (fl [wdX8 kc m_o m_now m_mind m_then m_text m_rules m_sizes m_read m_names m_letters m_begins m_words m_drifts m_above m_bodies m_trace m_sorts m_lengths m_items m_moved mnow mmind mthen mkept mtext mtexted mrules msizes mruled mread (msizes (((mnow 58) - 1).toNatClampNeg)) mat mwell mwithin msum mbear (upd (upd (upd (upd (upd (upd mnames 0 x1) 1 r15) 2 r27) 3 (r39 / 10)) 4 r53) 5 ((mnow 57) - (mnow 57) / 10 * 10)) mletters mbegins mwords mdrifts mabove mbodies mtrace mran msorts mlengths mitems mmoved]) := hD
    refine lv_iconst (v := 0) hx hb dX8_readFor_115 (by decide) ?_
    refine lv_istore_n (lv' := [(3, .int 0), (2, .int ((mnow 58) - 1)), (0, .ref m_o), (1, .int x1)]) hx hb dX8_readFor_116 rfl hl (by decide) rfl (fun ls hl => ?_)
    have hL117 : ∀ (fn : Nat) (l3_117 : Int32) (mread_117 : Nat → Int32), LX8_readFor_117 fu mnow mrules msizes mat mwell mwithin msum mbear mnames mletters mbegins mwords x1 r15 r27 r39 r53 fn l3_117 mread_117 = some (mread', msize', mat', mwell', mwithin', msum', mbear', mnames') → ∀ (H : Heap) (locs : List Loc), va_P (dC, dI) vwCl (fl [wdX8 kc m_o m_now m_mind m_then m_text m_rules m_sizes m_read m_names m_letters m_begins m_words m_drifts m_above m_bodies m_trace m_sorts m_lengths m_items m_moved mnow mmind mthen mkept mtext mtexted mrules msizes mruled mread_117 (msizes (((mnow 58) - 1).toNatClampNeg)) mat mwell mwithin msum mbear (upd (upd (upd (upd (upd (upd mnames 0 x1) 1 r15) 2 r27) 3 (r39 / 10)) 4 r53) 5 ((mnow 57) - (mnow 57) / 10 * 10)) mletters mbegins mwords mdrifts mabove mbodies mtrace mran msorts mlengths mitems mmoved]) H → va_D A (fl [wdX8 kc m_o m_now m_mind m_then m_text m_rules m_sizes m_read m_names m_letters m_begins m_words m_drifts m_above m_bodies m_trace m_sorts m_lengths m_items m_moved mnow mmind mthen mkept mtext mtexted mrules msizes mruled mread_117 (msizes (((mnow 58) - 1).toNatClampNeg)) mat mwell mwithin msum mbear (upd (upd (upd (upd (upd (upd mnames 0 x1) 1 r15) 2 r27) 3 (r39 / 10)) 4 r53) 5 ((mnow 57) - (mnow 57) / 10 * 10)) mletters mbegins mwords mdrifts mabove mbodies mtrace mran msorts mlengths mitems mmoved]) → va_S A s.heap H locs → ∀ ls : Array Slot, lv_has ls 4 [(0, .ref m_o), (2, .int ((mnow 58) - 1)), (3, .int l3_117)] → W p l e (headSpec wsX8_readFor rmX8_readFor).room s m [.ref m_o, .int x1].toArray below meth c H locs 0 0 (MQ below (kQv dC dI (fl [wdX8 kc m_o m_now m_mind m_then m_text m_rules m_sizes m_read m_names m_letters m_begins m_words m_drifts m_above m_bodies m_trace m_sorts m_lengths m_items m_moved mnow mmind mthen mkept mtext mtexted mrules msizes mruled mread' msize' mat' mwell' mwithin' msum' mbear' mnames' mletters mbegins mwords mdrifts mabove mbodies mtrace mran msorts mlengths mitems mmoved]) A) [.ref m_o, .int x1].toArray s 0 0 A) (F0 m 117 ls []) := by
      clear hm hP hD hS hl
      intro n117
      induction n117 with
      | zero => intro l3_117 mread_117 hm; rw [LX8_readFor_117] at hm; cases hm
      | succ n117 ih117 =>
        intro l3_117 mread_117 hm H locs hP hD hS ls hl
        rw [LX8_readFor_117] at hm
        refine lv_iload_n hx hb dX8_readFor_117 rfl (lv_at hl 2 rfl) ?_
        refine lv_aload_n hx hb dX8_readFor_118 rfl (lv_at hl 0 rfl) ?_
        refine va_get (D := (dC, dI)) (ci := 8) (v := .int (msizes (((mnow 58) - 1).toNatClampNeg))) (C := RX8) (T := TX8) (N := 29) hx hb hts hinX8_readFor_X8 hown hK hP 0 rfl rfl 10 (by decide) (hts _ (List.mem_of_getElem? (i := 6) rfl)) (fun _ h9 => h9) rfl dX8_readFor_119 ?_
        refine lv_icmp_ge (tgt := 148) hx hb dX8_readFor_122 (by decide) (fun c122 => ?_) (fun c122 => ?_)
        · replace hm := it_t c122 hm
          refine lv_aload_n hx hb dX8_readFor_148 rfl (lv_at hl 0 rfl) ?_
          obtain ⟨r149, mat_149, mwell_149, mwithin_149, msum_149, mbear_149, hc149, hm⟩ := bd6_e hm
          refine k_callGVi (dC := dC) (dI := dI) (kc := kc) (As := []) (rest := []) (Gs' := [wdX8 kc m_o m_now m_mind m_then m_text m_rules m_sizes m_read m_names m_letters m_begins m_words m_drifts m_above m_bodies m_trace m_sorts m_lengths m_items m_moved mnow mmind mthen mkept mtext mtexted mrules msizes mruled mread_117 (msizes (((mnow 58) - 1).toNatClampNeg)) mat_149 mwell_149 mwithin_149 msum_149 mbear_149 (upd (upd (upd (upd (upd (upd mnames 0 x1) 1 r15) 2 r27) 3 (r39 / 10)) 4 r53) 5 ((mnow 57) - (mnow 57) / 10 * 10)) mletters mbegins mwords mdrifts mabove mbodies mtrace mran msorts mlengths mitems mmoved]) hx hb hml hown hts hK hP hD hS hA (ctX8_readAll (m_o := m_o) (m_now := m_now) (m_mind := m_mind) (m_then := m_then) (m_text := m_text) (m_rules := m_rules) (m_sizes := m_sizes) (m_read := m_read) (m_names := m_names) (m_letters := m_letters) (m_begins := m_begins) (m_words := m_words) (m_drifts := m_drifts) (m_above := m_above) (m_bodies := m_bodies) (m_trace := m_trace) (m_sorts := m_sorts) (m_lengths := m_lengths) (m_items := m_items) (m_moved := m_moved) (mnow := mnow) (mmind := mmind) (mthen := mthen) (mkept := mkept) (mtext := mtext) (mtexted := mtexted) (mrules := mrules) (msizes := msizes) (mruled := mruled) (mread := mread_117) (msize := msizes (((mnow 58) - 1).toNatClampNeg)) (mat := mat) (mwell := mwell) (mwithin := mwithin) (msum := msum) (mbear := mbear) (mnames := upd (upd (upd (upd (upd (upd mnames 0 x1) 1 r15) 2 r27) 3 (r39 / 10)) 4 r53) 5 ((mnow 57) - (mnow 57) / 10 * 10)) (mletters := mletters) (mbegins := mbegins) (mwords := mwords) (mdrifts := mdrifts) (mabove := mabove) (mbodies := mbodies) (mtrace := mtrace) (mran := mran) (msorts := msorts) (mlengths := mlengths) (mitems := mitems) (mmoved := mmoved) hc149) (cwV 0 hts gX8_readFor_X8_readAll rfl rfl rfl (by decide +kernel) ⟨Nat.le_of_ble_eq_true rfl, Nat.le_of_ble_eq_true rfl⟩) [0] rfl (by decide) 8 rfl rfl rfl rfl hl rfl (Nat.le_of_ble_eq_true rfl) dX8_readFor_149 ⟨Nat.zero_le _, Nat.zero_le _⟩ rfl rfl rfl (fun H locs hP hD hS => ?_)
          refine lv_pop hx hb dX8_readFor_152 rfl ?_
          cases hm
          exact k_vret hx hb hr hlocks hP hS dX8_readFor_153
        · replace hm := it_f c122 hm
          refine lv_aload_n hx hb dX8_readFor_125 rfl (lv_at hl 0 rfl) ?_
          refine va_get (D := (dC, dI)) (ci := 8) (v := .ref m_read) (C := RX8) (T := TX8) (N := 29) hx hb hts hinX8_readFor_X8 hown hK hP 0 rfl rfl 9 (by decide) (hts _ (List.mem_of_getElem? (i := 7) rfl)) (fun _ h9 => h9) rfl dX8_readFor_126 ?_
          refine lv_iload_n hx hb dX8_readFor_129 rfl (lv_at hl 2 rfl) ?_
          refine lv_aload_n hx hb dX8_readFor_130 rfl (lv_at hl 0 rfl) ?_
          refine va_get (D := (dC, dI)) (ci := 8) (v := .ref m_rules) (C := RX8) (T := TX8) (N := 29) hx hb hts hinX8_readFor_X8 hown hK hP 0 rfl rfl 6 (by decide) (hts _ (List.mem_of_getElem? (i := 8) rfl)) (fun _ h9 => h9) rfl dX8_readFor_131 ?_
          refine lv_bipush (v := 100) hx hb dX8_readFor_134 (by decide) ?_
          refine lv_iload_n hx hb dX8_readFor_136 rfl (lv_at hl 1 rfl) ?_
          refine lv_imul hx hb dX8_readFor_137 ?_
          refine lv_iload_n hx hb dX8_readFor_138 rfl (lv_at hl 2 rfl) ?_
          refine lv_iadd hx hb dX8_readFor_139 ?_
          obtain ⟨hg140, hm⟩ := gd_e hm
          refine k_iald (D := (dC, dI)) hx hb hK hP 5 1 rfl rfl (k := ((100 * ((mnow 58) - 1)) + l3_117).toNatClampNeg) rfl hg140 dX8_readFor_140 ?_
          obtain ⟨hg141, hm⟩ := gd_e hm
          refine k_iast (D := (dC, dI)) hx hb hK hP hD hS 7 1 rfl rfl (k := l3_117.toNatClampNeg) rfl hg141 dX8_readFor_141 (fun H locs hP hD hS => ?_)
          have hP : va_P (dC, dI) vwCl (fl [wdX8 kc m_o m_now m_mind m_then m_text m_rules m_sizes m_read m_names m_letters m_begins m_words m_drifts m_above m_bodies m_trace m_sorts m_lengths m_items m_moved mnow mmind mthen mkept mtext mtexted mrules msizes mruled (upd mread_117 (l3_117.toNatClampNeg) (mrules (((100 * ((mnow 58) - 1)) + l3_117).toNatClampNeg))) (msizes (((mnow 58) - 1).toNatClampNeg)) mat mwell mwithin msum mbear (upd (upd (upd (upd (upd (upd mnames 0 x1) 1 r15) 2 r27) 3 (r39 / 10)) 4 r53) 5 ((mnow 57) - (mnow 57) / 10 * 10)) mletters mbegins mwords mdrifts mabove mbodies mtrace mran msorts mlengths mitems mmoved]) H := hP
          have hD : va_D A (fl [wdX8 kc m_o m_now m_mind m_then m_text m_rules m_sizes m_read m_names m_letters m_begins m_words m_drifts m_above m_bodies m_trace m_sorts m_lengths m_items m_moved mnow mmind mthen mkept mtext mtexted mrules msizes mruled (upd mread_117 (l3_117.toNatClampNeg) (mrules (((100 * ((mnow 58) - 1)) + l3_117).toNatClampNeg))) (msizes (((mnow 58) - 1).toNatClampNeg)) mat mwell mwithin msum mbear (upd (upd (upd (upd (upd (upd mnames 0 x1) 1 r15) 2 r27) 3 (r39 / 10)) 4 r53) 5 ((mnow 57) - (mnow 57) / 10 * 10)) mletters mbegins mwords mdrifts mabove mbodies mtrace mran msorts mlengths mitems mmoved]) := hD
          refine lv_iinc (v := l3_117 + 1) (lv' := [(3, .int (l3_117 + 1)), (0, .ref m_o), (2, .int ((mnow 58) - 1))]) hx hb dX8_readFor_142 hl (k := 2) rfl rfl (by decide) rfl (fun ls hl => ?_)
          refine lv_goto (tgt := 117) hx hb dX8_readFor_145 (by decide) ?_
          exact ih117 (l3_117 + 1) (upd mread_117 (l3_117.toNatClampNeg) (mrules (((100 * ((mnow 58) - 1)) + l3_117).toNatClampNeg))) hm _ _ hP hD hS _ (lv_sub hl [1, 2, 0] rfl)
    exact hL117 _ _ _ hm _ _ hP hD hS _ (lv_sub hl [2, 1, 0] rfl)
  · replace hm := it_t c80 hm
    refine lv_aload_n hx hb dX8_readFor_83 rfl (lv_at hl 0 rfl) ?_
    refine lv_iconst (v := 0) hx hb dX8_readFor_84 (by decide) ?_
    refine va_put (D := (dC, dI)) (ci := 8) (v := .int 0) (ty := .int) (C := RX8) (T := TX8) (N := 29) hx hb hts hinX8_readFor_X8 tyX8 tyX8_ok nmX8 hown hK hP hD hS 0 rfl rfl 14 (by decide) (hts _ (List.mem_of_getElem? (i := 3) rfl)) (fun _ h9 => h9) rfl (by decide +kernel) rfl rfl (Nat.le_of_ble_eq_true rfl) dX8_readFor_85 (fun H locs hP hD hS => ?_)
    have hP : va_P (dC, dI) vwCl (fl [wdX8 kc m_o m_now m_mind m_then m_text m_rules m_sizes m_read m_names m_letters m_begins m_words m_drifts m_above m_bodies m_trace m_sorts m_lengths m_items m_moved mnow mmind mthen mkept mtext mtexted mrules msizes mruled mread msize mat mwell mwithin 0 mbear (upd (upd (upd (upd (upd (upd mnames 0 x1) 1 r15) 2 r27) 3 (r39 / 10)) 4 r53) 5 ((mnow 57) - (mnow 57) / 10 * 10)) mletters mbegins mwords mdrifts mabove mbodies mtrace mran msorts mlengths mitems mmoved]) H := hP
    have hD : va_D A (fl [wdX8 kc m_o m_now m_mind m_then m_text m_rules m_sizes m_read m_names m_letters m_begins m_words m_drifts m_above m_bodies m_trace m_sorts m_lengths m_items m_moved mnow mmind mthen mkept mtext mtexted mrules msizes mruled mread msize mat mwell mwithin 0 mbear (upd (upd (upd (upd (upd (upd mnames 0 x1) 1 r15) 2 r27) 3 (r39 / 10)) 4 r53) 5 ((mnow 57) - (mnow 57) / 10 * 10)) mletters mbegins mwords mdrifts mabove mbodies mtrace mran msorts mlengths mitems mmoved]) := hD
    refine lv_aload_n hx hb dX8_readFor_88 rfl (lv_at hl 0 rfl) ?_
    refine lv_bipush (v := 6) hx hb dX8_readFor_89 (by decide) ?_
    refine va_put (D := (dC, dI)) (ci := 8) (v := .int 6) (ty := .int) (C := RX8) (T := TX8) (N := 29) hx hb hts hinX8_readFor_X8 tyX8 tyX8_ok nmX8 hown hK hP hD hS 0 rfl rfl 15 (by decide) (hts _ (List.mem_of_getElem? (i := 4) rfl)) (fun _ h9 => h9) rfl (by decide +kernel) rfl rfl (Nat.le_of_ble_eq_true rfl) dX8_readFor_91 (fun H locs hP hD hS => ?_)
    have hP : va_P (dC, dI) vwCl (fl [wdX8 kc m_o m_now m_mind m_then m_text m_rules m_sizes m_read m_names m_letters m_begins m_words m_drifts m_above m_bodies m_trace m_sorts m_lengths m_items m_moved mnow mmind mthen mkept mtext mtexted mrules msizes mruled mread msize mat mwell mwithin 0 6 (upd (upd (upd (upd (upd (upd mnames 0 x1) 1 r15) 2 r27) 3 (r39 / 10)) 4 r53) 5 ((mnow 57) - (mnow 57) / 10 * 10)) mletters mbegins mwords mdrifts mabove mbodies mtrace mran msorts mlengths mitems mmoved]) H := hP
    have hD : va_D A (fl [wdX8 kc m_o m_now m_mind m_then m_text m_rules m_sizes m_read m_names m_letters m_begins m_words m_drifts m_above m_bodies m_trace m_sorts m_lengths m_items m_moved mnow mmind mthen mkept mtext mtexted mrules msizes mruled mread msize mat mwell mwithin 0 6 (upd (upd (upd (upd (upd (upd mnames 0 x1) 1 r15) 2 r27) 3 (r39 / 10)) 4 r53) 5 ((mnow 57) - (mnow 57) / 10 * 10)) mletters mbegins mwords mdrifts mabove mbodies mtrace mran msorts mlengths mitems mmoved]) := hD
    cases hm
    exact k_vret hx hb hr hlocks hP hS dX8_readFor_94
def fX8_drift (fu : Nat) (mnow : Nat → Int32) (mrules : Nat → Int32) (msizes : Nat → Int32) (mread : Nat → Int32) (msize : Int32) (mat : Int32) (mwell : Int32) (mwithin : Int32) (msum : Int32) (mbear : Int32) (mnames : Nat → Int32) (mletters : Nat → Int32) (mbegins : Nat → Int32) (mwords : Nat → Int32) (x1 : Int32) : Option (Int32 × (Nat → Int32) × Int32 × Int32 × Int32 × Int32 × Int32 × Int32 × (Nat → Int32)) := bd8 (fX8_readFor fu mnow mrules msizes mread msize mat mwell mwithin msum mbear mnames mletters mbegins mwords x1) (fun mread_2 msize_2 mat_2 mwell_2 mwithin_2 msum_2 mbear_2 mnames_2 => bd1 (fX8_leavesOf fu mnow x1) (fun r11 => if r11 ≤ 0 then (if ((mnow 57) - (mnow 57) / 8 * 8) < 4 then (bd1 (fX8_number mnow x1 0) (fun r59 => if r59 = 1 then (some (msum_2 + 0, mread_2, msize_2, mat_2, mwell_2, mwithin_2, msum_2, mbear_2, mnames_2)) else (if r59 = 2 then (some (msum_2 / 2, mread_2, msize_2, mat_2, mwell_2, mwithin_2, msum_2, mbear_2, mnames_2)) else (if r59 = 3 then (some (msum_2, mread_2, msize_2, mat_2, mwell_2, mwithin_2, msum_2, mbear_2, mnames_2)) else (if r59 = 4 then (if ((mnow 57) - (mnow 57) / 2 * 2) = 0 then (some ((0 : Int32), mread_2, msize_2, mat_2, mwell_2, mwithin_2, msum_2, mbear_2, mnames_2)) else (some (msum_2 + 0, mread_2, msize_2, mat_2, mwell_2, mwithin_2, msum_2, mbear_2, mnames_2))) else (if r59 = 5 then (bd1 (fX8_leavesOf fu mnow x1) (fun r137 => some ((msum_2 / 2) + r137, mread_2, msize_2, mat_2, mwell_2, mwithin_2, msum_2, mbear_2, mnames_2))) else (if r59 = 6 then (bd1 (fX8_number mnow x1 (3 + ((mnow 57) - (mnow 57) / 4 * 4))) (fun r156 => some ((msum_2 + r156) - 4, mread_2, msize_2, mat_2, mwell_2, mwithin_2, msum_2, mbear_2, mnames_2))) else (some (msum_2, mread_2, msize_2, mat_2, mwell_2, mwithin_2, msum_2, mbear_2, mnames_2))))))))) else (bd1 (fX8_number mnow x1 0) (fun r59 => if r59 = 1 then (some (msum_2 + 0, mread_2, msize_2, mat_2, mwell_2, mwithin_2, msum_2, mbear_2, mnames_2)) else (if r59 = 2 then (some (msum_2 / 2, mread_2, msize_2, mat_2, mwell_2, mwithin_2, msum_2, mbear_2, mnames_2)) else (if r59 = 3 then (some (-msum_2, mread_2, msize_2, mat_2, mwell_2, mwithin_2, msum_2, mbear_2, mnames_2)) else (if r59 = 4 then (if ((mnow 57) - (mnow 57) / 2 * 2) = 0 then (some ((0 : Int32), mread_2, msize_2, mat_2, mwell_2, mwithin_2, msum_2, mbear_2, mnames_2)) else (some (msum_2 + 0, mread_2, msize_2, mat_2, mwell_2, mwithin_2, msum_2, mbear_2, mnames_2))) else (if r59 = 5 then (bd1 (fX8_leavesOf fu mnow x1) (fun r137 => some ((msum_2 / 2) + r137, mread_2, msize_2, mat_2, mwell_2, mwithin_2, msum_2, mbear_2, mnames_2))) else (if r59 = 6 then (bd1 (fX8_number mnow x1 (3 + ((mnow 57) - (mnow 57) / 4 * 4))) (fun r156 => some (((-msum_2) + r156) - 4, mread_2, msize_2, mat_2, mwell_2, mwithin_2, msum_2, mbear_2, mnames_2))) else (some (msum_2, mread_2, msize_2, mat_2, mwell_2, mwithin_2, msum_2, mbear_2, mnames_2)))))))))) else (bd1 (fX8_number mnow x1 1) (fun r20 => if ((mnow 57) - (mnow 57) / 8 * 8) < 4 then (bd1 (fX8_number mnow x1 0) (fun r59 => if r59 = 1 then (some (msum_2 + r20, mread_2, msize_2, mat_2, mwell_2, mwithin_2, msum_2, mbear_2, mnames_2)) else (if r59 = 2 then (some (msum_2 / 2, mread_2, msize_2, mat_2, mwell_2, mwithin_2, msum_2, mbear_2, mnames_2)) else (if r59 = 3 then (some (msum_2, mread_2, msize_2, mat_2, mwell_2, mwithin_2, msum_2, mbear_2, mnames_2)) else (if r59 = 4 then (if ((mnow 57) - (mnow 57) / 2 * 2) = 0 then (some ((0 : Int32), mread_2, msize_2, mat_2, mwell_2, mwithin_2, msum_2, mbear_2, mnames_2)) else (some (msum_2 + r20, mread_2, msize_2, mat_2, mwell_2, mwithin_2, msum_2, mbear_2, mnames_2))) else (if r59 = 5 then (bd1 (fX8_leavesOf fu mnow x1) (fun r137 => some ((msum_2 / 2) + r137, mread_2, msize_2, mat_2, mwell_2, mwithin_2, msum_2, mbear_2, mnames_2))) else (if r59 = 6 then (bd1 (fX8_number mnow x1 (3 + ((mnow 57) - (mnow 57) / 4 * 4))) (fun r156 => some ((msum_2 + r156) - 4, mread_2, msize_2, mat_2, mwell_2, mwithin_2, msum_2, mbear_2, mnames_2))) else (some (msum_2, mread_2, msize_2, mat_2, mwell_2, mwithin_2, msum_2, mbear_2, mnames_2))))))))) else (bd1 (fX8_number mnow x1 0) (fun r59 => if r59 = 1 then (some (msum_2 + r20, mread_2, msize_2, mat_2, mwell_2, mwithin_2, msum_2, mbear_2, mnames_2)) else (if r59 = 2 then (some (msum_2 / 2, mread_2, msize_2, mat_2, mwell_2, mwithin_2, msum_2, mbear_2, mnames_2)) else (if r59 = 3 then (some (-msum_2, mread_2, msize_2, mat_2, mwell_2, mwithin_2, msum_2, mbear_2, mnames_2)) else (if r59 = 4 then (if ((mnow 57) - (mnow 57) / 2 * 2) = 0 then (some ((0 : Int32), mread_2, msize_2, mat_2, mwell_2, mwithin_2, msum_2, mbear_2, mnames_2)) else (some (msum_2 + r20, mread_2, msize_2, mat_2, mwell_2, mwithin_2, msum_2, mbear_2, mnames_2))) else (if r59 = 5 then (bd1 (fX8_leavesOf fu mnow x1) (fun r137 => some ((msum_2 / 2) + r137, mread_2, msize_2, mat_2, mwell_2, mwithin_2, msum_2, mbear_2, mnames_2))) else (if r59 = 6 then (bd1 (fX8_number mnow x1 (3 + ((mnow 57) - (mnow 57) / 4 * 4))) (fun r156 => some (((-msum_2) + r156) - 4, mread_2, msize_2, mat_2, mwell_2, mwithin_2, msum_2, mbear_2, mnames_2))) else (some (msum_2, mread_2, msize_2, mat_2, mwell_2, mwithin_2, msum_2, mbear_2, mnames_2)))))))))))))
theorem hinX8_drift_X8 : ∀ w ∈ u_ws RX8 TX8 29, w ∈ wsX8_drift := fun _ h => List.mem_cons_of_mem _ (List.mem_append_right _ h)
abbrev rmX8_drift : Room := { frames := 257, cells := 0, slots := 0, locals := 6967 }
set_option maxHeartbeats 4000000 in
set_option maxRecDepth 100000 in
theorem ctX8_drift {l : Launch} {dC : Nat → ClassId} {dI : Nat → Nat → Nat} {kc : Nat → ClassId} {m_o m_now m_mind m_then m_text m_rules m_sizes m_read m_names m_letters m_begins m_words m_drifts m_above m_bodies m_trace m_sorts m_lengths m_items m_moved : Nat} {mnow : Nat → Int32} {mmind : Nat → Int32} {mthen : Nat → Int32} {mkept : Int32} {mtext : Nat → Int32} {mtexted : Int32} {mrules : Nat → Int32} {msizes : Nat → Int32} {mruled : Int32} {mread : Nat → Int32} {msize : Int32} {mat : Int32} {mwell : Int32} {mwithin : Int32} {msum : Int32} {mbear : Int32} {mnames : Nat → Int32} {mletters : Nat → Int32} {mbegins : Nat → Int32} {mwords : Nat → Int32} {mdrifts : Nat → Int32} {mabove : Nat → Int32} {mbodies : Nat → Int32} {mtrace : Nat → Int32} {mran : Int32} {msorts : Nat → Int32} {mlengths : Nat → Int32} {mitems : Nat → Int64} {mmoved : Nat → Int64} {x1 : Int32} {fu : Nat} {r : Int32} {mread' : Nat → Int32} {msize' : Int32} {mat' : Int32} {mwell' : Int32} {mwithin' : Int32} {msum' : Int32} {mbear' : Int32} {mnames' : Nat → Int32} (hm : fX8_drift fu mnow mrules msizes mread msize mat mwell mwithin msum mbear mnames mletters mbegins mwords x1 = some (r, mread', msize', mat', mwell', mwithin', msum', mbear', mnames')) : ∀ sz : Nat, Met l yX8_drift wsX8_drift rmX8_drift (kPc dC dI kc [.ref m_o, .int x1] (fl [wdX8 kc m_o m_now m_mind m_then m_text m_rules m_sizes m_read m_names m_letters m_begins m_words m_drifts m_above m_bodies m_trace m_sorts m_lengths m_items m_moved mnow mmind mthen mkept mtext mtexted mrules msizes mruled mread msize mat mwell mwithin msum mbear mnames mletters mbegins mwords mdrifts mabove mbodies mtrace mran msorts mlengths mitems mmoved]) sz) (kQi dC dI r (fl [wdX8 kc m_o m_now m_mind m_then m_text m_rules m_sizes m_read m_names m_letters m_begins m_words m_drifts m_above m_bodies m_trace m_sorts m_lengths m_items m_moved mnow mmind mthen mkept mtext mtexted mrules msizes mruled mread' msize' mat' mwell' mwithin' msum' mbear' mnames' mletters mbegins mwords mdrifts mabove mbodies mtrace mran msorts mlengths mitems mmoved]) (va_A (fl [wdX8 kc m_o m_now m_mind m_then m_text m_rules m_sizes m_read m_names m_letters m_begins m_words m_drifts m_above m_bodies m_trace m_sorts m_lengths m_items m_moved mnow mmind mthen mkept mtext mtexted mrules msizes mruled mread msize mat mwell mwithin msum mbear mnames mletters mbegins mwords mdrifts mabove mbodies mtrace mran msorts mlengths mitems mmoved]) sz)) 0 0 (va_A (fl [wdX8 kc m_o m_now m_mind m_then m_text m_rules m_sizes m_read m_names m_letters m_begins m_words m_drifts m_above m_bodies m_trace m_sorts m_lengths m_items m_moved mnow mmind mthen mkept mtext mtexted mrules msizes mruled mread msize mat mwell mwithin msum mbear mnames mletters mbegins mwords mdrifts mabove mbodies mtrace mran msorts mlengths mitems mmoved]) sz) := by
  intro sz
  refine kMet (cc := cX8_drift) (maxL := 4) (ret := (some .int)) (Qf := fun A => kQi dC dI r (fl [wdX8 kc m_o m_now m_mind m_then m_text m_rules m_sizes m_read m_names m_letters m_begins m_words m_drifts m_above m_bodies m_trace m_sorts m_lengths m_items m_moved mnow mmind mthen mkept mtext mtexted mrules msizes mruled mread' msize' mat' mwell' mwithin' msum' mbear' mnames' mletters mbegins mwords mdrifts mabove mbodies mtrace mran msorts mlengths mitems mmoved]) A) (by decide) rfl (Nat.le_of_ble_eq_true rfl) ?_
  intro p e s m below meth c A ls hx hb hr hml hts hown hlocks hname hsz hA hP hK hD hl
  have hS : va_S A s.heap s.heap [] := va_S.rf
  have hl : lv_has ls 4 [(0, .ref m_o), (1, .int x1)] := hl
  unfold fX8_drift at hm
  refine lv_aload_n hx hb dX8_drift_0 rfl (lv_at hl 0 rfl) ?_
  refine lv_iload_n hx hb dX8_drift_1 rfl (lv_at hl 1 rfl) ?_
  obtain ⟨mread_2, msize_2, mat_2, mwell_2, mwithin_2, msum_2, mbear_2, mnames_2, hc2, hm⟩ := bd8_e hm
  refine k_callGVv (dC := dC) (dI := dI) (kc := kc) (As := [.int x1]) (rest := []) (Gs' := [wdX8 kc m_o m_now m_mind m_then m_text m_rules m_sizes m_read m_names m_letters m_begins m_words m_drifts m_above m_bodies m_trace m_sorts m_lengths m_items m_moved mnow mmind mthen mkept mtext mtexted mrules msizes mruled mread_2 msize_2 mat_2 mwell_2 mwithin_2 msum_2 mbear_2 mnames_2 mletters mbegins mwords mdrifts mabove mbodies mtrace mran msorts mlengths mitems mmoved]) hx hb hml hown hts hK hP hD hS hA (ctX8_readFor (m_o := m_o) (m_now := m_now) (m_mind := m_mind) (m_then := m_then) (m_text := m_text) (m_rules := m_rules) (m_sizes := m_sizes) (m_read := m_read) (m_names := m_names) (m_letters := m_letters) (m_begins := m_begins) (m_words := m_words) (m_drifts := m_drifts) (m_above := m_above) (m_bodies := m_bodies) (m_trace := m_trace) (m_sorts := m_sorts) (m_lengths := m_lengths) (m_items := m_items) (m_moved := m_moved) (mnow := mnow) (mmind := mmind) (mthen := mthen) (mkept := mkept) (mtext := mtext) (mtexted := mtexted) (mrules := mrules) (msizes := msizes) (mruled := mruled) (mread := mread) (msize := msize) (mat := mat) (mwell := mwell) (mwithin := mwithin) (msum := msum) (mbear := mbear) (mnames := mnames) (mletters := mletters) (mbegins := mbegins) (mwords := mwords) (mdrifts := mdrifts) (mabove := mabove) (mbodies := mbodies) (mtrace := mtrace) (mran := mran) (msorts := msorts) (mlengths := mlengths) (mitems := mitems) (mmoved := mmoved) (x1 := x1) hc2) (cwV 1 hts gX8_drift_X8_readFor rfl rfl rfl (by decide +kernel) ⟨Nat.le_of_ble_eq_true rfl, Nat.le_of_ble_eq_true rfl⟩) [0] rfl (by decide) 8 rfl rfl rfl rfl hl rfl (Nat.le_of_ble_eq_true rfl) dX8_drift_2 ⟨Nat.zero_le _, Nat.zero_le _⟩ rfl rfl rfl (fun H locs hP hD hS => ?_)
  refine lv_aload_n hx hb dX8_drift_5 rfl (lv_at hl 0 rfl) ?_
  refine va_get (D := (dC, dI)) (ci := 8) (v := .int msum_2) (C := RX8) (T := TX8) (N := 29) hx hb hts hinX8_drift_X8 hown hK hP 0 rfl rfl 14 (by decide) (hts _ (List.mem_of_getElem? (i := 1) rfl)) (fun _ h9 => h9) rfl dX8_drift_6 ?_
  refine lv_aload_n hx hb dX8_drift_9 rfl (lv_at hl 0 rfl) ?_
  refine lv_iload_n hx hb dX8_drift_10 rfl (lv_at hl 1 rfl) ?_
  obtain ⟨r11, hc11, hm⟩ := bd1_e hm
  refine k_callGVi (dC := dC) (dI := dI) (kc := kc) (As := [.int x1]) (rest := [.int msum_2]) (Gs' := [wdX8 kc m_o m_now m_mind m_then m_text m_rules m_sizes m_read m_names m_letters m_begins m_words m_drifts m_above m_bodies m_trace m_sorts m_lengths m_items m_moved mnow mmind mthen mkept mtext mtexted mrules msizes mruled mread_2 msize_2 mat_2 mwell_2 mwithin_2 msum_2 mbear_2 mnames_2 mletters mbegins mwords mdrifts mabove mbodies mtrace mran msorts mlengths mitems mmoved]) hx hb hml hown hts hK hP hD hS hA (ctX8_leavesOf (m_o := m_o) (m_now := m_now) (m_mind := m_mind) (m_then := m_then) (m_text := m_text) (m_rules := m_rules) (m_sizes := m_sizes) (m_read := m_read) (m_names := m_names) (m_letters := m_letters) (m_begins := m_begins) (m_words := m_words) (m_drifts := m_drifts) (m_above := m_above) (m_bodies := m_bodies) (m_trace := m_trace) (m_sorts := m_sorts) (m_lengths := m_lengths) (m_items := m_items) (m_moved := m_moved) (mnow := mnow) (mmind := mmind) (mthen := mthen) (mkept := mkept) (mtext := mtext) (mtexted := mtexted) (mrules := mrules) (msizes := msizes) (mruled := mruled) (mread := mread_2) (msize := msize_2) (mat := mat_2) (mwell := mwell_2) (mwithin := mwithin_2) (msum := msum_2) (mbear := mbear_2) (mnames := mnames_2) (mletters := mletters) (mbegins := mbegins) (mwords := mwords) (mdrifts := mdrifts) (mabove := mabove) (mbodies := mbodies) (mtrace := mtrace) (mran := mran) (msorts := msorts) (mlengths := mlengths) (mitems := mitems) (mmoved := mmoved) (x1 := x1) hc11) (cwV 1 hts gX8_drift_X8_leavesOf rfl rfl rfl (by decide +kernel) ⟨Nat.le_of_ble_eq_true rfl, Nat.le_of_ble_eq_true rfl⟩) [0] rfl (by decide) 8 rfl rfl rfl rfl hl rfl (Nat.le_of_ble_eq_true rfl) dX8_drift_11 ⟨Nat.zero_le _, Nat.zero_le _⟩ rfl rfl rfl (fun H locs hP hD hS => ?_)
  refine lv_if_le (tgt := 26) hx hb dX8_drift_14 (by decide) (fun c14 => ?_) (fun c14 => ?_)
  · replace hm := it_t c14 hm
    refine lv_iconst (v := 0) hx hb dX8_drift_26 (by decide) ?_
    refine lv_iadd hx hb dX8_drift_27 ?_
    refine lv_istore_n (lv' := [(2, .int (msum_2 + 0)), (0, .ref m_o), (1, .int x1)]) hx hb dX8_drift_28 rfl hl (by decide) rfl (fun ls hl => ?_)
    refine lv_aload_n hx hb dX8_drift_29 rfl (lv_at hl 1 rfl) ?_
    refine va_get (D := (dC, dI)) (ci := 8) (v := .ref m_now) (C := RX8) (T := TX8) (N := 29) hx hb hts hinX8_drift_X8 hown hK hP 0 rfl rfl 0 (by decide) (hts _ (List.mem_of_getElem? (i := 2) rfl)) (fun _ h9 => h9) rfl dX8_drift_30 ?_
    refine lv_bipush (v := 57) hx hb dX8_drift_33 (by decide) ?_
    refine k_iald (D := (dC, dI)) hx hb hK hP 1 1 rfl rfl (k := 57) (by decide) (show ¬ ((57 : Int32) < 0 ∨ 113 ≤ (57 : Int32).toNatClampNeg) from by decide) dX8_drift_35 ?_
    refine lv_bipush (v := 8) hx hb dX8_drift_36 (by decide) ?_
    refine lv_irem hx hb dX8_drift_38 (by decide) ?_
    refine lv_iconst (v := 4) hx hb dX8_drift_39 (by decide) ?_
    refine lv_icmp_lt (tgt := 51) hx hb dX8_drift_40 (by decide) (fun c40 => ?_) (fun c40 => ?_)
    · replace hm := it_t c40 hm
      refine lv_aload_n hx hb dX8_drift_51 rfl (lv_at hl 1 rfl) ?_
      refine va_get (D := (dC, dI)) (ci := 8) (v := .int msum_2) (C := RX8) (T := TX8) (N := 29) hx hb hts hinX8_drift_X8 hown hK hP 0 rfl rfl 14 (by decide) (hts _ (List.mem_of_getElem? (i := 1) rfl)) (fun _ h9 => h9) rfl dX8_drift_52 ?_
      refine lv_istore_n (lv' := [(3, .int msum_2), (2, .int (msum_2 + 0)), (0, .ref m_o), (1, .int x1)]) hx hb dX8_drift_55 rfl hl (by decide) rfl (fun ls hl => ?_)
      refine lv_aload_n hx hb dX8_drift_56 rfl (lv_at hl 2 rfl) ?_
      refine lv_iload_n hx hb dX8_drift_57 rfl (lv_at hl 3 rfl) ?_
      refine lv_iconst (v := 0) hx hb dX8_drift_58 (by decide) ?_
      obtain ⟨r59, hc59, hm⟩ := bd1_e hm
      refine k_callGVi (dC := dC) (dI := dI) (kc := kc) (As := [.int x1, .int 0]) (rest := []) (Gs' := [wdX8 kc m_o m_now m_mind m_then m_text m_rules m_sizes m_read m_names m_letters m_begins m_words m_drifts m_above m_bodies m_trace m_sorts m_lengths m_items m_moved mnow mmind mthen mkept mtext mtexted mrules msizes mruled mread_2 msize_2 mat_2 mwell_2 mwithin_2 msum_2 mbear_2 mnames_2 mletters mbegins mwords mdrifts mabove mbodies mtrace mran msorts mlengths mitems mmoved]) hx hb hml hown hts hK hP hD hS hA (ctX8_number (m_o := m_o) (m_now := m_now) (m_mind := m_mind) (m_then := m_then) (m_text := m_text) (m_rules := m_rules) (m_sizes := m_sizes) (m_read := m_read) (m_names := m_names) (m_letters := m_letters) (m_begins := m_begins) (m_words := m_words) (m_drifts := m_drifts) (m_above := m_above) (m_bodies := m_bodies) (m_trace := m_trace) (m_sorts := m_sorts) (m_lengths := m_lengths) (m_items := m_items) (m_moved := m_moved) (mnow := mnow) (mmind := mmind) (mthen := mthen) (mkept := mkept) (mtext := mtext) (mtexted := mtexted) (mrules := mrules) (msizes := msizes) (mruled := mruled) (mread := mread_2) (msize := msize_2) (mat := mat_2) (mwell := mwell_2) (mwithin := mwithin_2) (msum := msum_2) (mbear := mbear_2) (mnames := mnames_2) (mletters := mletters) (mbegins := mbegins) (mwords := mwords) (mdrifts := mdrifts) (mabove := mabove) (mbodies := mbodies) (mtrace := mtrace) (mran := mran) (msorts := msorts) (mlengths := mlengths) (mitems := mitems) (mmoved := mmoved) (x1 := x1) (x2 := 0) hc59) (cwV 2 hts gX8_drift_X8_number rfl rfl rfl (by decide +kernel) ⟨Nat.le_of_ble_eq_true rfl, Nat.le_of_ble_eq_true rfl⟩) [0] rfl (by decide) 8 rfl rfl rfl rfl hl rfl (Nat.le_of_ble_eq_true rfl) dX8_drift_59 ⟨Nat.zero_le _, Nat.zero_le _⟩ rfl rfl rfl (fun H locs hP hD hS => ?_)
      by_cases cs62_0 : r59 = 1
      · replace hm := it_t cs62_0 hm
        refine lv_tableIn (off := 38) (tgt := 100) hx hb dX8_drift_62 (by rw [cs62_0]; decide) (by rw [cs62_0]; decide) (by rw [cs62_0]; rfl) (by decide) ?_
        refine lv_iload_n hx hb dX8_drift_100 rfl (lv_at hl 1 rfl) ?_
        cases hm
        exact k_iret hx hb hr hlocks hP hS dX8_drift_101
      replace hm := it_f cs62_0 hm
      by_cases cs62_1 : r59 = 2
      · replace hm := it_t cs62_1 hm
        refine lv_tableIn (off := 40) (tgt := 102) hx hb dX8_drift_62 (by rw [cs62_1]; decide) (by rw [cs62_1]; decide) (by rw [cs62_1]; rfl) (by decide) ?_
        refine lv_aload_n hx hb dX8_drift_102 rfl (lv_at hl 2 rfl) ?_
        refine va_get (D := (dC, dI)) (ci := 8) (v := .int msum_2) (C := RX8) (T := TX8) (N := 29) hx hb hts hinX8_drift_X8 hown hK hP 0 rfl rfl 14 (by decide) (hts _ (List.mem_of_getElem? (i := 1) rfl)) (fun _ h9 => h9) rfl dX8_drift_103 ?_
        refine lv_iconst (v := 2) hx hb dX8_drift_106 (by decide) ?_
        refine lv_idiv hx hb dX8_drift_107 (by decide) ?_
        cases hm
        exact k_iret hx hb hr hlocks hP hS dX8_drift_108
      replace hm := it_f cs62_1 hm
      by_cases cs62_2 : r59 = 3
      · replace hm := it_t cs62_2 hm
        refine lv_tableIn (off := 47) (tgt := 109) hx hb dX8_drift_62 (by rw [cs62_2]; decide) (by rw [cs62_2]; decide) (by rw [cs62_2]; rfl) (by decide) ?_
        refine lv_iload_n hx hb dX8_drift_109 rfl (lv_at hl 0 rfl) ?_
        cases hm
        exact k_iret hx hb hr hlocks hP hS dX8_drift_110
      replace hm := it_f cs62_2 hm
      by_cases cs62_3 : r59 = 4
      · replace hm := it_t cs62_3 hm
        refine lv_tableIn (off := 49) (tgt := 111) hx hb dX8_drift_62 (by rw [cs62_3]; decide) (by rw [cs62_3]; decide) (by rw [cs62_3]; rfl) (by decide) ?_
        refine lv_aload_n hx hb dX8_drift_111 rfl (lv_at hl 2 rfl) ?_
        refine va_get (D := (dC, dI)) (ci := 8) (v := .ref m_now) (C := RX8) (T := TX8) (N := 29) hx hb hts hinX8_drift_X8 hown hK hP 0 rfl rfl 0 (by decide) (hts _ (List.mem_of_getElem? (i := 2) rfl)) (fun _ h9 => h9) rfl dX8_drift_112 ?_
        refine lv_bipush (v := 57) hx hb dX8_drift_115 (by decide) ?_
        refine k_iald (D := (dC, dI)) hx hb hK hP 1 1 rfl rfl (k := 57) (by decide) (show ¬ ((57 : Int32) < 0 ∨ 113 ≤ (57 : Int32).toNatClampNeg) from by decide) dX8_drift_117 ?_
        refine lv_iconst (v := 2) hx hb dX8_drift_118 (by decide) ?_
        refine lv_irem hx hb dX8_drift_119 (by decide) ?_
        refine lv_if_ne (tgt := 127) hx hb dX8_drift_120 (by decide) (fun c120 => ?_) (fun c120 => ?_)
        · replace hm := it_f c120 hm
          refine lv_iload_n hx hb dX8_drift_127 rfl (lv_at hl 1 rfl) ?_
          cases hm
          exact k_iret hx hb hr hlocks hP hS dX8_drift_128
        · replace hm := it_t c120 hm
          refine lv_iconst (v := 0) hx hb dX8_drift_123 (by decide) ?_
          refine lv_goto (tgt := 128) hx hb dX8_drift_124 (by decide) ?_
          cases hm
          exact k_iret hx hb hr hlocks hP hS dX8_drift_128
      replace hm := it_f cs62_3 hm
      by_cases cs62_4 : r59 = 5
      · replace hm := it_t cs62_4 hm
        refine lv_tableIn (off := 67) (tgt := 129) hx hb dX8_drift_62 (by rw [cs62_4]; decide) (by rw [cs62_4]; decide) (by rw [cs62_4]; rfl) (by decide) ?_
        refine lv_aload_n hx hb dX8_drift_129 rfl (lv_at hl 2 rfl) ?_
        refine va_get (D := (dC, dI)) (ci := 8) (v := .int msum_2) (C := RX8) (T := TX8) (N := 29) hx hb hts hinX8_drift_X8 hown hK hP 0 rfl rfl 14 (by decide) (hts _ (List.mem_of_getElem? (i := 1) rfl)) (fun _ h9 => h9) rfl dX8_drift_130 ?_
        refine lv_iconst (v := 2) hx hb dX8_drift_133 (by decide) ?_
        refine lv_idiv hx hb dX8_drift_134 (by decide) ?_
        refine lv_aload_n hx hb dX8_drift_135 rfl (lv_at hl 2 rfl) ?_
        refine lv_iload_n hx hb dX8_drift_136 rfl (lv_at hl 3 rfl) ?_
        obtain ⟨r137, hc137, hm⟩ := bd1_e hm
        refine k_callGVi (dC := dC) (dI := dI) (kc := kc) (As := [.int x1]) (rest := [.int (msum_2 / 2)]) (Gs' := [wdX8 kc m_o m_now m_mind m_then m_text m_rules m_sizes m_read m_names m_letters m_begins m_words m_drifts m_above m_bodies m_trace m_sorts m_lengths m_items m_moved mnow mmind mthen mkept mtext mtexted mrules msizes mruled mread_2 msize_2 mat_2 mwell_2 mwithin_2 msum_2 mbear_2 mnames_2 mletters mbegins mwords mdrifts mabove mbodies mtrace mran msorts mlengths mitems mmoved]) hx hb hml hown hts hK hP hD hS hA (ctX8_leavesOf (m_o := m_o) (m_now := m_now) (m_mind := m_mind) (m_then := m_then) (m_text := m_text) (m_rules := m_rules) (m_sizes := m_sizes) (m_read := m_read) (m_names := m_names) (m_letters := m_letters) (m_begins := m_begins) (m_words := m_words) (m_drifts := m_drifts) (m_above := m_above) (m_bodies := m_bodies) (m_trace := m_trace) (m_sorts := m_sorts) (m_lengths := m_lengths) (m_items := m_items) (m_moved := m_moved) (mnow := mnow) (mmind := mmind) (mthen := mthen) (mkept := mkept) (mtext := mtext) (mtexted := mtexted) (mrules := mrules) (msizes := msizes) (mruled := mruled) (mread := mread_2) (msize := msize_2) (mat := mat_2) (mwell := mwell_2) (mwithin := mwithin_2) (msum := msum_2) (mbear := mbear_2) (mnames := mnames_2) (mletters := mletters) (mbegins := mbegins) (mwords := mwords) (mdrifts := mdrifts) (mabove := mabove) (mbodies := mbodies) (mtrace := mtrace) (mran := mran) (msorts := msorts) (mlengths := mlengths) (mitems := mitems) (mmoved := mmoved) (x1 := x1) hc137) (cwV 1 hts gX8_drift_X8_leavesOf rfl rfl rfl (by decide +kernel) ⟨Nat.le_of_ble_eq_true rfl, Nat.le_of_ble_eq_true rfl⟩) [0] rfl (by decide) 8 rfl rfl rfl rfl hl rfl (Nat.le_of_ble_eq_true rfl) dX8_drift_137 ⟨Nat.zero_le _, Nat.zero_le _⟩ rfl rfl rfl (fun H locs hP hD hS => ?_)
        refine lv_iadd hx hb dX8_drift_140 ?_
        cases hm
        exact k_iret hx hb hr hlocks hP hS dX8_drift_141
      replace hm := it_f cs62_4 hm
      by_cases cs62_5 : r59 = 6
      · replace hm := it_t cs62_5 hm
        refine lv_tableIn (off := 80) (tgt := 142) hx hb dX8_drift_62 (by rw [cs62_5]; decide) (by rw [cs62_5]; decide) (by rw [cs62_5]; rfl) (by decide) ?_
        refine lv_iload_n hx hb dX8_drift_142 rfl (lv_at hl 0 rfl) ?_
        refine lv_aload_n hx hb dX8_drift_143 rfl (lv_at hl 2 rfl) ?_
        refine lv_iload_n hx hb dX8_drift_144 rfl (lv_at hl 3 rfl) ?_
        refine lv_iconst (v := 3) hx hb dX8_drift_145 (by decide) ?_
        refine lv_aload_n hx hb dX8_drift_146 rfl (lv_at hl 2 rfl) ?_
        refine va_get (D := (dC, dI)) (ci := 8) (v := .ref m_now) (C := RX8) (T := TX8) (N := 29) hx hb hts hinX8_drift_X8 hown hK hP 0 rfl rfl 0 (by decide) (hts _ (List.mem_of_getElem? (i := 2) rfl)) (fun _ h9 => h9) rfl dX8_drift_147 ?_
        refine lv_bipush (v := 57) hx hb dX8_drift_150 (by decide) ?_
        refine k_iald (D := (dC, dI)) hx hb hK hP 1 1 rfl rfl (k := 57) (by decide) (show ¬ ((57 : Int32) < 0 ∨ 113 ≤ (57 : Int32).toNatClampNeg) from by decide) dX8_drift_152 ?_
        refine lv_iconst (v := 4) hx hb dX8_drift_153 (by decide) ?_
        refine lv_irem hx hb dX8_drift_154 (by decide) ?_
        refine lv_iadd hx hb dX8_drift_155 ?_
        obtain ⟨r156, hc156, hm⟩ := bd1_e hm
        refine k_callGVi (dC := dC) (dI := dI) (kc := kc) (As := [.int x1, .int (3 + ((mnow 57) - (mnow 57) / 4 * 4))]) (rest := [.int msum_2]) (Gs' := [wdX8 kc m_o m_now m_mind m_then m_text m_rules m_sizes m_read m_names m_letters m_begins m_words m_drifts m_above m_bodies m_trace m_sorts m_lengths m_items m_moved mnow mmind mthen mkept mtext mtexted mrules msizes mruled mread_2 msize_2 mat_2 mwell_2 mwithin_2 msum_2 mbear_2 mnames_2 mletters mbegins mwords mdrifts mabove mbodies mtrace mran msorts mlengths mitems mmoved]) hx hb hml hown hts hK hP hD hS hA (ctX8_number (m_o := m_o) (m_now := m_now) (m_mind := m_mind) (m_then := m_then) (m_text := m_text) (m_rules := m_rules) (m_sizes := m_sizes) (m_read := m_read) (m_names := m_names) (m_letters := m_letters) (m_begins := m_begins) (m_words := m_words) (m_drifts := m_drifts) (m_above := m_above) (m_bodies := m_bodies) (m_trace := m_trace) (m_sorts := m_sorts) (m_lengths := m_lengths) (m_items := m_items) (m_moved := m_moved) (mnow := mnow) (mmind := mmind) (mthen := mthen) (mkept := mkept) (mtext := mtext) (mtexted := mtexted) (mrules := mrules) (msizes := msizes) (mruled := mruled) (mread := mread_2) (msize := msize_2) (mat := mat_2) (mwell := mwell_2) (mwithin := mwithin_2) (msum := msum_2) (mbear := mbear_2) (mnames := mnames_2) (mletters := mletters) (mbegins := mbegins) (mwords := mwords) (mdrifts := mdrifts) (mabove := mabove) (mbodies := mbodies) (mtrace := mtrace) (mran := mran) (msorts := msorts) (mlengths := mlengths) (mitems := mitems) (mmoved := mmoved) (x1 := x1) (x2 := 3 + ((mnow 57) - (mnow 57) / 4 * 4)) hc156) (cwV 2 hts gX8_drift_X8_number rfl rfl rfl (by decide +kernel) ⟨Nat.le_of_ble_eq_true rfl, Nat.le_of_ble_eq_true rfl⟩) [0] rfl (by decide) 8 rfl rfl rfl rfl hl rfl (Nat.le_of_ble_eq_true rfl) dX8_drift_156 ⟨Nat.zero_le _, Nat.zero_le _⟩ rfl rfl rfl (fun H locs hP hD hS => ?_)
        refine lv_iadd hx hb dX8_drift_159 ?_
        refine lv_iconst (v := 4) hx hb dX8_drift_160 (by decide) ?_
        refine lv_isub hx hb dX8_drift_161 ?_
        cases hm
        exact k_iret hx hb hr hlocks hP hS dX8_drift_162
      replace hm := it_f cs62_5 hm
      have nt62_0 := lv_neT (k := 1) (a := 1) cs62_0 (by decide)
      have nt62_1 := lv_neT (k := 2) (a := 2) cs62_1 (by decide)
      have nt62_2 := lv_neT (k := 3) (a := 3) cs62_2 (by decide)
      have nt62_3 := lv_neT (k := 4) (a := 4) cs62_3 (by decide)
      have nt62_4 := lv_neT (k := 5) (a := 5) cs62_4 (by decide)
      have nt62_5 := lv_neT (k := 6) (a := 6) cs62_5 (by decide)
      refine lv_tableOut (tgt := 163) hx hb dX8_drift_62 (by omega) (by decide) ?_
      refine lv_aload_n hx hb dX8_drift_163 rfl (lv_at hl 2 rfl) ?_
      refine va_get (D := (dC, dI)) (ci := 8) (v := .int msum_2) (C := RX8) (T := TX8) (N := 29) hx hb hts hinX8_drift_X8 hown hK hP 0 rfl rfl 14 (by decide) (hts _ (List.mem_of_getElem? (i := 1) rfl)) (fun _ h9 => h9) rfl dX8_drift_164 ?_
      cases hm
      exact k_iret hx hb hr hlocks hP hS dX8_drift_167
    · replace hm := it_f c40 hm
      refine lv_aload_n hx hb dX8_drift_43 rfl (lv_at hl 1 rfl) ?_
      refine va_get (D := (dC, dI)) (ci := 8) (v := .int msum_2) (C := RX8) (T := TX8) (N := 29) hx hb hts hinX8_drift_X8 hown hK hP 0 rfl rfl 14 (by decide) (hts _ (List.mem_of_getElem? (i := 1) rfl)) (fun _ h9 => h9) rfl dX8_drift_44 ?_
      refine lv_ineg hx hb dX8_drift_47 ?_
      refine lv_goto (tgt := 55) hx hb dX8_drift_48 (by decide) ?_
      refine lv_istore_n (lv' := [(3, .int (-msum_2)), (2, .int (msum_2 + 0)), (0, .ref m_o), (1, .int x1)]) hx hb dX8_drift_55 rfl hl (by decide) rfl (fun ls hl => ?_)
      refine lv_aload_n hx hb dX8_drift_56 rfl (lv_at hl 2 rfl) ?_
      refine lv_iload_n hx hb dX8_drift_57 rfl (lv_at hl 3 rfl) ?_
      refine lv_iconst (v := 0) hx hb dX8_drift_58 (by decide) ?_
      obtain ⟨r59, hc59, hm⟩ := bd1_e hm
      refine k_callGVi (dC := dC) (dI := dI) (kc := kc) (As := [.int x1, .int 0]) (rest := []) (Gs' := [wdX8 kc m_o m_now m_mind m_then m_text m_rules m_sizes m_read m_names m_letters m_begins m_words m_drifts m_above m_bodies m_trace m_sorts m_lengths m_items m_moved mnow mmind mthen mkept mtext mtexted mrules msizes mruled mread_2 msize_2 mat_2 mwell_2 mwithin_2 msum_2 mbear_2 mnames_2 mletters mbegins mwords mdrifts mabove mbodies mtrace mran msorts mlengths mitems mmoved]) hx hb hml hown hts hK hP hD hS hA (ctX8_number (m_o := m_o) (m_now := m_now) (m_mind := m_mind) (m_then := m_then) (m_text := m_text) (m_rules := m_rules) (m_sizes := m_sizes) (m_read := m_read) (m_names := m_names) (m_letters := m_letters) (m_begins := m_begins) (m_words := m_words) (m_drifts := m_drifts) (m_above := m_above) (m_bodies := m_bodies) (m_trace := m_trace) (m_sorts := m_sorts) (m_lengths := m_lengths) (m_items := m_items) (m_moved := m_moved) (mnow := mnow) (mmind := mmind) (mthen := mthen) (mkept := mkept) (mtext := mtext) (mtexted := mtexted) (mrules := mrules) (msizes := msizes) (mruled := mruled) (mread := mread_2) (msize := msize_2) (mat := mat_2) (mwell := mwell_2) (mwithin := mwithin_2) (msum := msum_2) (mbear := mbear_2) (mnames := mnames_2) (mletters := mletters) (mbegins := mbegins) (mwords := mwords) (mdrifts := mdrifts) (mabove := mabove) (mbodies := mbodies) (mtrace := mtrace) (mran := mran) (msorts := msorts) (mlengths := mlengths) (mitems := mitems) (mmoved := mmoved) (x1 := x1) (x2 := 0) hc59) (cwV 2 hts gX8_drift_X8_number rfl rfl rfl (by decide +kernel) ⟨Nat.le_of_ble_eq_true rfl, Nat.le_of_ble_eq_true rfl⟩) [0] rfl (by decide) 8 rfl rfl rfl rfl hl rfl (Nat.le_of_ble_eq_true rfl) dX8_drift_59 ⟨Nat.zero_le _, Nat.zero_le _⟩ rfl rfl rfl (fun H locs hP hD hS => ?_)
      by_cases cs62_0 : r59 = 1
      · replace hm := it_t cs62_0 hm
        refine lv_tableIn (off := 38) (tgt := 100) hx hb dX8_drift_62 (by rw [cs62_0]; decide) (by rw [cs62_0]; decide) (by rw [cs62_0]; rfl) (by decide) ?_
        refine lv_iload_n hx hb dX8_drift_100 rfl (lv_at hl 1 rfl) ?_
        cases hm
        exact k_iret hx hb hr hlocks hP hS dX8_drift_101
      replace hm := it_f cs62_0 hm
      by_cases cs62_1 : r59 = 2
      · replace hm := it_t cs62_1 hm
        refine lv_tableIn (off := 40) (tgt := 102) hx hb dX8_drift_62 (by rw [cs62_1]; decide) (by rw [cs62_1]; decide) (by rw [cs62_1]; rfl) (by decide) ?_
        refine lv_aload_n hx hb dX8_drift_102 rfl (lv_at hl 2 rfl) ?_
        refine va_get (D := (dC, dI)) (ci := 8) (v := .int msum_2) (C := RX8) (T := TX8) (N := 29) hx hb hts hinX8_drift_X8 hown hK hP 0 rfl rfl 14 (by decide) (hts _ (List.mem_of_getElem? (i := 1) rfl)) (fun _ h9 => h9) rfl dX8_drift_103 ?_
        refine lv_iconst (v := 2) hx hb dX8_drift_106 (by decide) ?_
        refine lv_idiv hx hb dX8_drift_107 (by decide) ?_
        cases hm
        exact k_iret hx hb hr hlocks hP hS dX8_drift_108
      replace hm := it_f cs62_1 hm
      by_cases cs62_2 : r59 = 3
      · replace hm := it_t cs62_2 hm
        refine lv_tableIn (off := 47) (tgt := 109) hx hb dX8_drift_62 (by rw [cs62_2]; decide) (by rw [cs62_2]; decide) (by rw [cs62_2]; rfl) (by decide) ?_
        refine lv_iload_n hx hb dX8_drift_109 rfl (lv_at hl 0 rfl) ?_
        cases hm
        exact k_iret hx hb hr hlocks hP hS dX8_drift_110
      replace hm := it_f cs62_2 hm
      by_cases cs62_3 : r59 = 4
      · replace hm := it_t cs62_3 hm
        refine lv_tableIn (off := 49) (tgt := 111) hx hb dX8_drift_62 (by rw [cs62_3]; decide) (by rw [cs62_3]; decide) (by rw [cs62_3]; rfl) (by decide) ?_
        refine lv_aload_n hx hb dX8_drift_111 rfl (lv_at hl 2 rfl) ?_
        refine va_get (D := (dC, dI)) (ci := 8) (v := .ref m_now) (C := RX8) (T := TX8) (N := 29) hx hb hts hinX8_drift_X8 hown hK hP 0 rfl rfl 0 (by decide) (hts _ (List.mem_of_getElem? (i := 2) rfl)) (fun _ h9 => h9) rfl dX8_drift_112 ?_
        refine lv_bipush (v := 57) hx hb dX8_drift_115 (by decide) ?_
        refine k_iald (D := (dC, dI)) hx hb hK hP 1 1 rfl rfl (k := 57) (by decide) (show ¬ ((57 : Int32) < 0 ∨ 113 ≤ (57 : Int32).toNatClampNeg) from by decide) dX8_drift_117 ?_
        refine lv_iconst (v := 2) hx hb dX8_drift_118 (by decide) ?_
        refine lv_irem hx hb dX8_drift_119 (by decide) ?_
        refine lv_if_ne (tgt := 127) hx hb dX8_drift_120 (by decide) (fun c120 => ?_) (fun c120 => ?_)
        · replace hm := it_f c120 hm
          refine lv_iload_n hx hb dX8_drift_127 rfl (lv_at hl 1 rfl) ?_
          cases hm
          exact k_iret hx hb hr hlocks hP hS dX8_drift_128
        · replace hm := it_t c120 hm
          refine lv_iconst (v := 0) hx hb dX8_drift_123 (by decide) ?_
          refine lv_goto (tgt := 128) hx hb dX8_drift_124 (by decide) ?_
          cases hm
          exact k_iret hx hb hr hlocks hP hS dX8_drift_128
      replace hm := it_f cs62_3 hm
      by_cases cs62_4 : r59 = 5
      · replace hm := it_t cs62_4 hm
        refine lv_tableIn (off := 67) (tgt := 129) hx hb dX8_drift_62 (by rw [cs62_4]; decide) (by rw [cs62_4]; decide) (by rw [cs62_4]; rfl) (by decide) ?_
        refine lv_aload_n hx hb dX8_drift_129 rfl (lv_at hl 2 rfl) ?_
        refine va_get (D := (dC, dI)) (ci := 8) (v := .int msum_2) (C := RX8) (T := TX8) (N := 29) hx hb hts hinX8_drift_X8 hown hK hP 0 rfl rfl 14 (by decide) (hts _ (List.mem_of_getElem? (i := 1) rfl)) (fun _ h9 => h9) rfl dX8_drift_130 ?_
        refine lv_iconst (v := 2) hx hb dX8_drift_133 (by decide) ?_
        refine lv_idiv hx hb dX8_drift_134 (by decide) ?_
        refine lv_aload_n hx hb dX8_drift_135 rfl (lv_at hl 2 rfl) ?_
        refine lv_iload_n hx hb dX8_drift_136 rfl (lv_at hl 3 rfl) ?_
        obtain ⟨r137, hc137, hm⟩ := bd1_e hm
        refine k_callGVi (dC := dC) (dI := dI) (kc := kc) (As := [.int x1]) (rest := [.int (msum_2 / 2)]) (Gs' := [wdX8 kc m_o m_now m_mind m_then m_text m_rules m_sizes m_read m_names m_letters m_begins m_words m_drifts m_above m_bodies m_trace m_sorts m_lengths m_items m_moved mnow mmind mthen mkept mtext mtexted mrules msizes mruled mread_2 msize_2 mat_2 mwell_2 mwithin_2 msum_2 mbear_2 mnames_2 mletters mbegins mwords mdrifts mabove mbodies mtrace mran msorts mlengths mitems mmoved]) hx hb hml hown hts hK hP hD hS hA (ctX8_leavesOf (m_o := m_o) (m_now := m_now) (m_mind := m_mind) (m_then := m_then) (m_text := m_text) (m_rules := m_rules) (m_sizes := m_sizes) (m_read := m_read) (m_names := m_names) (m_letters := m_letters) (m_begins := m_begins) (m_words := m_words) (m_drifts := m_drifts) (m_above := m_above) (m_bodies := m_bodies) (m_trace := m_trace) (m_sorts := m_sorts) (m_lengths := m_lengths) (m_items := m_items) (m_moved := m_moved) (mnow := mnow) (mmind := mmind) (mthen := mthen) (mkept := mkept) (mtext := mtext) (mtexted := mtexted) (mrules := mrules) (msizes := msizes) (mruled := mruled) (mread := mread_2) (msize := msize_2) (mat := mat_2) (mwell := mwell_2) (mwithin := mwithin_2) (msum := msum_2) (mbear := mbear_2) (mnames := mnames_2) (mletters := mletters) (mbegins := mbegins) (mwords := mwords) (mdrifts := mdrifts) (mabove := mabove) (mbodies := mbodies) (mtrace := mtrace) (mran := mran) (msorts := msorts) (mlengths := mlengths) (mitems := mitems) (mmoved := mmoved) (x1 := x1) hc137) (cwV 1 hts gX8_drift_X8_leavesOf rfl rfl rfl (by decide +kernel) ⟨Nat.le_of_ble_eq_true rfl, Nat.le_of_ble_eq_true rfl⟩) [0] rfl (by decide) 8 rfl rfl rfl rfl hl rfl (Nat.le_of_ble_eq_true rfl) dX8_drift_137 ⟨Nat.zero_le _, Nat.zero_le _⟩ rfl rfl rfl (fun H locs hP hD hS => ?_)
        refine lv_iadd hx hb dX8_drift_140 ?_
        cases hm
        exact k_iret hx hb hr hlocks hP hS dX8_drift_141
      replace hm := it_f cs62_4 hm
      by_cases cs62_5 : r59 = 6
      · replace hm := it_t cs62_5 hm
        refine lv_tableIn (off := 80) (tgt := 142) hx hb dX8_drift_62 (by rw [cs62_5]; decide) (by rw [cs62_5]; decide) (by rw [cs62_5]; rfl) (by decide) ?_
        refine lv_iload_n hx hb dX8_drift_142 rfl (lv_at hl 0 rfl) ?_
        refine lv_aload_n hx hb dX8_drift_143 rfl (lv_at hl 2 rfl) ?_
        refine lv_iload_n hx hb dX8_drift_144 rfl (lv_at hl 3 rfl) ?_
        refine lv_iconst (v := 3) hx hb dX8_drift_145 (by decide) ?_
        refine lv_aload_n hx hb dX8_drift_146 rfl (lv_at hl 2 rfl) ?_
        refine va_get (D := (dC, dI)) (ci := 8) (v := .ref m_now) (C := RX8) (T := TX8) (N := 29) hx hb hts hinX8_drift_X8 hown hK hP 0 rfl rfl 0 (by decide) (hts _ (List.mem_of_getElem? (i := 2) rfl)) (fun _ h9 => h9) rfl dX8_drift_147 ?_
        refine lv_bipush (v := 57) hx hb dX8_drift_150 (by decide) ?_
        refine k_iald (D := (dC, dI)) hx hb hK hP 1 1 rfl rfl (k := 57) (by decide) (show ¬ ((57 : Int32) < 0 ∨ 113 ≤ (57 : Int32).toNatClampNeg) from by decide) dX8_drift_152 ?_
        refine lv_iconst (v := 4) hx hb dX8_drift_153 (by decide) ?_
        refine lv_irem hx hb dX8_drift_154 (by decide) ?_
        refine lv_iadd hx hb dX8_drift_155 ?_
        obtain ⟨r156, hc156, hm⟩ := bd1_e hm
        refine k_callGVi (dC := dC) (dI := dI) (kc := kc) (As := [.int x1, .int (3 + ((mnow 57) - (mnow 57) / 4 * 4))]) (rest := [.int (-msum_2)]) (Gs' := [wdX8 kc m_o m_now m_mind m_then m_text m_rules m_sizes m_read m_names m_letters m_begins m_words m_drifts m_above m_bodies m_trace m_sorts m_lengths m_items m_moved mnow mmind mthen mkept mtext mtexted mrules msizes mruled mread_2 msize_2 mat_2 mwell_2 mwithin_2 msum_2 mbear_2 mnames_2 mletters mbegins mwords mdrifts mabove mbodies mtrace mran msorts mlengths mitems mmoved]) hx hb hml hown hts hK hP hD hS hA (ctX8_number (m_o := m_o) (m_now := m_now) (m_mind := m_mind) (m_then := m_then) (m_text := m_text) (m_rules := m_rules) (m_sizes := m_sizes) (m_read := m_read) (m_names := m_names) (m_letters := m_letters) (m_begins := m_begins) (m_words := m_words) (m_drifts := m_drifts) (m_above := m_above) (m_bodies := m_bodies) (m_trace := m_trace) (m_sorts := m_sorts) (m_lengths := m_lengths) (m_items := m_items) (m_moved := m_moved) (mnow := mnow) (mmind := mmind) (mthen := mthen) (mkept := mkept) (mtext := mtext) (mtexted := mtexted) (mrules := mrules) (msizes := msizes) (mruled := mruled) (mread := mread_2) (msize := msize_2) (mat := mat_2) (mwell := mwell_2) (mwithin := mwithin_2) (msum := msum_2) (mbear := mbear_2) (mnames := mnames_2) (mletters := mletters) (mbegins := mbegins) (mwords := mwords) (mdrifts := mdrifts) (mabove := mabove) (mbodies := mbodies) (mtrace := mtrace) (mran := mran) (msorts := msorts) (mlengths := mlengths) (mitems := mitems) (mmoved := mmoved) (x1 := x1) (x2 := 3 + ((mnow 57) - (mnow 57) / 4 * 4)) hc156) (cwV 2 hts gX8_drift_X8_number rfl rfl rfl (by decide +kernel) ⟨Nat.le_of_ble_eq_true rfl, Nat.le_of_ble_eq_true rfl⟩) [0] rfl (by decide) 8 rfl rfl rfl rfl hl rfl (Nat.le_of_ble_eq_true rfl) dX8_drift_156 ⟨Nat.zero_le _, Nat.zero_le _⟩ rfl rfl rfl (fun H locs hP hD hS => ?_)
        refine lv_iadd hx hb dX8_drift_159 ?_
        refine lv_iconst (v := 4) hx hb dX8_drift_160 (by decide) ?_
        refine lv_isub hx hb dX8_drift_161 ?_
        cases hm
        exact k_iret hx hb hr hlocks hP hS dX8_drift_162
      replace hm := it_f cs62_5 hm
      have nt62_0 := lv_neT (k := 1) (a := 1) cs62_0 (by decide)
      have nt62_1 := lv_neT (k := 2) (a := 2) cs62_1 (by decide)
      have nt62_2 := lv_neT (k := 3) (a := 3) cs62_2 (by decide)
      have nt62_3 := lv_neT (k := 4) (a := 4) cs62_3 (by decide)
      have nt62_4 := lv_neT (k := 5) (a := 5) cs62_4 (by decide)
      have nt62_5 := lv_neT (k := 6) (a := 6) cs62_5 (by decide)
      refine lv_tableOut (tgt := 163) hx hb dX8_drift_62 (by omega) (by decide) ?_
      refine lv_aload_n hx hb dX8_drift_163 rfl (lv_at hl 2 rfl) ?_
      refine va_get (D := (dC, dI)) (ci := 8) (v := .int msum_2) (C := RX8) (T := TX8) (N := 29) hx hb hts hinX8_drift_X8 hown hK hP 0 rfl rfl 14 (by decide) (hts _ (List.mem_of_getElem? (i := 1) rfl)) (fun _ h9 => h9) rfl dX8_drift_164 ?_
      cases hm
      exact k_iret hx hb hr hlocks hP hS dX8_drift_167
  · replace hm := it_f c14 hm
    refine lv_aload_n hx hb dX8_drift_17 rfl (lv_at hl 0 rfl) ?_
    refine lv_iload_n hx hb dX8_drift_18 rfl (lv_at hl 1 rfl) ?_
    refine lv_iconst (v := 1) hx hb dX8_drift_19 (by decide) ?_
    obtain ⟨r20, hc20, hm⟩ := bd1_e hm
    refine k_callGVi (dC := dC) (dI := dI) (kc := kc) (As := [.int x1, .int 1]) (rest := [.int msum_2]) (Gs' := [wdX8 kc m_o m_now m_mind m_then m_text m_rules m_sizes m_read m_names m_letters m_begins m_words m_drifts m_above m_bodies m_trace m_sorts m_lengths m_items m_moved mnow mmind mthen mkept mtext mtexted mrules msizes mruled mread_2 msize_2 mat_2 mwell_2 mwithin_2 msum_2 mbear_2 mnames_2 mletters mbegins mwords mdrifts mabove mbodies mtrace mran msorts mlengths mitems mmoved]) hx hb hml hown hts hK hP hD hS hA (ctX8_number (m_o := m_o) (m_now := m_now) (m_mind := m_mind) (m_then := m_then) (m_text := m_text) (m_rules := m_rules) (m_sizes := m_sizes) (m_read := m_read) (m_names := m_names) (m_letters := m_letters) (m_begins := m_begins) (m_words := m_words) (m_drifts := m_drifts) (m_above := m_above) (m_bodies := m_bodies) (m_trace := m_trace) (m_sorts := m_sorts) (m_lengths := m_lengths) (m_items := m_items) (m_moved := m_moved) (mnow := mnow) (mmind := mmind) (mthen := mthen) (mkept := mkept) (mtext := mtext) (mtexted := mtexted) (mrules := mrules) (msizes := msizes) (mruled := mruled) (mread := mread_2) (msize := msize_2) (mat := mat_2) (mwell := mwell_2) (mwithin := mwithin_2) (msum := msum_2) (mbear := mbear_2) (mnames := mnames_2) (mletters := mletters) (mbegins := mbegins) (mwords := mwords) (mdrifts := mdrifts) (mabove := mabove) (mbodies := mbodies) (mtrace := mtrace) (mran := mran) (msorts := msorts) (mlengths := mlengths) (mitems := mitems) (mmoved := mmoved) (x1 := x1) (x2 := 1) hc20) (cwV 2 hts gX8_drift_X8_number rfl rfl rfl (by decide +kernel) ⟨Nat.le_of_ble_eq_true rfl, Nat.le_of_ble_eq_true rfl⟩) [0] rfl (by decide) 8 rfl rfl rfl rfl hl rfl (Nat.le_of_ble_eq_true rfl) dX8_drift_20 ⟨Nat.zero_le _, Nat.zero_le _⟩ rfl rfl rfl (fun H locs hP hD hS => ?_)
    refine lv_goto (tgt := 27) hx hb dX8_drift_23 (by decide) ?_
    refine lv_iadd hx hb dX8_drift_27 ?_
    refine lv_istore_n (lv' := [(2, .int (msum_2 + r20)), (0, .ref m_o), (1, .int x1)]) hx hb dX8_drift_28 rfl hl (by decide) rfl (fun ls hl => ?_)
    refine lv_aload_n hx hb dX8_drift_29 rfl (lv_at hl 1 rfl) ?_
    refine va_get (D := (dC, dI)) (ci := 8) (v := .ref m_now) (C := RX8) (T := TX8) (N := 29) hx hb hts hinX8_drift_X8 hown hK hP 0 rfl rfl 0 (by decide) (hts _ (List.mem_of_getElem? (i := 2) rfl)) (fun _ h9 => h9) rfl dX8_drift_30 ?_
    refine lv_bipush (v := 57) hx hb dX8_drift_33 (by decide) ?_
    refine k_iald (D := (dC, dI)) hx hb hK hP 1 1 rfl rfl (k := 57) (by decide) (show ¬ ((57 : Int32) < 0 ∨ 113 ≤ (57 : Int32).toNatClampNeg) from by decide) dX8_drift_35 ?_
    refine lv_bipush (v := 8) hx hb dX8_drift_36 (by decide) ?_
    refine lv_irem hx hb dX8_drift_38 (by decide) ?_
    refine lv_iconst (v := 4) hx hb dX8_drift_39 (by decide) ?_
    refine lv_icmp_lt (tgt := 51) hx hb dX8_drift_40 (by decide) (fun c40 => ?_) (fun c40 => ?_)
    · replace hm := it_t c40 hm
      refine lv_aload_n hx hb dX8_drift_51 rfl (lv_at hl 1 rfl) ?_
      refine va_get (D := (dC, dI)) (ci := 8) (v := .int msum_2) (C := RX8) (T := TX8) (N := 29) hx hb hts hinX8_drift_X8 hown hK hP 0 rfl rfl 14 (by decide) (hts _ (List.mem_of_getElem? (i := 1) rfl)) (fun _ h9 => h9) rfl dX8_drift_52 ?_
      refine lv_istore_n (lv' := [(3, .int msum_2), (2, .int (msum_2 + r20)), (0, .ref m_o), (1, .int x1)]) hx hb dX8_drift_55 rfl hl (by decide) rfl (fun ls hl => ?_)
      refine lv_aload_n hx hb dX8_drift_56 rfl (lv_at hl 2 rfl) ?_
      refine lv_iload_n hx hb dX8_drift_57 rfl (lv_at hl 3 rfl) ?_
      refine lv_iconst (v := 0) hx hb dX8_drift_58 (by decide) ?_
      obtain ⟨r59, hc59, hm⟩ := bd1_e hm
      refine k_callGVi (dC := dC) (dI := dI) (kc := kc) (As := [.int x1, .int 0]) (rest := []) (Gs' := [wdX8 kc m_o m_now m_mind m_then m_text m_rules m_sizes m_read m_names m_letters m_begins m_words m_drifts m_above m_bodies m_trace m_sorts m_lengths m_items m_moved mnow mmind mthen mkept mtext mtexted mrules msizes mruled mread_2 msize_2 mat_2 mwell_2 mwithin_2 msum_2 mbear_2 mnames_2 mletters mbegins mwords mdrifts mabove mbodies mtrace mran msorts mlengths mitems mmoved]) hx hb hml hown hts hK hP hD hS hA (ctX8_number (m_o := m_o) (m_now := m_now) (m_mind := m_mind) (m_then := m_then) (m_text := m_text) (m_rules := m_rules) (m_sizes := m_sizes) (m_read := m_read) (m_names := m_names) (m_letters := m_letters) (m_begins := m_begins) (m_words := m_words) (m_drifts := m_drifts) (m_above := m_above) (m_bodies := m_bodies) (m_trace := m_trace) (m_sorts := m_sorts) (m_lengths := m_lengths) (m_items := m_items) (m_moved := m_moved) (mnow := mnow) (mmind := mmind) (mthen := mthen) (mkept := mkept) (mtext := mtext) (mtexted := mtexted) (mrules := mrules) (msizes := msizes) (mruled := mruled) (mread := mread_2) (msize := msize_2) (mat := mat_2) (mwell := mwell_2) (mwithin := mwithin_2) (msum := msum_2) (mbear := mbear_2) (mnames := mnames_2) (mletters := mletters) (mbegins := mbegins) (mwords := mwords) (mdrifts := mdrifts) (mabove := mabove) (mbodies := mbodies) (mtrace := mtrace) (mran := mran) (msorts := msorts) (mlengths := mlengths) (mitems := mitems) (mmoved := mmoved) (x1 := x1) (x2 := 0) hc59) (cwV 2 hts gX8_drift_X8_number rfl rfl rfl (by decide +kernel) ⟨Nat.le_of_ble_eq_true rfl, Nat.le_of_ble_eq_true rfl⟩) [0] rfl (by decide) 8 rfl rfl rfl rfl hl rfl (Nat.le_of_ble_eq_true rfl) dX8_drift_59 ⟨Nat.zero_le _, Nat.zero_le _⟩ rfl rfl rfl (fun H locs hP hD hS => ?_)
      by_cases cs62_0 : r59 = 1
      · replace hm := it_t cs62_0 hm
        refine lv_tableIn (off := 38) (tgt := 100) hx hb dX8_drift_62 (by rw [cs62_0]; decide) (by rw [cs62_0]; decide) (by rw [cs62_0]; rfl) (by decide) ?_
        refine lv_iload_n hx hb dX8_drift_100 rfl (lv_at hl 1 rfl) ?_
        cases hm
        exact k_iret hx hb hr hlocks hP hS dX8_drift_101
      replace hm := it_f cs62_0 hm
      by_cases cs62_1 : r59 = 2
      · replace hm := it_t cs62_1 hm
        refine lv_tableIn (off := 40) (tgt := 102) hx hb dX8_drift_62 (by rw [cs62_1]; decide) (by rw [cs62_1]; decide) (by rw [cs62_1]; rfl) (by decide) ?_
        refine lv_aload_n hx hb dX8_drift_102 rfl (lv_at hl 2 rfl) ?_
        refine va_get (D := (dC, dI)) (ci := 8) (v := .int msum_2) (C := RX8) (T := TX8) (N := 29) hx hb hts hinX8_drift_X8 hown hK hP 0 rfl rfl 14 (by decide) (hts _ (List.mem_of_getElem? (i := 1) rfl)) (fun _ h9 => h9) rfl dX8_drift_103 ?_
        refine lv_iconst (v := 2) hx hb dX8_drift_106 (by decide) ?_
        refine lv_idiv hx hb dX8_drift_107 (by decide) ?_
        cases hm
        exact k_iret hx hb hr hlocks hP hS dX8_drift_108
      replace hm := it_f cs62_1 hm
      by_cases cs62_2 : r59 = 3
      · replace hm := it_t cs62_2 hm
        refine lv_tableIn (off := 47) (tgt := 109) hx hb dX8_drift_62 (by rw [cs62_2]; decide) (by rw [cs62_2]; decide) (by rw [cs62_2]; rfl) (by decide) ?_
        refine lv_iload_n hx hb dX8_drift_109 rfl (lv_at hl 0 rfl) ?_
        cases hm
        exact k_iret hx hb hr hlocks hP hS dX8_drift_110
      replace hm := it_f cs62_2 hm
      by_cases cs62_3 : r59 = 4
      · replace hm := it_t cs62_3 hm
        refine lv_tableIn (off := 49) (tgt := 111) hx hb dX8_drift_62 (by rw [cs62_3]; decide) (by rw [cs62_3]; decide) (by rw [cs62_3]; rfl) (by decide) ?_
        refine lv_aload_n hx hb dX8_drift_111 rfl (lv_at hl 2 rfl) ?_
        refine va_get (D := (dC, dI)) (ci := 8) (v := .ref m_now) (C := RX8) (T := TX8) (N := 29) hx hb hts hinX8_drift_X8 hown hK hP 0 rfl rfl 0 (by decide) (hts _ (List.mem_of_getElem? (i := 2) rfl)) (fun _ h9 => h9) rfl dX8_drift_112 ?_
        refine lv_bipush (v := 57) hx hb dX8_drift_115 (by decide) ?_
        refine k_iald (D := (dC, dI)) hx hb hK hP 1 1 rfl rfl (k := 57) (by decide) (show ¬ ((57 : Int32) < 0 ∨ 113 ≤ (57 : Int32).toNatClampNeg) from by decide) dX8_drift_117 ?_
        refine lv_iconst (v := 2) hx hb dX8_drift_118 (by decide) ?_
        refine lv_irem hx hb dX8_drift_119 (by decide) ?_
        refine lv_if_ne (tgt := 127) hx hb dX8_drift_120 (by decide) (fun c120 => ?_) (fun c120 => ?_)
        · replace hm := it_f c120 hm
          refine lv_iload_n hx hb dX8_drift_127 rfl (lv_at hl 1 rfl) ?_
          cases hm
          exact k_iret hx hb hr hlocks hP hS dX8_drift_128
        · replace hm := it_t c120 hm
          refine lv_iconst (v := 0) hx hb dX8_drift_123 (by decide) ?_
          refine lv_goto (tgt := 128) hx hb dX8_drift_124 (by decide) ?_
          cases hm
          exact k_iret hx hb hr hlocks hP hS dX8_drift_128
      replace hm := it_f cs62_3 hm
      by_cases cs62_4 : r59 = 5
      · replace hm := it_t cs62_4 hm
        refine lv_tableIn (off := 67) (tgt := 129) hx hb dX8_drift_62 (by rw [cs62_4]; decide) (by rw [cs62_4]; decide) (by rw [cs62_4]; rfl) (by decide) ?_
        refine lv_aload_n hx hb dX8_drift_129 rfl (lv_at hl 2 rfl) ?_
        refine va_get (D := (dC, dI)) (ci := 8) (v := .int msum_2) (C := RX8) (T := TX8) (N := 29) hx hb hts hinX8_drift_X8 hown hK hP 0 rfl rfl 14 (by decide) (hts _ (List.mem_of_getElem? (i := 1) rfl)) (fun _ h9 => h9) rfl dX8_drift_130 ?_
        refine lv_iconst (v := 2) hx hb dX8_drift_133 (by decide) ?_
        refine lv_idiv hx hb dX8_drift_134 (by decide) ?_
        refine lv_aload_n hx hb dX8_drift_135 rfl (lv_at hl 2 rfl) ?_
        refine lv_iload_n hx hb dX8_drift_136 rfl (lv_at hl 3 rfl) ?_
        obtain ⟨r137, hc137, hm⟩ := bd1_e hm
        refine k_callGVi (dC := dC) (dI := dI) (kc := kc) (As := [.int x1]) (rest := [.int (msum_2 / 2)]) (Gs' := [wdX8 kc m_o m_now m_mind m_then m_text m_rules m_sizes m_read m_names m_letters m_begins m_words m_drifts m_above m_bodies m_trace m_sorts m_lengths m_items m_moved mnow mmind mthen mkept mtext mtexted mrules msizes mruled mread_2 msize_2 mat_2 mwell_2 mwithin_2 msum_2 mbear_2 mnames_2 mletters mbegins mwords mdrifts mabove mbodies mtrace mran msorts mlengths mitems mmoved]) hx hb hml hown hts hK hP hD hS hA (ctX8_leavesOf (m_o := m_o) (m_now := m_now) (m_mind := m_mind) (m_then := m_then) (m_text := m_text) (m_rules := m_rules) (m_sizes := m_sizes) (m_read := m_read) (m_names := m_names) (m_letters := m_letters) (m_begins := m_begins) (m_words := m_words) (m_drifts := m_drifts) (m_above := m_above) (m_bodies := m_bodies) (m_trace := m_trace) (m_sorts := m_sorts) (m_lengths := m_lengths) (m_items := m_items) (m_moved := m_moved) (mnow := mnow) (mmind := mmind) (mthen := mthen) (mkept := mkept) (mtext := mtext) (mtexted := mtexted) (mrules := mrules) (msizes := msizes) (mruled := mruled) (mread := mread_2) (msize := msize_2) (mat := mat_2) (mwell := mwell_2) (mwithin := mwithin_2) (msum := msum_2) (mbear := mbear_2) (mnames := mnames_2) (mletters := mletters) (mbegins := mbegins) (mwords := mwords) (mdrifts := mdrifts) (mabove := mabove) (mbodies := mbodies) (mtrace := mtrace) (mran := mran) (msorts := msorts) (mlengths := mlengths) (mitems := mitems) (mmoved := mmoved) (x1 := x1) hc137) (cwV 1 hts gX8_drift_X8_leavesOf rfl rfl rfl (by decide +kernel) ⟨Nat.le_of_ble_eq_true rfl, Nat.le_of_ble_eq_true rfl⟩) [0] rfl (by decide) 8 rfl rfl rfl rfl hl rfl (Nat.le_of_ble_eq_true rfl) dX8_drift_137 ⟨Nat.zero_le _, Nat.zero_le _⟩ rfl rfl rfl (fun H locs hP hD hS => ?_)
        refine lv_iadd hx hb dX8_drift_140 ?_
        cases hm
        exact k_iret hx hb hr hlocks hP hS dX8_drift_141
      replace hm := it_f cs62_4 hm
      by_cases cs62_5 : r59 = 6
      · replace hm := it_t cs62_5 hm
        refine lv_tableIn (off := 80) (tgt := 142) hx hb dX8_drift_62 (by rw [cs62_5]; decide) (by rw [cs62_5]; decide) (by rw [cs62_5]; rfl) (by decide) ?_
        refine lv_iload_n hx hb dX8_drift_142 rfl (lv_at hl 0 rfl) ?_
        refine lv_aload_n hx hb dX8_drift_143 rfl (lv_at hl 2 rfl) ?_
        refine lv_iload_n hx hb dX8_drift_144 rfl (lv_at hl 3 rfl) ?_
        refine lv_iconst (v := 3) hx hb dX8_drift_145 (by decide) ?_
        refine lv_aload_n hx hb dX8_drift_146 rfl (lv_at hl 2 rfl) ?_
        refine va_get (D := (dC, dI)) (ci := 8) (v := .ref m_now) (C := RX8) (T := TX8) (N := 29) hx hb hts hinX8_drift_X8 hown hK hP 0 rfl rfl 0 (by decide) (hts _ (List.mem_of_getElem? (i := 2) rfl)) (fun _ h9 => h9) rfl dX8_drift_147 ?_
        refine lv_bipush (v := 57) hx hb dX8_drift_150 (by decide) ?_
        refine k_iald (D := (dC, dI)) hx hb hK hP 1 1 rfl rfl (k := 57) (by decide) (show ¬ ((57 : Int32) < 0 ∨ 113 ≤ (57 : Int32).toNatClampNeg) from by decide) dX8_drift_152 ?_
        refine lv_iconst (v := 4) hx hb dX8_drift_153 (by decide) ?_
        refine lv_irem hx hb dX8_drift_154 (by decide) ?_
        refine lv_iadd hx hb dX8_drift_155 ?_
        obtain ⟨r156, hc156, hm⟩ := bd1_e hm
        refine k_callGVi (dC := dC) (dI := dI) (kc := kc) (As := [.int x1, .int (3 + ((mnow 57) - (mnow 57) / 4 * 4))]) (rest := [.int msum_2]) (Gs' := [wdX8 kc m_o m_now m_mind m_then m_text m_rules m_sizes m_read m_names m_letters m_begins m_words m_drifts m_above m_bodies m_trace m_sorts m_lengths m_items m_moved mnow mmind mthen mkept mtext mtexted mrules msizes mruled mread_2 msize_2 mat_2 mwell_2 mwithin_2 msum_2 mbear_2 mnames_2 mletters mbegins mwords mdrifts mabove mbodies mtrace mran msorts mlengths mitems mmoved]) hx hb hml hown hts hK hP hD hS hA (ctX8_number (m_o := m_o) (m_now := m_now) (m_mind := m_mind) (m_then := m_then) (m_text := m_text) (m_rules := m_rules) (m_sizes := m_sizes) (m_read := m_read) (m_names := m_names) (m_letters := m_letters) (m_begins := m_begins) (m_words := m_words) (m_drifts := m_drifts) (m_above := m_above) (m_bodies := m_bodies) (m_trace := m_trace) (m_sorts := m_sorts) (m_lengths := m_lengths) (m_items := m_items) (m_moved := m_moved) (mnow := mnow) (mmind := mmind) (mthen := mthen) (mkept := mkept) (mtext := mtext) (mtexted := mtexted) (mrules := mrules) (msizes := msizes) (mruled := mruled) (mread := mread_2) (msize := msize_2) (mat := mat_2) (mwell := mwell_2) (mwithin := mwithin_2) (msum := msum_2) (mbear := mbear_2) (mnames := mnames_2) (mletters := mletters) (mbegins := mbegins) (mwords := mwords) (mdrifts := mdrifts) (mabove := mabove) (mbodies := mbodies) (mtrace := mtrace) (mran := mran) (msorts := msorts) (mlengths := mlengths) (mitems := mitems) (mmoved := mmoved) (x1 := x1) (x2 := 3 + ((mnow 57) - (mnow 57) / 4 * 4)) hc156) (cwV 2 hts gX8_drift_X8_number rfl rfl rfl (by decide +kernel) ⟨Nat.le_of_ble_eq_true rfl, Nat.le_of_ble_eq_true rfl⟩) [0] rfl (by decide) 8 rfl rfl rfl rfl hl rfl (Nat.le_of_ble_eq_true rfl) dX8_drift_156 ⟨Nat.zero_le _, Nat.zero_le _⟩ rfl rfl rfl (fun H locs hP hD hS => ?_)
        refine lv_iadd hx hb dX8_drift_159 ?_
        refine lv_iconst (v := 4) hx hb dX8_drift_160 (by decide) ?_
        refine lv_isub hx hb dX8_drift_161 ?_
        cases hm
        exact k_iret hx hb hr hlocks hP hS dX8_drift_162
      replace hm := it_f cs62_5 hm
      have nt62_0 := lv_neT (k := 1) (a := 1) cs62_0 (by decide)
      have nt62_1 := lv_neT (k := 2) (a := 2) cs62_1 (by decide)
      have nt62_2 := lv_neT (k := 3) (a := 3) cs62_2 (by decide)
      have nt62_3 := lv_neT (k := 4) (a := 4) cs62_3 (by decide)
      have nt62_4 := lv_neT (k := 5) (a := 5) cs62_4 (by decide)
      have nt62_5 := lv_neT (k := 6) (a := 6) cs62_5 (by decide)
      refine lv_tableOut (tgt := 163) hx hb dX8_drift_62 (by omega) (by decide) ?_
      refine lv_aload_n hx hb dX8_drift_163 rfl (lv_at hl 2 rfl) ?_
      refine va_get (D := (dC, dI)) (ci := 8) (v := .int msum_2) (C := RX8) (T := TX8) (N := 29) hx hb hts hinX8_drift_X8 hown hK hP 0 rfl rfl 14 (by decide) (hts _ (List.mem_of_getElem? (i := 1) rfl)) (fun _ h9 => h9) rfl dX8_drift_164 ?_
      cases hm
      exact k_iret hx hb hr hlocks hP hS dX8_drift_167
    · replace hm := it_f c40 hm
      refine lv_aload_n hx hb dX8_drift_43 rfl (lv_at hl 1 rfl) ?_
      refine va_get (D := (dC, dI)) (ci := 8) (v := .int msum_2) (C := RX8) (T := TX8) (N := 29) hx hb hts hinX8_drift_X8 hown hK hP 0 rfl rfl 14 (by decide) (hts _ (List.mem_of_getElem? (i := 1) rfl)) (fun _ h9 => h9) rfl dX8_drift_44 ?_
      refine lv_ineg hx hb dX8_drift_47 ?_
      refine lv_goto (tgt := 55) hx hb dX8_drift_48 (by decide) ?_
      refine lv_istore_n (lv' := [(3, .int (-msum_2)), (2, .int (msum_2 + r20)), (0, .ref m_o), (1, .int x1)]) hx hb dX8_drift_55 rfl hl (by decide) rfl (fun ls hl => ?_)
      refine lv_aload_n hx hb dX8_drift_56 rfl (lv_at hl 2 rfl) ?_
      refine lv_iload_n hx hb dX8_drift_57 rfl (lv_at hl 3 rfl) ?_
      refine lv_iconst (v := 0) hx hb dX8_drift_58 (by decide) ?_
      obtain ⟨r59, hc59, hm⟩ := bd1_e hm
      refine k_callGVi (dC := dC) (dI := dI) (kc := kc) (As := [.int x1, .int 0]) (rest := []) (Gs' := [wdX8 kc m_o m_now m_mind m_then m_text m_rules m_sizes m_read m_names m_letters m_begins m_words m_drifts m_above m_bodies m_trace m_sorts m_lengths m_items m_moved mnow mmind mthen mkept mtext mtexted mrules msizes mruled mread_2 msize_2 mat_2 mwell_2 mwithin_2 msum_2 mbear_2 mnames_2 mletters mbegins mwords mdrifts mabove mbodies mtrace mran msorts mlengths mitems mmoved]) hx hb hml hown hts hK hP hD hS hA (ctX8_number (m_o := m_o) (m_now := m_now) (m_mind := m_mind) (m_then := m_then) (m_text := m_text) (m_rules := m_rules) (m_sizes := m_sizes) (m_read := m_read) (m_names := m_names) (m_letters := m_letters) (m_begins := m_begins) (m_words := m_words) (m_drifts := m_drifts) (m_above := m_above) (m_bodies := m_bodies) (m_trace := m_trace) (m_sorts := m_sorts) (m_lengths := m_lengths) (m_items := m_items) (m_moved := m_moved) (mnow := mnow) (mmind := mmind) (mthen := mthen) (mkept := mkept) (mtext := mtext) (mtexted := mtexted) (mrules := mrules) (msizes := msizes) (mruled := mruled) (mread := mread_2) (msize := msize_2) (mat := mat_2) (mwell := mwell_2) (mwithin := mwithin_2) (msum := msum_2) (mbear := mbear_2) (mnames := mnames_2) (mletters := mletters) (mbegins := mbegins) (mwords := mwords) (mdrifts := mdrifts) (mabove := mabove) (mbodies := mbodies) (mtrace := mtrace) (mran := mran) (msorts := msorts) (mlengths := mlengths) (mitems := mitems) (mmoved := mmoved) (x1 := x1) (x2 := 0) hc59) (cwV 2 hts gX8_drift_X8_number rfl rfl rfl (by decide +kernel) ⟨Nat.le_of_ble_eq_true rfl, Nat.le_of_ble_eq_true rfl⟩) [0] rfl (by decide) 8 rfl rfl rfl rfl hl rfl (Nat.le_of_ble_eq_true rfl) dX8_drift_59 ⟨Nat.zero_le _, Nat.zero_le _⟩ rfl rfl rfl (fun H locs hP hD hS => ?_)
      by_cases cs62_0 : r59 = 1
      · replace hm := it_t cs62_0 hm
        refine lv_tableIn (off := 38) (tgt := 100) hx hb dX8_drift_62 (by rw [cs62_0]; decide) (by rw [cs62_0]; decide) (by rw [cs62_0]; rfl) (by decide) ?_
        refine lv_iload_n hx hb dX8_drift_100 rfl (lv_at hl 1 rfl) ?_
        cases hm
        exact k_iret hx hb hr hlocks hP hS dX8_drift_101
      replace hm := it_f cs62_0 hm
      by_cases cs62_1 : r59 = 2
      · replace hm := it_t cs62_1 hm
        refine lv_tableIn (off := 40) (tgt := 102) hx hb dX8_drift_62 (by rw [cs62_1]; decide) (by rw [cs62_1]; decide) (by rw [cs62_1]; rfl) (by decide) ?_
        refine lv_aload_n hx hb dX8_drift_102 rfl (lv_at hl 2 rfl) ?_
        refine va_get (D := (dC, dI)) (ci := 8) (v := .int msum_2) (C := RX8) (T := TX8) (N := 29) hx hb hts hinX8_drift_X8 hown hK hP 0 rfl rfl 14 (by decide) (hts _ (List.mem_of_getElem? (i := 1) rfl)) (fun _ h9 => h9) rfl dX8_drift_103 ?_
        refine lv_iconst (v := 2) hx hb dX8_drift_106 (by decide) ?_
        refine lv_idiv hx hb dX8_drift_107 (by decide) ?_
        cases hm
        exact k_iret hx hb hr hlocks hP hS dX8_drift_108
      replace hm := it_f cs62_1 hm
      by_cases cs62_2 : r59 = 3
      · replace hm := it_t cs62_2 hm
        refine lv_tableIn (off := 47) (tgt := 109) hx hb dX8_drift_62 (by rw [cs62_2]; decide) (by rw [cs62_2]; decide) (by rw [cs62_2]; rfl) (by decide) ?_
        refine lv_iload_n hx hb dX8_drift_109 rfl (lv_at hl 0 rfl) ?_
        cases hm
        exact k_iret hx hb hr hlocks hP hS dX8_drift_110
      replace hm := it_f cs62_2 hm
      by_cases cs62_3 : r59 = 4
      · replace hm := it_t cs62_3 hm
        refine lv_tableIn (off := 49) (tgt := 111) hx hb dX8_drift_62 (by rw [cs62_3]; decide) (by rw [cs62_3]; decide) (by rw [cs62_3]; rfl) (by decide) ?_
        refine lv_aload_n hx hb dX8_drift_111 rfl (lv_at hl 2 rfl) ?_
        refine va_get (D := (dC, dI)) (ci := 8) (v := .ref m_now) (C := RX8) (T := TX8) (N := 29) hx hb hts hinX8_drift_X8 hown hK hP 0 rfl rfl 0 (by decide) (hts _ (List.mem_of_getElem? (i := 2) rfl)) (fun _ h9 => h9) rfl dX8_drift_112 ?_
        refine lv_bipush (v := 57) hx hb dX8_drift_115 (by decide) ?_
        refine k_iald (D := (dC, dI)) hx hb hK hP 1 1 rfl rfl (k := 57) (by decide) (show ¬ ((57 : Int32) < 0 ∨ 113 ≤ (57 : Int32).toNatClampNeg) from by decide) dX8_drift_117 ?_
        refine lv_iconst (v := 2) hx hb dX8_drift_118 (by decide) ?_
        refine lv_irem hx hb dX8_drift_119 (by decide) ?_
        refine lv_if_ne (tgt := 127) hx hb dX8_drift_120 (by decide) (fun c120 => ?_) (fun c120 => ?_)
        · replace hm := it_f c120 hm
          refine lv_iload_n hx hb dX8_drift_127 rfl (lv_at hl 1 rfl) ?_
          cases hm
          exact k_iret hx hb hr hlocks hP hS dX8_drift_128
        · replace hm := it_t c120 hm
          refine lv_iconst (v := 0) hx hb dX8_drift_123 (by decide) ?_
          refine lv_goto (tgt := 128) hx hb dX8_drift_124 (by decide) ?_
          cases hm
          exact k_iret hx hb hr hlocks hP hS dX8_drift_128
      replace hm := it_f cs62_3 hm
      by_cases cs62_4 : r59 = 5
      · replace hm := it_t cs62_4 hm
        refine lv_tableIn (off := 67) (tgt := 129) hx hb dX8_drift_62 (by rw [cs62_4]; decide) (by rw [cs62_4]; decide) (by rw [cs62_4]; rfl) (by decide) ?_
        refine lv_aload_n hx hb dX8_drift_129 rfl (lv_at hl 2 rfl) ?_
        refine va_get (D := (dC, dI)) (ci := 8) (v := .int msum_2) (C := RX8) (T := TX8) (N := 29) hx hb hts hinX8_drift_X8 hown hK hP 0 rfl rfl 14 (by decide) (hts _ (List.mem_of_getElem? (i := 1) rfl)) (fun _ h9 => h9) rfl dX8_drift_130 ?_
        refine lv_iconst (v := 2) hx hb dX8_drift_133 (by decide) ?_
        refine lv_idiv hx hb dX8_drift_134 (by decide) ?_
        refine lv_aload_n hx hb dX8_drift_135 rfl (lv_at hl 2 rfl) ?_
        refine lv_iload_n hx hb dX8_drift_136 rfl (lv_at hl 3 rfl) ?_
        obtain ⟨r137, hc137, hm⟩ := bd1_e hm
        refine k_callGVi (dC := dC) (dI := dI) (kc := kc) (As := [.int x1]) (rest := [.int (msum_2 / 2)]) (Gs' := [wdX8 kc m_o m_now m_mind m_then m_text m_rules m_sizes m_read m_names m_letters m_begins m_words m_drifts m_above m_bodies m_trace m_sorts m_lengths m_items m_moved mnow mmind mthen mkept mtext mtexted mrules msizes mruled mread_2 msize_2 mat_2 mwell_2 mwithin_2 msum_2 mbear_2 mnames_2 mletters mbegins mwords mdrifts mabove mbodies mtrace mran msorts mlengths mitems mmoved]) hx hb hml hown hts hK hP hD hS hA (ctX8_leavesOf (m_o := m_o) (m_now := m_now) (m_mind := m_mind) (m_then := m_then) (m_text := m_text) (m_rules := m_rules) (m_sizes := m_sizes) (m_read := m_read) (m_names := m_names) (m_letters := m_letters) (m_begins := m_begins) (m_words := m_words) (m_drifts := m_drifts) (m_above := m_above) (m_bodies := m_bodies) (m_trace := m_trace) (m_sorts := m_sorts) (m_lengths := m_lengths) (m_items := m_items) (m_moved := m_moved) (mnow := mnow) (mmind := mmind) (mthen := mthen) (mkept := mkept) (mtext := mtext) (mtexted := mtexted) (mrules := mrules) (msizes := msizes) (mruled := mruled) (mread := mread_2) (msize := msize_2) (mat := mat_2) (mwell := mwell_2) (mwithin := mwithin_2) (msum := msum_2) (mbear := mbear_2) (mnames := mnames_2) (mletters := mletters) (mbegins := mbegins) (mwords := mwords) (mdrifts := mdrifts) (mabove := mabove) (mbodies := mbodies) (mtrace := mtrace) (mran := mran) (msorts := msorts) (mlengths := mlengths) (mitems := mitems) (mmoved := mmoved) (x1 := x1) hc137) (cwV 1 hts gX8_drift_X8_leavesOf rfl rfl rfl (by decide +kernel) ⟨Nat.le_of_ble_eq_true rfl, Nat.le_of_ble_eq_true rfl⟩) [0] rfl (by decide) 8 rfl rfl rfl rfl hl rfl (Nat.le_of_ble_eq_true rfl) dX8_drift_137 ⟨Nat.zero_le _, Nat.zero_le _⟩ rfl rfl rfl (fun H locs hP hD hS => ?_)
        refine lv_iadd hx hb dX8_drift_140 ?_
        cases hm
        exact k_iret hx hb hr hlocks hP hS dX8_drift_141
      replace hm := it_f cs62_4 hm
      by_cases cs62_5 : r59 = 6
      · replace hm := it_t cs62_5 hm
        refine lv_tableIn (off := 80) (tgt := 142) hx hb dX8_drift_62 (by rw [cs62_5]; decide) (by rw [cs62_5]; decide) (by rw [cs62_5]; rfl) (by decide) ?_
        refine lv_iload_n hx hb dX8_drift_142 rfl (lv_at hl 0 rfl) ?_
        refine lv_aload_n hx hb dX8_drift_143 rfl (lv_at hl 2 rfl) ?_
        refine lv_iload_n hx hb dX8_drift_144 rfl (lv_at hl 3 rfl) ?_
        refine lv_iconst (v := 3) hx hb dX8_drift_145 (by decide) ?_
        refine lv_aload_n hx hb dX8_drift_146 rfl (lv_at hl 2 rfl) ?_
        refine va_get (D := (dC, dI)) (ci := 8) (v := .ref m_now) (C := RX8) (T := TX8) (N := 29) hx hb hts hinX8_drift_X8 hown hK hP 0 rfl rfl 0 (by decide) (hts _ (List.mem_of_getElem? (i := 2) rfl)) (fun _ h9 => h9) rfl dX8_drift_147 ?_
        refine lv_bipush (v := 57) hx hb dX8_drift_150 (by decide) ?_
        refine k_iald (D := (dC, dI)) hx hb hK hP 1 1 rfl rfl (k := 57) (by decide) (show ¬ ((57 : Int32) < 0 ∨ 113 ≤ (57 : Int32).toNatClampNeg) from by decide) dX8_drift_152 ?_
        refine lv_iconst (v := 4) hx hb dX8_drift_153 (by decide) ?_
        refine lv_irem hx hb dX8_drift_154 (by decide) ?_
        refine lv_iadd hx hb dX8_drift_155 ?_
        obtain ⟨r156, hc156, hm⟩ := bd1_e hm
        refine k_callGVi (dC := dC) (dI := dI) (kc := kc) (As := [.int x1, .int (3 + ((mnow 57) - (mnow 57) / 4 * 4))]) (rest := [.int (-msum_2)]) (Gs' := [wdX8 kc m_o m_now m_mind m_then m_text m_rules m_sizes m_read m_names m_letters m_begins m_words m_drifts m_above m_bodies m_trace m_sorts m_lengths m_items m_moved mnow mmind mthen mkept mtext mtexted mrules msizes mruled mread_2 msize_2 mat_2 mwell_2 mwithin_2 msum_2 mbear_2 mnames_2 mletters mbegins mwords mdrifts mabove mbodies mtrace mran msorts mlengths mitems mmoved]) hx hb hml hown hts hK hP hD hS hA (ctX8_number (m_o := m_o) (m_now := m_now) (m_mind := m_mind) (m_then := m_then) (m_text := m_text) (m_rules := m_rules) (m_sizes := m_sizes) (m_read := m_read) (m_names := m_names) (m_letters := m_letters) (m_begins := m_begins) (m_words := m_words) (m_drifts := m_drifts) (m_above := m_above) (m_bodies := m_bodies) (m_trace := m_trace) (m_sorts := m_sorts) (m_lengths := m_lengths) (m_items := m_items) (m_moved := m_moved) (mnow := mnow) (mmind := mmind) (mthen := mthen) (mkept := mkept) (mtext := mtext) (mtexted := mtexted) (mrules := mrules) (msizes := msizes) (mruled := mruled) (mread := mread_2) (msize := msize_2) (mat := mat_2) (mwell := mwell_2) (mwithin := mwithin_2) (msum := msum_2) (mbear := mbear_2) (mnames := mnames_2) (mletters := mletters) (mbegins := mbegins) (mwords := mwords) (mdrifts := mdrifts) (mabove := mabove) (mbodies := mbodies) (mtrace := mtrace) (mran := mran) (msorts := msorts) (mlengths := mlengths) (mitems := mitems) (mmoved := mmoved) (x1 := x1) (x2 := 3 + ((mnow 57) - (mnow 57) / 4 * 4)) hc156) (cwV 2 hts gX8_drift_X8_number rfl rfl rfl (by decide +kernel) ⟨Nat.le_of_ble_eq_true rfl, Nat.le_of_ble_eq_true rfl⟩) [0] rfl (by decide) 8 rfl rfl rfl rfl hl rfl (Nat.le_of_ble_eq_true rfl) dX8_drift_156 ⟨Nat.zero_le _, Nat.zero_le _⟩ rfl rfl rfl (fun H locs hP hD hS => ?_)
        refine lv_iadd hx hb dX8_drift_159 ?_
        refine lv_iconst (v := 4) hx hb dX8_drift_160 (by decide) ?_
        refine lv_isub hx hb dX8_drift_161 ?_
        cases hm
        exact k_iret hx hb hr hlocks hP hS dX8_drift_162
      replace hm := it_f cs62_5 hm
      have nt62_0 := lv_neT (k := 1) (a := 1) cs62_0 (by decide)
      have nt62_1 := lv_neT (k := 2) (a := 2) cs62_1 (by decide)
      have nt62_2 := lv_neT (k := 3) (a := 3) cs62_2 (by decide)
      have nt62_3 := lv_neT (k := 4) (a := 4) cs62_3 (by decide)
      have nt62_4 := lv_neT (k := 5) (a := 5) cs62_4 (by decide)
      have nt62_5 := lv_neT (k := 6) (a := 6) cs62_5 (by decide)
      refine lv_tableOut (tgt := 163) hx hb dX8_drift_62 (by omega) (by decide) ?_
      refine lv_aload_n hx hb dX8_drift_163 rfl (lv_at hl 2 rfl) ?_
      refine va_get (D := (dC, dI)) (ci := 8) (v := .int msum_2) (C := RX8) (T := TX8) (N := 29) hx hb hts hinX8_drift_X8 hown hK hP 0 rfl rfl 14 (by decide) (hts _ (List.mem_of_getElem? (i := 1) rfl)) (fun _ h9 => h9) rfl dX8_drift_164 ?_
      cases hm
      exact k_iret hx hb hr hlocks hP hS dX8_drift_167
