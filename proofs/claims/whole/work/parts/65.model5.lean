def LX8_ends_24 (fu : Nat) (mrules : Nat → Int32) (msizes : Nat → Int32) (mletters : Nat → Int32) (mbegins : Nat → Int32) (mwords : Nat → Int32) (x1 : Int32) (mmind_19 : Nat → Int32) : Nat → Int32 → (Nat → Int32) → (Nat → Int32) → Int32 → Int32 → Int32 → Int32 → Int32 → Int32 → (Nat → Int32) → (Nat → Int32) → Option (Int32 × (Nat → Int32) × (Nat → Int32) × (Nat → Int32) × Int32 × Int32 × Int32 × Int32 × Int32 × Int32 × (Nat → Int32) × (Nat → Int32))
  | 0, _, _, _, _, _, _, _, _, _, _, _ => none
  | n24 + 1, l2_24, mnow_24, mread_24, msize_24, mat_24, mwell_24, mwithin_24, msum_24, mbear_24, mnames_24, mdrifts_24 => if (mnow_24 75) ≤ l2_24 then (if x1 = 0 then (bd1 (fX8_move fu mmind_19 mnow_24) (fun mnow_151 => some (mnow_24 56, mnow_151, mmind_19, mread_24, msize_24, mat_24, mwell_24, mwithin_24, msum_24, mbear_24, mnames_24, mdrifts_24))) else (bd1 (fX8_spots fu mnow_24) (fun r139 => bd1 (fX8_move fu mmind_19 mnow_24) (fun mnow_151 => some (r139, mnow_151, mmind_19, mread_24, msize_24, mat_24, mwell_24, mwithin_24, msum_24, mbear_24, mnames_24, mdrifts_24))))) else (gd (inb (76 + (2 * l2_24)) 113) (gd (inb (77 + (2 * l2_24)) 113) (if (mnow_24 ((76 + (2 * l2_24)).toNatClampNeg)) = 0 then (bd10 (fX8_step fu mnow_24 mrules msizes mread_24 msize_24 mat_24 mwell_24 mwithin_24 msum_24 mbear_24 mnames_24 mletters mbegins mwords mdrifts_24) (fun mnow_65 mread_65 msize_65 mat_65 mwell_65 mwithin_65 msum_65 mbear_65 mnames_65 mdrifts_65 => LX8_ends_24 fu mrules msizes mletters mbegins mwords x1 mmind_19 n24 (l2_24 + 1) mnow_65 mread_65 msize_65 mat_65 mwell_65 mwithin_65 msum_65 mbear_65 mnames_65 mdrifts_65)) else (if (mnow_24 ((76 + (2 * l2_24)).toNatClampNeg)) = 1 then (bd1 (fX8_holds mnow_24 (mnow_24 ((77 + (2 * l2_24)).toNatClampNeg)) (-1) (-1)) (fun mnow_81 => LX8_ends_24 fu mrules msizes mletters mbegins mwords x1 mmind_19 n24 (l2_24 + 1) mnow_81 mread_24 msize_24 mat_24 mwell_24 mwithin_24 msum_24 mbear_24 mnames_24 mdrifts_24)) else (if (mnow_24 ((76 + (2 * l2_24)).toNatClampNeg)) = 2 then (gd (inb (42 + (3 * (mnow_24 ((77 + (2 * l2_24)).toNatClampNeg)))) 113) (LX8_ends_24 fu mrules msizes mletters mbegins mwords x1 mmind_19 n24 (l2_24 + 1) (upd mnow_24 ((42 + (3 * (mnow_24 ((77 + (2 * l2_24)).toNatClampNeg)))).toNatClampNeg) 40) mread_24 msize_24 mat_24 mwell_24 mwithin_24 msum_24 mbear_24 mnames_24 mdrifts_24)) else (bd2 (fX8_change mnow_24 (mnow_24 ((77 + (2 * l2_24)).toNatClampNeg)) 2 0) (fun r114 mnow_114 => LX8_ends_24 fu mrules msizes mletters mbegins mwords x1 mmind_19 n24 (l2_24 + 1) mnow_114 mread_24 msize_24 mat_24 mwell_24 mwithin_24 msum_24 mbear_24 mnames_24 mdrifts_24)))))))
def fX8_ends (fu : Nat) (mnow : Nat → Int32) (mmind : Nat → Int32) (mrules : Nat → Int32) (msizes : Nat → Int32) (mread : Nat → Int32) (msize : Int32) (mat : Int32) (mwell : Int32) (mwithin : Int32) (msum : Int32) (mbear : Int32) (mnames : Nat → Int32) (mletters : Nat → Int32) (mbegins : Nat → Int32) (mwords : Nat → Int32) (mdrifts : Nat → Int32) (x1 : Int32) : Option (Int32 × (Nat → Int32) × (Nat → Int32) × (Nat → Int32) × Int32 × Int32 × Int32 × Int32 × Int32 × Int32 × (Nat → Int32) × (Nat → Int32)) := bd1 (fX8_isIn x1 0 1) (fun r3 => if r3 = 0 then (some (((-1) : Int32), mnow, mmind, mread, msize, mat, mwell, mwithin, msum, mbear, mnames, mdrifts)) else (bd1 (fX8_move fu mnow mmind) (fun mmind_19 => LX8_ends_24 fu mrules msizes mletters mbegins mwords x1 mmind_19 fu 0 mnow mread msize mat mwell mwithin msum mbear mnames mdrifts)))
theorem hinX8_ends_X8 : ∀ w ∈ u_ws RX8 TX8 29, w ∈ wsX8_ends := fun _ h => List.mem_cons_of_mem _ (List.mem_append_right _ h)
abbrev rmX8_ends : Room := { frames := 259, cells := 0, slots := 0, locals := 7012 }
set_option maxHeartbeats 4000000 in
set_option maxRecDepth 100000 in
theorem ctX8_ends {l : Launch} {dC : Nat → ClassId} {dI : Nat → Nat → Nat} {kc : Nat → ClassId} {m_o m_now m_mind m_then m_text m_rules m_sizes m_read m_names m_letters m_begins m_words m_drifts m_above m_bodies m_trace m_sorts m_lengths m_items m_moved : Nat} {mnow : Nat → Int32} {mmind : Nat → Int32} {mthen : Nat → Int32} {mkept : Int32} {mtext : Nat → Int32} {mtexted : Int32} {mrules : Nat → Int32} {msizes : Nat → Int32} {mruled : Int32} {mread : Nat → Int32} {msize : Int32} {mat : Int32} {mwell : Int32} {mwithin : Int32} {msum : Int32} {mbear : Int32} {mnames : Nat → Int32} {mletters : Nat → Int32} {mbegins : Nat → Int32} {mwords : Nat → Int32} {mdrifts : Nat → Int32} {mabove : Nat → Int32} {mbodies : Nat → Int32} {mtrace : Nat → Int32} {mran : Int32} {msorts : Nat → Int32} {mlengths : Nat → Int32} {mitems : Nat → Int64} {mmoved : Nat → Int64} {x1 : Int32} {fu : Nat} {r : Int32} {mnow' : Nat → Int32} {mmind' : Nat → Int32} {mread' : Nat → Int32} {msize' : Int32} {mat' : Int32} {mwell' : Int32} {mwithin' : Int32} {msum' : Int32} {mbear' : Int32} {mnames' : Nat → Int32} {mdrifts' : Nat → Int32} (hm : fX8_ends fu mnow mmind mrules msizes mread msize mat mwell mwithin msum mbear mnames mletters mbegins mwords mdrifts x1 = some (r, mnow', mmind', mread', msize', mat', mwell', mwithin', msum', mbear', mnames', mdrifts')) : ∀ sz : Nat, Met l yX8_ends wsX8_ends rmX8_ends (kPc dC dI kc [.ref m_o, .int x1] (fl [wdX8 kc m_o m_now m_mind m_then m_text m_rules m_sizes m_read m_names m_letters m_begins m_words m_drifts m_above m_bodies m_trace m_sorts m_lengths m_items m_moved mnow mmind mthen mkept mtext mtexted mrules msizes mruled mread msize mat mwell mwithin msum mbear mnames mletters mbegins mwords mdrifts mabove mbodies mtrace mran msorts mlengths mitems mmoved]) sz) (kQi dC dI r (fl [wdX8 kc m_o m_now m_mind m_then m_text m_rules m_sizes m_read m_names m_letters m_begins m_words m_drifts m_above m_bodies m_trace m_sorts m_lengths m_items m_moved mnow' mmind' mthen mkept mtext mtexted mrules msizes mruled mread' msize' mat' mwell' mwithin' msum' mbear' mnames' mletters mbegins mwords mdrifts' mabove mbodies mtrace mran msorts mlengths mitems mmoved]) (va_A (fl [wdX8 kc m_o m_now m_mind m_then m_text m_rules m_sizes m_read m_names m_letters m_begins m_words m_drifts m_above m_bodies m_trace m_sorts m_lengths m_items m_moved mnow mmind mthen mkept mtext mtexted mrules msizes mruled mread msize mat mwell mwithin msum mbear mnames mletters mbegins mwords mdrifts mabove mbodies mtrace mran msorts mlengths mitems mmoved]) sz)) 0 0 (va_A (fl [wdX8 kc m_o m_now m_mind m_then m_text m_rules m_sizes m_read m_names m_letters m_begins m_words m_drifts m_above m_bodies m_trace m_sorts m_lengths m_items m_moved mnow mmind mthen mkept mtext mtexted mrules msizes mruled mread msize mat mwell mwithin msum mbear mnames mletters mbegins mwords mdrifts mabove mbodies mtrace mran msorts mlengths mitems mmoved]) sz) := by
  intro sz
  refine kMet (cc := cX8_ends) (maxL := 5) (ret := (some .int)) (Qf := fun A => kQi dC dI r (fl [wdX8 kc m_o m_now m_mind m_then m_text m_rules m_sizes m_read m_names m_letters m_begins m_words m_drifts m_above m_bodies m_trace m_sorts m_lengths m_items m_moved mnow' mmind' mthen mkept mtext mtexted mrules msizes mruled mread' msize' mat' mwell' mwithin' msum' mbear' mnames' mletters mbegins mwords mdrifts' mabove mbodies mtrace mran msorts mlengths mitems mmoved]) A) (by decide) rfl (Nat.le_of_ble_eq_true rfl) ?_
  intro p e s m below meth c A ls hx hb hr hml hts hown hlocks hname hsz hA hP hK hD hl
  have hS : va_S A s.heap s.heap [] := va_S.rf
  have hl : lv_has ls 5 [(0, .ref m_o), (1, .int x1)] := hl
  unfold fX8_ends at hm
  refine lv_iload_n hx hb dX8_ends_0 rfl (lv_at hl 1 rfl) ?_
  refine lv_iconst (v := 0) hx hb dX8_ends_1 (by decide) ?_
  refine lv_iconst (v := 1) hx hb dX8_ends_2 (by decide) ?_
  obtain ⟨r3, hc3, hm⟩ := bd1_e hm
  refine k_callGSi (dC := dC) (dI := dI) (kc := kc) (As := [.int x1, .int 0, .int 1]) (rest := []) (Gs' := [wdX8 kc m_o m_now m_mind m_then m_text m_rules m_sizes m_read m_names m_letters m_begins m_words m_drifts m_above m_bodies m_trace m_sorts m_lengths m_items m_moved mnow mmind mthen mkept mtext mtexted mrules msizes mruled mread msize mat mwell mwithin msum mbear mnames mletters mbegins mwords mdrifts mabove mbodies mtrace mran msorts mlengths mitems mmoved]) hx hb hml hown hts hK hP hD hS hA (ctX8_isIn (x1 := x1) (x2 := 0) (x3 := 1) hc3) (va_cwS 3 hts gX8_ends_X8_isIn rfl rfl rfl (by decide +kernel) ⟨Nat.le_of_ble_eq_true rfl, Nat.le_of_ble_eq_true rfl⟩) [] rfl (by decide) rfl hl rfl (Nat.le_of_ble_eq_true rfl) dX8_ends_3 ⟨Nat.zero_le _, Nat.zero_le _⟩ rfl rfl rfl (fun H locs hP hD hS => ?_)
  refine lv_if_ne (tgt := 11) hx hb dX8_ends_6 (by decide) (fun c6 => ?_) (fun c6 => ?_)
  · replace hm := it_f c6 hm
    refine lv_aload_n hx hb dX8_ends_11 rfl (lv_at hl 0 rfl) ?_
    refine va_get (D := (dC, dI)) (ci := 8) (v := .ref m_now) (C := RX8) (T := TX8) (N := 29) hx hb hts hinX8_ends_X8 hown hK hP 0 rfl rfl 0 (by decide) (hts _ (List.mem_of_getElem? (i := 1) rfl)) (fun _ h9 => h9) rfl dX8_ends_12 ?_
    refine lv_aload_n hx hb dX8_ends_15 rfl (lv_at hl 0 rfl) ?_
    refine va_get (D := (dC, dI)) (ci := 8) (v := .ref m_mind) (C := RX8) (T := TX8) (N := 29) hx hb hts hinX8_ends_X8 hown hK hP 0 rfl rfl 1 (by decide) (hts _ (List.mem_of_getElem? (i := 2) rfl)) (fun _ h9 => h9) rfl dX8_ends_16 ?_
    obtain ⟨mmind_19, hc19, hm⟩ := bd1_e hm
    refine k_callSv (dC := dC) (dI := dI) (kc := kc) (As := [.ref m_now, .ref m_mind]) (rest := []) (ws' := fl [wdX8 kc m_o m_now m_mind m_then m_text m_rules m_sizes m_read m_names m_letters m_begins m_words m_drifts m_above m_bodies m_trace m_sorts m_lengths m_items m_moved mnow mmind_19 mthen mkept mtext mtexted mrules msizes mruled mread msize mat mwell mwithin msum mbear mnames mletters mbegins mwords mdrifts mabove mbodies mtrace mran msorts mlengths mitems mmoved]) hx hb hml hown hts hK hP hD hS hA (ctX8_move (q_o := m_now) (z_o := m_mind) (qarr := mnow) (zarr := mmind) hc19) (va_cwS 2 hts gX8_ends_X8_move rfl rfl rfl (by decide +kernel) ⟨Nat.le_of_ble_eq_true rfl, Nat.le_of_ble_eq_true rfl⟩) [1, 2] rfl (by decide) rfl hl rfl (Nat.le_of_ble_eq_true rfl) dX8_ends_19 ⟨Nat.zero_le _, Nat.zero_le _⟩ rfl rfl rfl (fun H locs hP hD hS => ?_)
    refine lv_iconst (v := 0) hx hb dX8_ends_22 (by decide) ?_
    refine lv_istore_n (lv' := [(2, .int 0), (0, .ref m_o), (1, .int x1)]) hx hb dX8_ends_23 rfl hl (by decide) rfl (fun ls hl => ?_)
    have hL24 : ∀ (fn : Nat) (l2_24 : Int32) (mnow_24 : Nat → Int32) (mread_24 : Nat → Int32) (msize_24 : Int32) (mat_24 : Int32) (mwell_24 : Int32) (mwithin_24 : Int32) (msum_24 : Int32) (mbear_24 : Int32) (mnames_24 : Nat → Int32) (mdrifts_24 : Nat → Int32), LX8_ends_24 fu mrules msizes mletters mbegins mwords x1 mmind_19 fn l2_24 mnow_24 mread_24 msize_24 mat_24 mwell_24 mwithin_24 msum_24 mbear_24 mnames_24 mdrifts_24 = some (r, mnow', mmind', mread', msize', mat', mwell', mwithin', msum', mbear', mnames', mdrifts') → ∀ (H : Heap) (locs : List Loc), va_P (dC, dI) vwCl (fl [wdX8 kc m_o m_now m_mind m_then m_text m_rules m_sizes m_read m_names m_letters m_begins m_words m_drifts m_above m_bodies m_trace m_sorts m_lengths m_items m_moved mnow_24 mmind_19 mthen mkept mtext mtexted mrules msizes mruled mread_24 msize_24 mat_24 mwell_24 mwithin_24 msum_24 mbear_24 mnames_24 mletters mbegins mwords mdrifts_24 mabove mbodies mtrace mran msorts mlengths mitems mmoved]) H → va_D A (fl [wdX8 kc m_o m_now m_mind m_then m_text m_rules m_sizes m_read m_names m_letters m_begins m_words m_drifts m_above m_bodies m_trace m_sorts m_lengths m_items m_moved mnow_24 mmind_19 mthen mkept mtext mtexted mrules msizes mruled mread_24 msize_24 mat_24 mwell_24 mwithin_24 msum_24 mbear_24 mnames_24 mletters mbegins mwords mdrifts_24 mabove mbodies mtrace mran msorts mlengths mitems mmoved]) → va_S A s.heap H locs → ∀ ls : Array Slot, lv_has ls 5 [(0, .ref m_o), (1, .int x1), (2, .int l2_24)] → W p l e (headSpec wsX8_ends rmX8_ends).room s m [.ref m_o, .int x1].toArray below meth c H locs 0 0 (MQ below (kQi dC dI r (fl [wdX8 kc m_o m_now m_mind m_then m_text m_rules m_sizes m_read m_names m_letters m_begins m_words m_drifts m_above m_bodies m_trace m_sorts m_lengths m_items m_moved mnow' mmind' mthen mkept mtext mtexted mrules msizes mruled mread' msize' mat' mwell' mwithin' msum' mbear' mnames' mletters mbegins mwords mdrifts' mabove mbodies mtrace mran msorts mlengths mitems mmoved]) A) [.ref m_o, .int x1].toArray s 0 0 A) (F0 m 24 ls []) := by
      clear hm hP hD hS hl
      intro n24
      induction n24 with
      | zero => intro l2_24 mnow_24 mread_24 msize_24 mat_24 mwell_24 mwithin_24 msum_24 mbear_24 mnames_24 mdrifts_24 hm; rw [LX8_ends_24] at hm; cases hm
      | succ n24 ih24 =>
        intro l2_24 mnow_24 mread_24 msize_24 mat_24 mwell_24 mwithin_24 msum_24 mbear_24 mnames_24 mdrifts_24 hm H locs hP hD hS ls hl
        rw [LX8_ends_24] at hm
        refine lv_iload_n hx hb dX8_ends_24 rfl (lv_at hl 2 rfl) ?_
        refine lv_aload_n hx hb dX8_ends_25 rfl (lv_at hl 0 rfl) ?_
        refine va_get (D := (dC, dI)) (ci := 8) (v := .ref m_now) (C := RX8) (T := TX8) (N := 29) hx hb hts hinX8_ends_X8 hown hK hP 0 rfl rfl 0 (by decide) (hts _ (List.mem_of_getElem? (i := 1) rfl)) (fun _ h9 => h9) rfl dX8_ends_26 ?_
        refine lv_bipush (v := 75) hx hb dX8_ends_29 (by decide) ?_
        refine k_iald (D := (dC, dI)) hx hb hK hP 1 1 rfl rfl (k := 75) (by decide) (show ¬ ((75 : Int32) < 0 ∨ 113 ≤ (75 : Int32).toNatClampNeg) from by decide) dX8_ends_31 ?_
        refine lv_icmp_ge (tgt := 124) hx hb dX8_ends_32 (by decide) (fun c32 => ?_) (fun c32 => ?_)
        · replace hm := it_t c32 hm
          refine lv_iload_n hx hb dX8_ends_124 rfl (lv_at hl 1 rfl) ?_
          refine lv_if_ne (tgt := 138) hx hb dX8_ends_125 (by decide) (fun c125 => ?_) (fun c125 => ?_)
          · replace hm := it_f c125 hm
            refine lv_aload_n hx hb dX8_ends_138 rfl (lv_at hl 0 rfl) ?_
            obtain ⟨r139, hc139, hm⟩ := bd1_e hm
            refine k_callGVi (dC := dC) (dI := dI) (kc := kc) (As := []) (rest := []) (Gs' := [wdX8 kc m_o m_now m_mind m_then m_text m_rules m_sizes m_read m_names m_letters m_begins m_words m_drifts m_above m_bodies m_trace m_sorts m_lengths m_items m_moved mnow_24 mmind_19 mthen mkept mtext mtexted mrules msizes mruled mread_24 msize_24 mat_24 mwell_24 mwithin_24 msum_24 mbear_24 mnames_24 mletters mbegins mwords mdrifts_24 mabove mbodies mtrace mran msorts mlengths mitems mmoved]) hx hb hml hown hts hK hP hD hS hA (ctX8_spots (m_o := m_o) (m_now := m_now) (m_mind := m_mind) (m_then := m_then) (m_text := m_text) (m_rules := m_rules) (m_sizes := m_sizes) (m_read := m_read) (m_names := m_names) (m_letters := m_letters) (m_begins := m_begins) (m_words := m_words) (m_drifts := m_drifts) (m_above := m_above) (m_bodies := m_bodies) (m_trace := m_trace) (m_sorts := m_sorts) (m_lengths := m_lengths) (m_items := m_items) (m_moved := m_moved) (mnow := mnow_24) (mmind := mmind_19) (mthen := mthen) (mkept := mkept) (mtext := mtext) (mtexted := mtexted) (mrules := mrules) (msizes := msizes) (mruled := mruled) (mread := mread_24) (msize := msize_24) (mat := mat_24) (mwell := mwell_24) (mwithin := mwithin_24) (msum := msum_24) (mbear := mbear_24) (mnames := mnames_24) (mletters := mletters) (mbegins := mbegins) (mwords := mwords) (mdrifts := mdrifts_24) (mabove := mabove) (mbodies := mbodies) (mtrace := mtrace) (mran := mran) (msorts := msorts) (mlengths := mlengths) (mitems := mitems) (mmoved := mmoved) hc139) (cwV 0 hts gX8_ends_X8_spots rfl rfl rfl (by decide +kernel) ⟨Nat.le_of_ble_eq_true rfl, Nat.le_of_ble_eq_true rfl⟩) [0] rfl (by decide) 8 rfl rfl rfl rfl hl rfl (Nat.le_of_ble_eq_true rfl) dX8_ends_139 ⟨Nat.zero_le _, Nat.zero_le _⟩ rfl rfl rfl (fun H locs hP hD hS => ?_)
            refine lv_istore_n (lv' := [(2, .int r139), (0, .ref m_o), (1, .int x1)]) hx hb dX8_ends_142 rfl hl (by decide) rfl (fun ls hl => ?_)
            refine lv_aload_n hx hb dX8_ends_143 rfl (lv_at hl 1 rfl) ?_
            refine va_get (D := (dC, dI)) (ci := 8) (v := .ref m_mind) (C := RX8) (T := TX8) (N := 29) hx hb hts hinX8_ends_X8 hown hK hP 0 rfl rfl 1 (by decide) (hts _ (List.mem_of_getElem? (i := 2) rfl)) (fun _ h9 => h9) rfl dX8_ends_144 ?_
            refine lv_aload_n hx hb dX8_ends_147 rfl (lv_at hl 1 rfl) ?_
            refine va_get (D := (dC, dI)) (ci := 8) (v := .ref m_now) (C := RX8) (T := TX8) (N := 29) hx hb hts hinX8_ends_X8 hown hK hP 0 rfl rfl 0 (by decide) (hts _ (List.mem_of_getElem? (i := 1) rfl)) (fun _ h9 => h9) rfl dX8_ends_148 ?_
            obtain ⟨mnow_151, hc151, hm⟩ := bd1_e hm
            refine k_callSv (dC := dC) (dI := dI) (kc := kc) (As := [.ref m_mind, .ref m_now]) (rest := []) (ws' := fl [wdX8 kc m_o m_now m_mind m_then m_text m_rules m_sizes m_read m_names m_letters m_begins m_words m_drifts m_above m_bodies m_trace m_sorts m_lengths m_items m_moved mnow_151 mmind_19 mthen mkept mtext mtexted mrules msizes mruled mread_24 msize_24 mat_24 mwell_24 mwithin_24 msum_24 mbear_24 mnames_24 mletters mbegins mwords mdrifts_24 mabove mbodies mtrace mran msorts mlengths mitems mmoved]) hx hb hml hown hts hK hP hD hS hA (ctX8_move (q_o := m_mind) (z_o := m_now) (qarr := mmind_19) (zarr := mnow_24) hc151) (va_cwS 2 hts gX8_ends_X8_move rfl rfl rfl (by decide +kernel) ⟨Nat.le_of_ble_eq_true rfl, Nat.le_of_ble_eq_true rfl⟩) [2, 1] rfl (by decide) rfl hl rfl (Nat.le_of_ble_eq_true rfl) dX8_ends_151 ⟨Nat.zero_le _, Nat.zero_le _⟩ rfl rfl rfl (fun H locs hP hD hS => ?_)
            refine lv_iload_n hx hb dX8_ends_154 rfl (lv_at hl 0 rfl) ?_
            cases hm
            exact k_iret hx hb hr hlocks hP hS dX8_ends_155
          · replace hm := it_t c125 hm
            refine lv_aload_n hx hb dX8_ends_128 rfl (lv_at hl 0 rfl) ?_
            refine va_get (D := (dC, dI)) (ci := 8) (v := .ref m_now) (C := RX8) (T := TX8) (N := 29) hx hb hts hinX8_ends_X8 hown hK hP 0 rfl rfl 0 (by decide) (hts _ (List.mem_of_getElem? (i := 1) rfl)) (fun _ h9 => h9) rfl dX8_ends_129 ?_
            refine lv_bipush (v := 56) hx hb dX8_ends_132 (by decide) ?_
            refine k_iald (D := (dC, dI)) hx hb hK hP 1 1 rfl rfl (k := 56) (by decide) (show ¬ ((56 : Int32) < 0 ∨ 113 ≤ (56 : Int32).toNatClampNeg) from by decide) dX8_ends_134 ?_
            refine lv_goto (tgt := 142) hx hb dX8_ends_135 (by decide) ?_
            refine lv_istore_n (lv' := [(2, .int (mnow_24 56)), (0, .ref m_o), (1, .int x1)]) hx hb dX8_ends_142 rfl hl (by decide) rfl (fun ls hl => ?_)
            refine lv_aload_n hx hb dX8_ends_143 rfl (lv_at hl 1 rfl) ?_
            refine va_get (D := (dC, dI)) (ci := 8) (v := .ref m_mind) (C := RX8) (T := TX8) (N := 29) hx hb hts hinX8_ends_X8 hown hK hP 0 rfl rfl 1 (by decide) (hts _ (List.mem_of_getElem? (i := 2) rfl)) (fun _ h9 => h9) rfl dX8_ends_144 ?_
            refine lv_aload_n hx hb dX8_ends_147 rfl (lv_at hl 1 rfl) ?_
            refine va_get (D := (dC, dI)) (ci := 8) (v := .ref m_now) (C := RX8) (T := TX8) (N := 29) hx hb hts hinX8_ends_X8 hown hK hP 0 rfl rfl 0 (by decide) (hts _ (List.mem_of_getElem? (i := 1) rfl)) (fun _ h9 => h9) rfl dX8_ends_148 ?_
            obtain ⟨mnow_151, hc151, hm⟩ := bd1_e hm
            refine k_callSv (dC := dC) (dI := dI) (kc := kc) (As := [.ref m_mind, .ref m_now]) (rest := []) (ws' := fl [wdX8 kc m_o m_now m_mind m_then m_text m_rules m_sizes m_read m_names m_letters m_begins m_words m_drifts m_above m_bodies m_trace m_sorts m_lengths m_items m_moved mnow_151 mmind_19 mthen mkept mtext mtexted mrules msizes mruled mread_24 msize_24 mat_24 mwell_24 mwithin_24 msum_24 mbear_24 mnames_24 mletters mbegins mwords mdrifts_24 mabove mbodies mtrace mran msorts mlengths mitems mmoved]) hx hb hml hown hts hK hP hD hS hA (ctX8_move (q_o := m_mind) (z_o := m_now) (qarr := mmind_19) (zarr := mnow_24) hc151) (va_cwS 2 hts gX8_ends_X8_move rfl rfl rfl (by decide +kernel) ⟨Nat.le_of_ble_eq_true rfl, Nat.le_of_ble_eq_true rfl⟩) [2, 1] rfl (by decide) rfl hl rfl (Nat.le_of_ble_eq_true rfl) dX8_ends_151 ⟨Nat.zero_le _, Nat.zero_le _⟩ rfl rfl rfl (fun H locs hP hD hS => ?_)
            refine lv_iload_n hx hb dX8_ends_154 rfl (lv_at hl 0 rfl) ?_
            cases hm
            exact k_iret hx hb hr hlocks hP hS dX8_ends_155
        · replace hm := it_f c32 hm
          refine lv_aload_n hx hb dX8_ends_35 rfl (lv_at hl 0 rfl) ?_
          refine va_get (D := (dC, dI)) (ci := 8) (v := .ref m_now) (C := RX8) (T := TX8) (N := 29) hx hb hts hinX8_ends_X8 hown hK hP 0 rfl rfl 0 (by decide) (hts _ (List.mem_of_getElem? (i := 1) rfl)) (fun _ h9 => h9) rfl dX8_ends_36 ?_
          refine lv_bipush (v := 76) hx hb dX8_ends_39 (by decide) ?_
          refine lv_iconst (v := 2) hx hb dX8_ends_41 (by decide) ?_
          refine lv_iload_n hx hb dX8_ends_42 rfl (lv_at hl 2 rfl) ?_
          refine lv_imul hx hb dX8_ends_43 ?_
          refine lv_iadd hx hb dX8_ends_44 ?_
          obtain ⟨hg45, hm⟩ := gd_e hm
          refine k_iald (D := (dC, dI)) hx hb hK hP 1 1 rfl rfl (k := (76 + (2 * l2_24)).toNatClampNeg) rfl hg45 dX8_ends_45 ?_
          refine lv_istore_n (lv' := [(3, .int (mnow_24 ((76 + (2 * l2_24)).toNatClampNeg))), (0, .ref m_o), (1, .int x1), (2, .int l2_24)]) hx hb dX8_ends_46 rfl hl (by decide) rfl (fun ls hl => ?_)
          refine lv_aload_n hx hb dX8_ends_47 rfl (lv_at hl 1 rfl) ?_
          refine va_get (D := (dC, dI)) (ci := 8) (v := .ref m_now) (C := RX8) (T := TX8) (N := 29) hx hb hts hinX8_ends_X8 hown hK hP 0 rfl rfl 0 (by decide) (hts _ (List.mem_of_getElem? (i := 1) rfl)) (fun _ h9 => h9) rfl dX8_ends_48 ?_
          refine lv_bipush (v := 77) hx hb dX8_ends_51 (by decide) ?_
          refine lv_iconst (v := 2) hx hb dX8_ends_53 (by decide) ?_
          refine lv_iload_n hx hb dX8_ends_54 rfl (lv_at hl 3 rfl) ?_
          refine lv_imul hx hb dX8_ends_55 ?_
          refine lv_iadd hx hb dX8_ends_56 ?_
          obtain ⟨hg57, hm⟩ := gd_e hm
          refine k_iald (D := (dC, dI)) hx hb hK hP 1 1 rfl rfl (k := (77 + (2 * l2_24)).toNatClampNeg) rfl hg57 dX8_ends_57 ?_
          refine lv_istore (lv' := [(4, .int (mnow_24 ((77 + (2 * l2_24)).toNatClampNeg))), (3, .int (mnow_24 ((76 + (2 * l2_24)).toNatClampNeg))), (0, .ref m_o), (1, .int x1), (2, .int l2_24)]) hx hb dX8_ends_58 hl (by decide) rfl (fun ls hl => ?_)
          refine lv_iload_n hx hb dX8_ends_60 rfl (lv_at hl 1 rfl) ?_
          refine lv_if_ne (tgt := 71) hx hb dX8_ends_61 (by decide) (fun c61 => ?_) (fun c61 => ?_)
          · replace hm := it_f c61 hm
            refine lv_iload_n hx hb dX8_ends_71 rfl (lv_at hl 1 rfl) ?_
            refine lv_iconst (v := 1) hx hb dX8_ends_72 (by decide) ?_
            refine lv_icmp_ne (tgt := 87) hx hb dX8_ends_73 (by decide) (fun c73 => ?_) (fun c73 => ?_)
            · replace hm := it_f c73 hm
              refine lv_iload_n hx hb dX8_ends_87 rfl (lv_at hl 1 rfl) ?_
              refine lv_iconst (v := 2) hx hb dX8_ends_88 (by decide) ?_
              refine lv_icmp_ne (tgt := 109) hx hb dX8_ends_89 (by decide) (fun c89 => ?_) (fun c89 => ?_)
              · replace hm := it_f c89 hm
                refine lv_aload_n hx hb dX8_ends_109 rfl (lv_at hl 2 rfl) ?_
                refine lv_iload hx hb dX8_ends_110 (lv_at hl 0 rfl) ?_
                refine lv_iconst (v := 2) hx hb dX8_ends_112 (by decide) ?_
                refine lv_iconst (v := 0) hx hb dX8_ends_113 (by decide) ?_
                obtain ⟨r114, mnow_114, hc114, hm⟩ := bd2_e hm
                refine k_callGVi (dC := dC) (dI := dI) (kc := kc) (As := [.int (mnow_24 ((77 + (2 * l2_24)).toNatClampNeg)), .int 2, .int 0]) (rest := []) (Gs' := [wdX8 kc m_o m_now m_mind m_then m_text m_rules m_sizes m_read m_names m_letters m_begins m_words m_drifts m_above m_bodies m_trace m_sorts m_lengths m_items m_moved mnow_114 mmind_19 mthen mkept mtext mtexted mrules msizes mruled mread_24 msize_24 mat_24 mwell_24 mwithin_24 msum_24 mbear_24 mnames_24 mletters mbegins mwords mdrifts_24 mabove mbodies mtrace mran msorts mlengths mitems mmoved]) hx hb hml hown hts hK hP hD hS hA (ctX8_change (m_o := m_o) (m_now := m_now) (m_mind := m_mind) (m_then := m_then) (m_text := m_text) (m_rules := m_rules) (m_sizes := m_sizes) (m_read := m_read) (m_names := m_names) (m_letters := m_letters) (m_begins := m_begins) (m_words := m_words) (m_drifts := m_drifts) (m_above := m_above) (m_bodies := m_bodies) (m_trace := m_trace) (m_sorts := m_sorts) (m_lengths := m_lengths) (m_items := m_items) (m_moved := m_moved) (mnow := mnow_24) (mmind := mmind_19) (mthen := mthen) (mkept := mkept) (mtext := mtext) (mtexted := mtexted) (mrules := mrules) (msizes := msizes) (mruled := mruled) (mread := mread_24) (msize := msize_24) (mat := mat_24) (mwell := mwell_24) (mwithin := mwithin_24) (msum := msum_24) (mbear := mbear_24) (mnames := mnames_24) (mletters := mletters) (mbegins := mbegins) (mwords := mwords) (mdrifts := mdrifts_24) (mabove := mabove) (mbodies := mbodies) (mtrace := mtrace) (mran := mran) (msorts := msorts) (mlengths := mlengths) (mitems := mitems) (mmoved := mmoved) (x1 := mnow_24 ((77 + (2 * l2_24)).toNatClampNeg)) (x2 := 2) (x3 := 0) hc114) (cwV 3 hts gX8_ends_X8_change rfl rfl rfl (by decide +kernel) ⟨Nat.le_of_ble_eq_true rfl, Nat.le_of_ble_eq_true rfl⟩) [0] rfl (by decide) 8 rfl rfl rfl rfl hl rfl (Nat.le_of_ble_eq_true rfl) dX8_ends_114 ⟨Nat.zero_le _, Nat.zero_le _⟩ rfl rfl rfl (fun H locs hP hD hS => ?_)
                refine lv_pop hx hb dX8_ends_117 rfl ?_
                refine lv_iinc (v := l2_24 + 1) (lv' := [(2, .int (l2_24 + 1)), (4, .int (mnow_24 ((77 + (2 * l2_24)).toNatClampNeg))), (3, .int (mnow_24 ((76 + (2 * l2_24)).toNatClampNeg))), (0, .ref m_o), (1, .int x1)]) hx hb dX8_ends_118 hl (k := 4) rfl rfl (by decide) rfl (fun ls hl => ?_)
                refine lv_goto (tgt := 24) hx hb dX8_ends_121 (by decide) ?_
                exact ih24 (l2_24 + 1) mnow_114 mread_24 msize_24 mat_24 mwell_24 mwithin_24 msum_24 mbear_24 mnames_24 mdrifts_24 hm _ _ hP hD hS _ (lv_sub hl [3, 4, 0] rfl)
              · replace hm := it_t c89 hm
                refine lv_aload_n hx hb dX8_ends_92 rfl (lv_at hl 2 rfl) ?_
                refine va_get (D := (dC, dI)) (ci := 8) (v := .ref m_now) (C := RX8) (T := TX8) (N := 29) hx hb hts hinX8_ends_X8 hown hK hP 0 rfl rfl 0 (by decide) (hts _ (List.mem_of_getElem? (i := 1) rfl)) (fun _ h9 => h9) rfl dX8_ends_93 ?_
                refine lv_bipush (v := 42) hx hb dX8_ends_96 (by decide) ?_
                refine lv_iconst (v := 3) hx hb dX8_ends_98 (by decide) ?_
                refine lv_iload hx hb dX8_ends_99 (lv_at hl 0 rfl) ?_
                refine lv_imul hx hb dX8_ends_101 ?_
                refine lv_iadd hx hb dX8_ends_102 ?_
                refine lv_bipush (v := 40) hx hb dX8_ends_103 (by decide) ?_
                obtain ⟨hg105, hm⟩ := gd_e hm
                refine k_iast (D := (dC, dI)) hx hb hK hP hD hS 1 1 rfl rfl (k := (42 + (3 * (mnow_24 ((77 + (2 * l2_24)).toNatClampNeg)))).toNatClampNeg) rfl hg105 dX8_ends_105 (fun H locs hP hD hS => ?_)
                have hP : va_P (dC, dI) vwCl (fl [wdX8 kc m_o m_now m_mind m_then m_text m_rules m_sizes m_read m_names m_letters m_begins m_words m_drifts m_above m_bodies m_trace m_sorts m_lengths m_items m_moved (upd mnow_24 ((42 + (3 * (mnow_24 ((77 + (2 * l2_24)).toNatClampNeg)))).toNatClampNeg) 40) mmind_19 mthen mkept mtext mtexted mrules msizes mruled mread_24 msize_24 mat_24 mwell_24 mwithin_24 msum_24 mbear_24 mnames_24 mletters mbegins mwords mdrifts_24 mabove mbodies mtrace mran msorts mlengths mitems mmoved]) H := hP
                have hD : va_D A (fl [wdX8 kc m_o m_now m_mind m_then m_text m_rules m_sizes m_read m_names m_letters m_begins m_words m_drifts m_above m_bodies m_trace m_sorts m_lengths m_items m_moved (upd mnow_24 ((42 + (3 * (mnow_24 ((77 + (2 * l2_24)).toNatClampNeg)))).toNatClampNeg) 40) mmind_19 mthen mkept mtext mtexted mrules msizes mruled mread_24 msize_24 mat_24 mwell_24 mwithin_24 msum_24 mbear_24 mnames_24 mletters mbegins mwords mdrifts_24 mabove mbodies mtrace mran msorts mlengths mitems mmoved]) := hD
                refine lv_goto (tgt := 118) hx hb dX8_ends_106 (by decide) ?_
                refine lv_iinc (v := l2_24 + 1) (lv' := [(2, .int (l2_24 + 1)), (4, .int (mnow_24 ((77 + (2 * l2_24)).toNatClampNeg))), (3, .int (mnow_24 ((76 + (2 * l2_24)).toNatClampNeg))), (0, .ref m_o), (1, .int x1)]) hx hb dX8_ends_118 hl (k := 4) rfl rfl (by decide) rfl (fun ls hl => ?_)
                refine lv_goto (tgt := 24) hx hb dX8_ends_121 (by decide) ?_
                exact ih24 (l2_24 + 1) (upd mnow_24 ((42 + (3 * (mnow_24 ((77 + (2 * l2_24)).toNatClampNeg)))).toNatClampNeg) 40) mread_24 msize_24 mat_24 mwell_24 mwithin_24 msum_24 mbear_24 mnames_24 mdrifts_24 hm _ _ hP hD hS _ (lv_sub hl [3, 4, 0] rfl)
            · replace hm := it_t c73 hm
              refine lv_aload_n hx hb dX8_ends_76 rfl (lv_at hl 2 rfl) ?_
              refine lv_iload hx hb dX8_ends_77 (lv_at hl 0 rfl) ?_
              refine lv_iconst (v := (-1)) hx hb dX8_ends_79 (by decide) ?_
              refine lv_iconst (v := (-1)) hx hb dX8_ends_80 (by decide) ?_
              obtain ⟨mnow_81, hc81, hm⟩ := bd1_e hm
              refine k_callGVv (dC := dC) (dI := dI) (kc := kc) (As := [.int (mnow_24 ((77 + (2 * l2_24)).toNatClampNeg)), .int (-1), .int (-1)]) (rest := []) (Gs' := [wdX8 kc m_o m_now m_mind m_then m_text m_rules m_sizes m_read m_names m_letters m_begins m_words m_drifts m_above m_bodies m_trace m_sorts m_lengths m_items m_moved mnow_81 mmind_19 mthen mkept mtext mtexted mrules msizes mruled mread_24 msize_24 mat_24 mwell_24 mwithin_24 msum_24 mbear_24 mnames_24 mletters mbegins mwords mdrifts_24 mabove mbodies mtrace mran msorts mlengths mitems mmoved]) hx hb hml hown hts hK hP hD hS hA (ctX8_holds (m_o := m_o) (m_now := m_now) (m_mind := m_mind) (m_then := m_then) (m_text := m_text) (m_rules := m_rules) (m_sizes := m_sizes) (m_read := m_read) (m_names := m_names) (m_letters := m_letters) (m_begins := m_begins) (m_words := m_words) (m_drifts := m_drifts) (m_above := m_above) (m_bodies := m_bodies) (m_trace := m_trace) (m_sorts := m_sorts) (m_lengths := m_lengths) (m_items := m_items) (m_moved := m_moved) (mnow := mnow_24) (mmind := mmind_19) (mthen := mthen) (mkept := mkept) (mtext := mtext) (mtexted := mtexted) (mrules := mrules) (msizes := msizes) (mruled := mruled) (mread := mread_24) (msize := msize_24) (mat := mat_24) (mwell := mwell_24) (mwithin := mwithin_24) (msum := msum_24) (mbear := mbear_24) (mnames := mnames_24) (mletters := mletters) (mbegins := mbegins) (mwords := mwords) (mdrifts := mdrifts_24) (mabove := mabove) (mbodies := mbodies) (mtrace := mtrace) (mran := mran) (msorts := msorts) (mlengths := mlengths) (mitems := mitems) (mmoved := mmoved) (x1 := mnow_24 ((77 + (2 * l2_24)).toNatClampNeg)) (x2 := (-1)) (x3 := (-1)) hc81) (cwV 3 hts gX8_ends_X8_holds rfl rfl rfl (by decide +kernel) ⟨Nat.le_of_ble_eq_true rfl, Nat.le_of_ble_eq_true rfl⟩) [0] rfl (by decide) 8 rfl rfl rfl rfl hl rfl (Nat.le_of_ble_eq_true rfl) dX8_ends_81 ⟨Nat.zero_le _, Nat.zero_le _⟩ rfl rfl rfl (fun H locs hP hD hS => ?_)
              refine lv_goto (tgt := 118) hx hb dX8_ends_84 (by decide) ?_
              refine lv_iinc (v := l2_24 + 1) (lv' := [(2, .int (l2_24 + 1)), (4, .int (mnow_24 ((77 + (2 * l2_24)).toNatClampNeg))), (3, .int (mnow_24 ((76 + (2 * l2_24)).toNatClampNeg))), (0, .ref m_o), (1, .int x1)]) hx hb dX8_ends_118 hl (k := 4) rfl rfl (by decide) rfl (fun ls hl => ?_)
              refine lv_goto (tgt := 24) hx hb dX8_ends_121 (by decide) ?_
              exact ih24 (l2_24 + 1) mnow_81 mread_24 msize_24 mat_24 mwell_24 mwithin_24 msum_24 mbear_24 mnames_24 mdrifts_24 hm _ _ hP hD hS _ (lv_sub hl [3, 4, 0] rfl)
          · replace hm := it_t c61 hm
            refine lv_aload_n hx hb dX8_ends_64 rfl (lv_at hl 2 rfl) ?_
            obtain ⟨mnow_65, mread_65, msize_65, mat_65, mwell_65, mwithin_65, msum_65, mbear_65, mnames_65, mdrifts_65, hc65, hm⟩ := bd10_e hm
            refine k_callGVv (dC := dC) (dI := dI) (kc := kc) (As := []) (rest := []) (Gs' := [wdX8 kc m_o m_now m_mind m_then m_text m_rules m_sizes m_read m_names m_letters m_begins m_words m_drifts m_above m_bodies m_trace m_sorts m_lengths m_items m_moved mnow_65 mmind_19 mthen mkept mtext mtexted mrules msizes mruled mread_65 msize_65 mat_65 mwell_65 mwithin_65 msum_65 mbear_65 mnames_65 mletters mbegins mwords mdrifts_65 mabove mbodies mtrace mran msorts mlengths mitems mmoved]) hx hb hml hown hts hK hP hD hS hA (ctX8_step (m_o := m_o) (m_now := m_now) (m_mind := m_mind) (m_then := m_then) (m_text := m_text) (m_rules := m_rules) (m_sizes := m_sizes) (m_read := m_read) (m_names := m_names) (m_letters := m_letters) (m_begins := m_begins) (m_words := m_words) (m_drifts := m_drifts) (m_above := m_above) (m_bodies := m_bodies) (m_trace := m_trace) (m_sorts := m_sorts) (m_lengths := m_lengths) (m_items := m_items) (m_moved := m_moved) (mnow := mnow_24) (mmind := mmind_19) (mthen := mthen) (mkept := mkept) (mtext := mtext) (mtexted := mtexted) (mrules := mrules) (msizes := msizes) (mruled := mruled) (mread := mread_24) (msize := msize_24) (mat := mat_24) (mwell := mwell_24) (mwithin := mwithin_24) (msum := msum_24) (mbear := mbear_24) (mnames := mnames_24) (mletters := mletters) (mbegins := mbegins) (mwords := mwords) (mdrifts := mdrifts_24) (mabove := mabove) (mbodies := mbodies) (mtrace := mtrace) (mran := mran) (msorts := msorts) (mlengths := mlengths) (mitems := mitems) (mmoved := mmoved) hc65) (cwV 0 hts gX8_ends_X8_step rfl rfl rfl (by decide +kernel) ⟨Nat.le_of_ble_eq_true rfl, Nat.le_of_ble_eq_true rfl⟩) [0] rfl (by decide) 8 rfl rfl rfl rfl hl rfl (Nat.le_of_ble_eq_true rfl) dX8_ends_65 ⟨Nat.zero_le _, Nat.zero_le _⟩ rfl rfl rfl (fun H locs hP hD hS => ?_)
            refine lv_goto (tgt := 118) hx hb dX8_ends_68 (by decide) ?_
            refine lv_iinc (v := l2_24 + 1) (lv' := [(2, .int (l2_24 + 1)), (4, .int (mnow_24 ((77 + (2 * l2_24)).toNatClampNeg))), (3, .int (mnow_24 ((76 + (2 * l2_24)).toNatClampNeg))), (0, .ref m_o), (1, .int x1)]) hx hb dX8_ends_118 hl (k := 4) rfl rfl (by decide) rfl (fun ls hl => ?_)
            refine lv_goto (tgt := 24) hx hb dX8_ends_121 (by decide) ?_
            exact ih24 (l2_24 + 1) mnow_65 mread_65 msize_65 mat_65 mwell_65 mwithin_65 msum_65 mbear_65 mnames_65 mdrifts_65 hm _ _ hP hD hS _ (lv_sub hl [3, 4, 0] rfl)
    exact hL24 _ _ _ _ _ _ _ _ _ _ _ _ hm _ _ hP hD hS _ (lv_sub hl [1, 2, 0] rfl)
  · replace hm := it_t c6 hm
    refine lv_iconst (v := (-1)) hx hb dX8_ends_9 (by decide) ?_
    cases hm
    exact k_iret hx hb hr hlocks hP hS dX8_ends_10
def fX8_book (mnow : Nat → Int32) (x1 : Int32) (x2 : Int32) : Option (Int32 × (Nat → Int32)) := if x1 = (-1) then (some ((0 : Int32), upd mnow 96 0)) else (bd1 (fX8_isOne mnow x1) (fun r17 => if r17 = 0 then (some (((-1) : Int32), mnow)) else (bd1 (fX8_isIn x2 0 99) (fun r29 => if r29 = 0 then (some (((-2) : Int32), mnow)) else (if (mnow 96) = 8 then (some (((-4) : Int32), mnow)) else (gd (inb (97 + (2 * (mnow 96))) 113) (gd (inb (98 + (2 * ((upd mnow ((97 + (2 * (mnow 96))).toNatClampNeg) x1) 96))) 113) (some ((upd (upd (upd mnow ((97 + (2 * (mnow 96))).toNatClampNeg) x1) ((98 + (2 * ((upd mnow ((97 + (2 * (mnow 96))).toNatClampNeg) x1) 96))).toNatClampNeg) x2) 96 (((upd (upd mnow ((97 + (2 * (mnow 96))).toNatClampNeg) x1) ((98 + (2 * ((upd mnow ((97 + (2 * (mnow 96))).toNatClampNeg) x1) 96))).toNatClampNeg) x2) 96) + 1)) 96, upd (upd (upd mnow ((97 + (2 * (mnow 96))).toNatClampNeg) x1) ((98 + (2 * ((upd mnow ((97 + (2 * (mnow 96))).toNatClampNeg) x1) 96))).toNatClampNeg) x2) 96 (((upd (upd mnow ((97 + (2 * (mnow 96))).toNatClampNeg) x1) ((98 + (2 * ((upd mnow ((97 + (2 * (mnow 96))).toNatClampNeg) x1) 96))).toNatClampNeg) x2) 96) + 1))))))))))
theorem hinX8_book_X8 : ∀ w ∈ u_ws RX8 TX8 29, w ∈ wsX8_book := fun _ h => List.mem_cons_of_mem _ (List.mem_append_right _ h)
abbrev rmX8_book : Room := { frames := 2, cells := 0, slots := 0, locals := 55 }
set_option maxHeartbeats 4000000 in
set_option maxRecDepth 100000 in
theorem ctX8_book {l : Launch} {dC : Nat → ClassId} {dI : Nat → Nat → Nat} {kc : Nat → ClassId} {m_o m_now m_mind m_then m_text m_rules m_sizes m_read m_names m_letters m_begins m_words m_drifts m_above m_bodies m_trace m_sorts m_lengths m_items m_moved : Nat} {mnow : Nat → Int32} {mmind : Nat → Int32} {mthen : Nat → Int32} {mkept : Int32} {mtext : Nat → Int32} {mtexted : Int32} {mrules : Nat → Int32} {msizes : Nat → Int32} {mruled : Int32} {mread : Nat → Int32} {msize : Int32} {mat : Int32} {mwell : Int32} {mwithin : Int32} {msum : Int32} {mbear : Int32} {mnames : Nat → Int32} {mletters : Nat → Int32} {mbegins : Nat → Int32} {mwords : Nat → Int32} {mdrifts : Nat → Int32} {mabove : Nat → Int32} {mbodies : Nat → Int32} {mtrace : Nat → Int32} {mran : Int32} {msorts : Nat → Int32} {mlengths : Nat → Int32} {mitems : Nat → Int64} {mmoved : Nat → Int64} {x1 : Int32} {x2 : Int32} {r : Int32} {mnow' : Nat → Int32} (hm : fX8_book mnow x1 x2 = some (r, mnow')) : ∀ sz : Nat, Met l yX8_book wsX8_book rmX8_book (kPc dC dI kc [.ref m_o, .int x1, .int x2] (fl [wdX8 kc m_o m_now m_mind m_then m_text m_rules m_sizes m_read m_names m_letters m_begins m_words m_drifts m_above m_bodies m_trace m_sorts m_lengths m_items m_moved mnow mmind mthen mkept mtext mtexted mrules msizes mruled mread msize mat mwell mwithin msum mbear mnames mletters mbegins mwords mdrifts mabove mbodies mtrace mran msorts mlengths mitems mmoved]) sz) (kQi dC dI r (fl [wdX8 kc m_o m_now m_mind m_then m_text m_rules m_sizes m_read m_names m_letters m_begins m_words m_drifts m_above m_bodies m_trace m_sorts m_lengths m_items m_moved mnow' mmind mthen mkept mtext mtexted mrules msizes mruled mread msize mat mwell mwithin msum mbear mnames mletters mbegins mwords mdrifts mabove mbodies mtrace mran msorts mlengths mitems mmoved]) (va_A (fl [wdX8 kc m_o m_now m_mind m_then m_text m_rules m_sizes m_read m_names m_letters m_begins m_words m_drifts m_above m_bodies m_trace m_sorts m_lengths m_items m_moved mnow mmind mthen mkept mtext mtexted mrules msizes mruled mread msize mat mwell mwithin msum mbear mnames mletters mbegins mwords mdrifts mabove mbodies mtrace mran msorts mlengths mitems mmoved]) sz)) 0 0 (va_A (fl [wdX8 kc m_o m_now m_mind m_then m_text m_rules m_sizes m_read m_names m_letters m_begins m_words m_drifts m_above m_bodies m_trace m_sorts m_lengths m_items m_moved mnow mmind mthen mkept mtext mtexted mrules msizes mruled mread msize mat mwell mwithin msum mbear mnames mletters mbegins mwords mdrifts mabove mbodies mtrace mran msorts mlengths mitems mmoved]) sz) := by
  intro sz
  refine kMet (cc := cX8_book) (maxL := 3) (ret := (some .int)) (Qf := fun A => kQi dC dI r (fl [wdX8 kc m_o m_now m_mind m_then m_text m_rules m_sizes m_read m_names m_letters m_begins m_words m_drifts m_above m_bodies m_trace m_sorts m_lengths m_items m_moved mnow' mmind mthen mkept mtext mtexted mrules msizes mruled mread msize mat mwell mwithin msum mbear mnames mletters mbegins mwords mdrifts mabove mbodies mtrace mran msorts mlengths mitems mmoved]) A) (by decide) rfl (Nat.le_of_ble_eq_true rfl) ?_
  intro p e s m below meth c A ls hx hb hr hml hts hown hlocks hname hsz hA hP hK hD hl
  have hS : va_S A s.heap s.heap [] := va_S.rf
  have hl : lv_has ls 3 [(0, .ref m_o), (1, .int x1), (2, .int x2)] := hl
  unfold fX8_book at hm
  refine lv_iload_n hx hb dX8_book_0 rfl (lv_at hl 1 rfl) ?_
  refine lv_iconst (v := (-1)) hx hb dX8_book_1 (by decide) ?_
  refine lv_icmp_ne (tgt := 15) hx hb dX8_book_2 (by decide) (fun c2 => ?_) (fun c2 => ?_)
  · replace hm := it_f c2 hm
    refine lv_aload_n hx hb dX8_book_15 rfl (lv_at hl 0 rfl) ?_
    refine lv_iload_n hx hb dX8_book_16 rfl (lv_at hl 1 rfl) ?_
    obtain ⟨r17, hc17, hm⟩ := bd1_e hm
    refine k_callGVi (dC := dC) (dI := dI) (kc := kc) (As := [.int x1]) (rest := []) (Gs' := [wdX8 kc m_o m_now m_mind m_then m_text m_rules m_sizes m_read m_names m_letters m_begins m_words m_drifts m_above m_bodies m_trace m_sorts m_lengths m_items m_moved mnow mmind mthen mkept mtext mtexted mrules msizes mruled mread msize mat mwell mwithin msum mbear mnames mletters mbegins mwords mdrifts mabove mbodies mtrace mran msorts mlengths mitems mmoved]) hx hb hml hown hts hK hP hD hS hA (ctX8_isOne (m_o := m_o) (m_now := m_now) (m_mind := m_mind) (m_then := m_then) (m_text := m_text) (m_rules := m_rules) (m_sizes := m_sizes) (m_read := m_read) (m_names := m_names) (m_letters := m_letters) (m_begins := m_begins) (m_words := m_words) (m_drifts := m_drifts) (m_above := m_above) (m_bodies := m_bodies) (m_trace := m_trace) (m_sorts := m_sorts) (m_lengths := m_lengths) (m_items := m_items) (m_moved := m_moved) (mnow := mnow) (mmind := mmind) (mthen := mthen) (mkept := mkept) (mtext := mtext) (mtexted := mtexted) (mrules := mrules) (msizes := msizes) (mruled := mruled) (mread := mread) (msize := msize) (mat := mat) (mwell := mwell) (mwithin := mwithin) (msum := msum) (mbear := mbear) (mnames := mnames) (mletters := mletters) (mbegins := mbegins) (mwords := mwords) (mdrifts := mdrifts) (mabove := mabove) (mbodies := mbodies) (mtrace := mtrace) (mran := mran) (msorts := msorts) (mlengths := mlengths) (mitems := mitems) (mmoved := mmoved) (x1 := x1) hc17) (cwV 1 hts gX8_book_X8_isOne rfl rfl rfl (by decide +kernel) ⟨Nat.le_of_ble_eq_true rfl, Nat.le_of_ble_eq_true rfl⟩) [0] rfl (by decide) 8 rfl rfl rfl rfl hl rfl (Nat.le_of_ble_eq_true rfl) dX8_book_17 ⟨Nat.zero_le _, Nat.zero_le _⟩ rfl rfl rfl (fun H locs hP hD hS => ?_)
    refine lv_if_ne (tgt := 25) hx hb dX8_book_20 (by decide) (fun c20 => ?_) (fun c20 => ?_)
    · replace hm := it_f c20 hm
      refine lv_iload_n hx hb dX8_book_25 rfl (lv_at hl 2 rfl) ?_
      refine lv_iconst (v := 0) hx hb dX8_book_26 (by decide) ?_
      refine lv_bipush (v := 99) hx hb dX8_book_27 (by decide) ?_
      obtain ⟨r29, hc29, hm⟩ := bd1_e hm
      refine k_callGSi (dC := dC) (dI := dI) (kc := kc) (As := [.int x2, .int 0, .int 99]) (rest := []) (Gs' := [wdX8 kc m_o m_now m_mind m_then m_text m_rules m_sizes m_read m_names m_letters m_begins m_words m_drifts m_above m_bodies m_trace m_sorts m_lengths m_items m_moved mnow mmind mthen mkept mtext mtexted mrules msizes mruled mread msize mat mwell mwithin msum mbear mnames mletters mbegins mwords mdrifts mabove mbodies mtrace mran msorts mlengths mitems mmoved]) hx hb hml hown hts hK hP hD hS hA (ctX8_isIn (x1 := x2) (x2 := 0) (x3 := 99) hc29) (va_cwS 3 hts gX8_book_X8_isIn rfl rfl rfl (by decide +kernel) ⟨Nat.le_of_ble_eq_true rfl, Nat.le_of_ble_eq_true rfl⟩) [] rfl (by decide) rfl hl rfl (Nat.le_of_ble_eq_true rfl) dX8_book_29 ⟨Nat.zero_le _, Nat.zero_le _⟩ rfl rfl rfl (fun H locs hP hD hS => ?_)
      refine lv_if_ne (tgt := 38) hx hb dX8_book_32 (by decide) (fun c32 => ?_) (fun c32 => ?_)
      · replace hm := it_f c32 hm
        refine lv_aload_n hx hb dX8_book_38 rfl (lv_at hl 0 rfl) ?_
        refine va_get (D := (dC, dI)) (ci := 8) (v := .ref m_now) (C := RX8) (T := TX8) (N := 29) hx hb hts hinX8_book_X8 hown hK hP 0 rfl rfl 0 (by decide) (hts _ (List.mem_of_getElem? (i := 1) rfl)) (fun _ h9 => h9) rfl dX8_book_39 ?_
        refine lv_bipush (v := 96) hx hb dX8_book_42 (by decide) ?_
        refine k_iald (D := (dC, dI)) hx hb hK hP 1 1 rfl rfl (k := 96) (by decide) (show ¬ ((96 : Int32) < 0 ∨ 113 ≤ (96 : Int32).toNatClampNeg) from by decide) dX8_book_44 ?_
        refine lv_bipush (v := 8) hx hb dX8_book_45 (by decide) ?_
        refine lv_icmp_ne (tgt := 53) hx hb dX8_book_47 (by decide) (fun c47 => ?_) (fun c47 => ?_)
        · replace hm := it_f c47 hm
          refine lv_aload_n hx hb dX8_book_53 rfl (lv_at hl 0 rfl) ?_
          refine va_get (D := (dC, dI)) (ci := 8) (v := .ref m_now) (C := RX8) (T := TX8) (N := 29) hx hb hts hinX8_book_X8 hown hK hP 0 rfl rfl 0 (by decide) (hts _ (List.mem_of_getElem? (i := 1) rfl)) (fun _ h9 => h9) rfl dX8_book_54 ?_
          refine lv_bipush (v := 97) hx hb dX8_book_57 (by decide) ?_
          refine lv_iconst (v := 2) hx hb dX8_book_59 (by decide) ?_
          refine lv_aload_n hx hb dX8_book_60 rfl (lv_at hl 0 rfl) ?_
          refine va_get (D := (dC, dI)) (ci := 8) (v := .ref m_now) (C := RX8) (T := TX8) (N := 29) hx hb hts hinX8_book_X8 hown hK hP 0 rfl rfl 0 (by decide) (hts _ (List.mem_of_getElem? (i := 1) rfl)) (fun _ h9 => h9) rfl dX8_book_61 ?_
          refine lv_bipush (v := 96) hx hb dX8_book_64 (by decide) ?_
          refine k_iald (D := (dC, dI)) hx hb hK hP 1 1 rfl rfl (k := 96) (by decide) (show ¬ ((96 : Int32) < 0 ∨ 113 ≤ (96 : Int32).toNatClampNeg) from by decide) dX8_book_66 ?_
          refine lv_imul hx hb dX8_book_67 ?_
          refine lv_iadd hx hb dX8_book_68 ?_
          refine lv_iload_n hx hb dX8_book_69 rfl (lv_at hl 1 rfl) ?_
          obtain ⟨hg70, hm⟩ := gd_e hm
          refine k_iast (D := (dC, dI)) hx hb hK hP hD hS 1 1 rfl rfl (k := (97 + (2 * (mnow 96))).toNatClampNeg) rfl hg70 dX8_book_70 (fun H locs hP hD hS => ?_)
          have hP : va_P (dC, dI) vwCl (fl [wdX8 kc m_o m_now m_mind m_then m_text m_rules m_sizes m_read m_names m_letters m_begins m_words m_drifts m_above m_bodies m_trace m_sorts m_lengths m_items m_moved (upd mnow ((97 + (2 * (mnow 96))).toNatClampNeg) x1) mmind mthen mkept mtext mtexted mrules msizes mruled mread msize mat mwell mwithin msum mbear mnames mletters mbegins mwords mdrifts mabove mbodies mtrace mran msorts mlengths mitems mmoved]) H := hP
          have hD : va_D A (fl [wdX8 kc m_o m_now m_mind m_then m_text m_rules m_sizes m_read m_names m_letters m_begins m_words m_drifts m_above m_bodies m_trace m_sorts m_lengths m_items m_moved (upd mnow ((97 + (2 * (mnow 96))).toNatClampNeg) x1) mmind mthen mkept mtext mtexted mrules msizes mruled mread msize mat mwell mwithin msum mbear mnames mletters mbegins mwords mdrifts mabove mbodies mtrace mran msorts mlengths mitems mmoved]) := hD
          refine lv_aload_n hx hb dX8_book_71 rfl (lv_at hl 0 rfl) ?_
          refine va_get (D := (dC, dI)) (ci := 8) (v := .ref m_now) (C := RX8) (T := TX8) (N := 29) hx hb hts hinX8_book_X8 hown hK hP 0 rfl rfl 0 (by decide) (hts _ (List.mem_of_getElem? (i := 1) rfl)) (fun _ h9 => h9) rfl dX8_book_72 ?_
          refine lv_bipush (v := 98) hx hb dX8_book_75 (by decide) ?_
          refine lv_iconst (v := 2) hx hb dX8_book_77 (by decide) ?_
          refine lv_aload_n hx hb dX8_book_78 rfl (lv_at hl 0 rfl) ?_
          refine va_get (D := (dC, dI)) (ci := 8) (v := .ref m_now) (C := RX8) (T := TX8) (N := 29) hx hb hts hinX8_book_X8 hown hK hP 0 rfl rfl 0 (by decide) (hts _ (List.mem_of_getElem? (i := 1) rfl)) (fun _ h9 => h9) rfl dX8_book_79 ?_
          refine lv_bipush (v := 96) hx hb dX8_book_82 (by decide) ?_
          refine k_iald (D := (dC, dI)) hx hb hK hP 1 1 rfl rfl (k := 96) (by decide) (show ¬ ((96 : Int32) < 0 ∨ 113 ≤ (96 : Int32).toNatClampNeg) from by decide) dX8_book_84 ?_
          refine lv_imul hx hb dX8_book_85 ?_
          refine lv_iadd hx hb dX8_book_86 ?_
          refine lv_iload_n hx hb dX8_book_87 rfl (lv_at hl 2 rfl) ?_
          obtain ⟨hg88, hm⟩ := gd_e hm
          refine k_iast (D := (dC, dI)) hx hb hK hP hD hS 1 1 rfl rfl (k := (98 + (2 * ((upd mnow ((97 + (2 * (mnow 96))).toNatClampNeg) x1) 96))).toNatClampNeg) rfl hg88 dX8_book_88 (fun H locs hP hD hS => ?_)
          have hP : va_P (dC, dI) vwCl (fl [wdX8 kc m_o m_now m_mind m_then m_text m_rules m_sizes m_read m_names m_letters m_begins m_words m_drifts m_above m_bodies m_trace m_sorts m_lengths m_items m_moved (upd (upd mnow ((97 + (2 * (mnow 96))).toNatClampNeg) x1) ((98 + (2 * ((upd mnow ((97 + (2 * (mnow 96))).toNatClampNeg) x1) 96))).toNatClampNeg) x2) mmind mthen mkept mtext mtexted mrules msizes mruled mread msize mat mwell mwithin msum mbear mnames mletters mbegins mwords mdrifts mabove mbodies mtrace mran msorts mlengths mitems mmoved]) H := hP
          have hD : va_D A (fl [wdX8 kc m_o m_now m_mind m_then m_text m_rules m_sizes m_read m_names m_letters m_begins m_words m_drifts m_above m_bodies m_trace m_sorts m_lengths m_items m_moved (upd (upd mnow ((97 + (2 * (mnow 96))).toNatClampNeg) x1) ((98 + (2 * ((upd mnow ((97 + (2 * (mnow 96))).toNatClampNeg) x1) 96))).toNatClampNeg) x2) mmind mthen mkept mtext mtexted mrules msizes mruled mread msize mat mwell mwithin msum mbear mnames mletters mbegins mwords mdrifts mabove mbodies mtrace mran msorts mlengths mitems mmoved]) := hD
          refine lv_aload_n hx hb dX8_book_89 rfl (lv_at hl 0 rfl) ?_
          refine va_get (D := (dC, dI)) (ci := 8) (v := .ref m_now) (C := RX8) (T := TX8) (N := 29) hx hb hts hinX8_book_X8 hown hK hP 0 rfl rfl 0 (by decide) (hts _ (List.mem_of_getElem? (i := 1) rfl)) (fun _ h9 => h9) rfl dX8_book_90 ?_
          refine lv_bipush (v := 96) hx hb dX8_book_93 (by decide) ?_
          refine lv_dup2_11 hx hb dX8_book_95 rfl rfl ?_
          refine k_iald (D := (dC, dI)) hx hb hK hP 1 1 rfl rfl (k := 96) (by decide) (show ¬ ((96 : Int32) < 0 ∨ 113 ≤ (96 : Int32).toNatClampNeg) from by decide) dX8_book_96 ?_
          refine lv_iconst (v := 1) hx hb dX8_book_97 (by decide) ?_
          refine lv_iadd hx hb dX8_book_98 ?_
          refine k_iast (D := (dC, dI)) hx hb hK hP hD hS 1 1 rfl rfl (k := 96) (by decide) (show ¬ ((96 : Int32) < 0 ∨ 113 ≤ (96 : Int32).toNatClampNeg) from by decide) dX8_book_99 (fun H locs hP hD hS => ?_)
          have hP : va_P (dC, dI) vwCl (fl [wdX8 kc m_o m_now m_mind m_then m_text m_rules m_sizes m_read m_names m_letters m_begins m_words m_drifts m_above m_bodies m_trace m_sorts m_lengths m_items m_moved (upd (upd (upd mnow ((97 + (2 * (mnow 96))).toNatClampNeg) x1) ((98 + (2 * ((upd mnow ((97 + (2 * (mnow 96))).toNatClampNeg) x1) 96))).toNatClampNeg) x2) 96 (((upd (upd mnow ((97 + (2 * (mnow 96))).toNatClampNeg) x1) ((98 + (2 * ((upd mnow ((97 + (2 * (mnow 96))).toNatClampNeg) x1) 96))).toNatClampNeg) x2) 96) + 1)) mmind mthen mkept mtext mtexted mrules msizes mruled mread msize mat mwell mwithin msum mbear mnames mletters mbegins mwords mdrifts mabove mbodies mtrace mran msorts mlengths mitems mmoved]) H := hP
          have hD : va_D A (fl [wdX8 kc m_o m_now m_mind m_then m_text m_rules m_sizes m_read m_names m_letters m_begins m_words m_drifts m_above m_bodies m_trace m_sorts m_lengths m_items m_moved (upd (upd (upd mnow ((97 + (2 * (mnow 96))).toNatClampNeg) x1) ((98 + (2 * ((upd mnow ((97 + (2 * (mnow 96))).toNatClampNeg) x1) 96))).toNatClampNeg) x2) 96 (((upd (upd mnow ((97 + (2 * (mnow 96))).toNatClampNeg) x1) ((98 + (2 * ((upd mnow ((97 + (2 * (mnow 96))).toNatClampNeg) x1) 96))).toNatClampNeg) x2) 96) + 1)) mmind mthen mkept mtext mtexted mrules msizes mruled mread msize mat mwell mwithin msum mbear mnames mletters mbegins mwords mdrifts mabove mbodies mtrace mran msorts mlengths mitems mmoved]) := hD
          refine lv_aload_n hx hb dX8_book_100 rfl (lv_at hl 0 rfl) ?_
          refine va_get (D := (dC, dI)) (ci := 8) (v := .ref m_now) (C := RX8) (T := TX8) (N := 29) hx hb hts hinX8_book_X8 hown hK hP 0 rfl rfl 0 (by decide) (hts _ (List.mem_of_getElem? (i := 1) rfl)) (fun _ h9 => h9) rfl dX8_book_101 ?_
          refine lv_bipush (v := 96) hx hb dX8_book_104 (by decide) ?_
          refine k_iald (D := (dC, dI)) hx hb hK hP 1 1 rfl rfl (k := 96) (by decide) (show ¬ ((96 : Int32) < 0 ∨ 113 ≤ (96 : Int32).toNatClampNeg) from by decide) dX8_book_106 ?_
          cases hm
          exact k_iret hx hb hr hlocks hP hS dX8_book_107
        · replace hm := it_t c47 hm
          refine lv_bipush (v := (-4)) hx hb dX8_book_50 (by decide) ?_
          cases hm
          exact k_iret hx hb hr hlocks hP hS dX8_book_52
      · replace hm := it_t c32 hm
        refine lv_bipush (v := (-2)) hx hb dX8_book_35 (by decide) ?_
        cases hm
        exact k_iret hx hb hr hlocks hP hS dX8_book_37
    · replace hm := it_t c20 hm
      refine lv_iconst (v := (-1)) hx hb dX8_book_23 (by decide) ?_
      cases hm
      exact k_iret hx hb hr hlocks hP hS dX8_book_24
  · replace hm := it_t c2 hm
    refine lv_aload_n hx hb dX8_book_5 rfl (lv_at hl 0 rfl) ?_
    refine va_get (D := (dC, dI)) (ci := 8) (v := .ref m_now) (C := RX8) (T := TX8) (N := 29) hx hb hts hinX8_book_X8 hown hK hP 0 rfl rfl 0 (by decide) (hts _ (List.mem_of_getElem? (i := 1) rfl)) (fun _ h9 => h9) rfl dX8_book_6 ?_
    refine lv_bipush (v := 96) hx hb dX8_book_9 (by decide) ?_
    refine lv_iconst (v := 0) hx hb dX8_book_11 (by decide) ?_
    refine k_iast (D := (dC, dI)) hx hb hK hP hD hS 1 1 rfl rfl (k := 96) (by decide) (show ¬ ((96 : Int32) < 0 ∨ 113 ≤ (96 : Int32).toNatClampNeg) from by decide) dX8_book_12 (fun H locs hP hD hS => ?_)
    have hP : va_P (dC, dI) vwCl (fl [wdX8 kc m_o m_now m_mind m_then m_text m_rules m_sizes m_read m_names m_letters m_begins m_words m_drifts m_above m_bodies m_trace m_sorts m_lengths m_items m_moved (upd mnow 96 0) mmind mthen mkept mtext mtexted mrules msizes mruled mread msize mat mwell mwithin msum mbear mnames mletters mbegins mwords mdrifts mabove mbodies mtrace mran msorts mlengths mitems mmoved]) H := hP
    have hD : va_D A (fl [wdX8 kc m_o m_now m_mind m_then m_text m_rules m_sizes m_read m_names m_letters m_begins m_words m_drifts m_above m_bodies m_trace m_sorts m_lengths m_items m_moved (upd mnow 96 0) mmind mthen mkept mtext mtexted mrules msizes mruled mread msize mat mwell mwithin msum mbear mnames mletters mbegins mwords mdrifts mabove mbodies mtrace mran msorts mlengths mitems mmoved]) := hD
    refine lv_iconst (v := 0) hx hb dX8_book_13 (by decide) ?_
    cases hm
    exact k_iret hx hb hr hlocks hP hS dX8_book_14
def LX8_looked_2 (mnow : Nat → Int32) : Nat → Int32 → Option Int32
  | 0, _ => none
  | n2 + 1, l1_2 => if (mnow 96) ≤ l1_2 then (some ((-5) : Int32)) else (gd (inb (97 + (2 * l1_2)) 113) (bd1 (fX8_number mnow (mnow ((97 + (2 * l1_2)).toNatClampNeg)) 2) (fun r26 => gd (inb (98 + (2 * l1_2)) 113) (if r26 = (mnow ((98 + (2 * l1_2)).toNatClampNeg)) then (LX8_looked_2 mnow n2 (l1_2 + 1)) else (some l1_2)))))
def fX8_looked (fu : Nat) (mnow : Nat → Int32) : Option Int32 := LX8_looked_2 mnow fu 0
theorem hinX8_looked_X8 : ∀ w ∈ u_ws RX8 TX8 29, w ∈ wsX8_looked := fun _ h => List.mem_cons_of_mem _ (List.mem_append_right _ h)
abbrev rmX8_looked : Room := { frames := 1, cells := 0, slots := 0, locals := 34 }
set_option maxHeartbeats 4000000 in
set_option maxRecDepth 100000 in
theorem ctX8_looked {l : Launch} {dC : Nat → ClassId} {dI : Nat → Nat → Nat} {kc : Nat → ClassId} {m_o m_now m_mind m_then m_text m_rules m_sizes m_read m_names m_letters m_begins m_words m_drifts m_above m_bodies m_trace m_sorts m_lengths m_items m_moved : Nat} {mnow : Nat → Int32} {mmind : Nat → Int32} {mthen : Nat → Int32} {mkept : Int32} {mtext : Nat → Int32} {mtexted : Int32} {mrules : Nat → Int32} {msizes : Nat → Int32} {mruled : Int32} {mread : Nat → Int32} {msize : Int32} {mat : Int32} {mwell : Int32} {mwithin : Int32} {msum : Int32} {mbear : Int32} {mnames : Nat → Int32} {mletters : Nat → Int32} {mbegins : Nat → Int32} {mwords : Nat → Int32} {mdrifts : Nat → Int32} {mabove : Nat → Int32} {mbodies : Nat → Int32} {mtrace : Nat → Int32} {mran : Int32} {msorts : Nat → Int32} {mlengths : Nat → Int32} {mitems : Nat → Int64} {mmoved : Nat → Int64} {fu : Nat} {r : Int32} (hm : fX8_looked fu mnow = some r) : ∀ sz : Nat, Met l yX8_looked wsX8_looked rmX8_looked (kPc dC dI kc [.ref m_o] (fl [wdX8 kc m_o m_now m_mind m_then m_text m_rules m_sizes m_read m_names m_letters m_begins m_words m_drifts m_above m_bodies m_trace m_sorts m_lengths m_items m_moved mnow mmind mthen mkept mtext mtexted mrules msizes mruled mread msize mat mwell mwithin msum mbear mnames mletters mbegins mwords mdrifts mabove mbodies mtrace mran msorts mlengths mitems mmoved]) sz) (kQi dC dI r (fl [wdX8 kc m_o m_now m_mind m_then m_text m_rules m_sizes m_read m_names m_letters m_begins m_words m_drifts m_above m_bodies m_trace m_sorts m_lengths m_items m_moved mnow mmind mthen mkept mtext mtexted mrules msizes mruled mread msize mat mwell mwithin msum mbear mnames mletters mbegins mwords mdrifts mabove mbodies mtrace mran msorts mlengths mitems mmoved]) (va_A (fl [wdX8 kc m_o m_now m_mind m_then m_text m_rules m_sizes m_read m_names m_letters m_begins m_words m_drifts m_above m_bodies m_trace m_sorts m_lengths m_items m_moved mnow mmind mthen mkept mtext mtexted mrules msizes mruled mread msize mat mwell mwithin msum mbear mnames mletters mbegins mwords mdrifts mabove mbodies mtrace mran msorts mlengths mitems mmoved]) sz)) 0 0 (va_A (fl [wdX8 kc m_o m_now m_mind m_then m_text m_rules m_sizes m_read m_names m_letters m_begins m_words m_drifts m_above m_bodies m_trace m_sorts m_lengths m_items m_moved mnow mmind mthen mkept mtext mtexted mrules msizes mruled mread msize mat mwell mwithin msum mbear mnames mletters mbegins mwords mdrifts mabove mbodies mtrace mran msorts mlengths mitems mmoved]) sz) := by
  intro sz
  refine kMet (cc := cX8_looked) (maxL := 2) (ret := (some .int)) (Qf := fun A => kQi dC dI r (fl [wdX8 kc m_o m_now m_mind m_then m_text m_rules m_sizes m_read m_names m_letters m_begins m_words m_drifts m_above m_bodies m_trace m_sorts m_lengths m_items m_moved mnow mmind mthen mkept mtext mtexted mrules msizes mruled mread msize mat mwell mwithin msum mbear mnames mletters mbegins mwords mdrifts mabove mbodies mtrace mran msorts mlengths mitems mmoved]) A) (by decide) rfl (Nat.le_of_ble_eq_true rfl) ?_
  intro p e s m below meth c A ls hx hb hr hml hts hown hlocks hname hsz hA hP hK hD hl
  have hS : va_S A s.heap s.heap [] := va_S.rf
  have hl : lv_has ls 2 [(0, .ref m_o)] := hl
  unfold fX8_looked at hm
  refine lv_iconst (v := 0) hx hb dX8_looked_0 (by decide) ?_
  refine lv_istore_n (lv' := [(1, .int 0), (0, .ref m_o)]) hx hb dX8_looked_1 rfl hl (by decide) rfl (fun ls hl => ?_)
  have hL2 : ∀ (fn : Nat) (l1_2 : Int32), LX8_looked_2 mnow fn l1_2 = some r → ∀ (H : Heap) (locs : List Loc), va_P (dC, dI) vwCl (fl [wdX8 kc m_o m_now m_mind m_then m_text m_rules m_sizes m_read m_names m_letters m_begins m_words m_drifts m_above m_bodies m_trace m_sorts m_lengths m_items m_moved mnow mmind mthen mkept mtext mtexted mrules msizes mruled mread msize mat mwell mwithin msum mbear mnames mletters mbegins mwords mdrifts mabove mbodies mtrace mran msorts mlengths mitems mmoved]) H → va_D A (fl [wdX8 kc m_o m_now m_mind m_then m_text m_rules m_sizes m_read m_names m_letters m_begins m_words m_drifts m_above m_bodies m_trace m_sorts m_lengths m_items m_moved mnow mmind mthen mkept mtext mtexted mrules msizes mruled mread msize mat mwell mwithin msum mbear mnames mletters mbegins mwords mdrifts mabove mbodies mtrace mran msorts mlengths mitems mmoved]) → va_S A s.heap H locs → ∀ ls : Array Slot, lv_has ls 2 [(0, .ref m_o), (1, .int l1_2)] → W p l e (headSpec wsX8_looked rmX8_looked).room s m [.ref m_o].toArray below meth c H locs 0 0 (MQ below (kQi dC dI r (fl [wdX8 kc m_o m_now m_mind m_then m_text m_rules m_sizes m_read m_names m_letters m_begins m_words m_drifts m_above m_bodies m_trace m_sorts m_lengths m_items m_moved mnow mmind mthen mkept mtext mtexted mrules msizes mruled mread msize mat mwell mwithin msum mbear mnames mletters mbegins mwords mdrifts mabove mbodies mtrace mran msorts mlengths mitems mmoved]) A) [.ref m_o].toArray s 0 0 A) (F0 m 2 ls []) := by
    clear hm hP hD hS hl
    intro n2
    induction n2 with
    | zero => intro l1_2 hm; rw [LX8_looked_2] at hm; cases hm
    | succ n2 ih2 =>
      intro l1_2 hm H locs hP hD hS ls hl
      rw [LX8_looked_2] at hm
      refine lv_iload_n hx hb dX8_looked_2 rfl (lv_at hl 1 rfl) ?_
      refine lv_aload_n hx hb dX8_looked_3 rfl (lv_at hl 0 rfl) ?_
      refine va_get (D := (dC, dI)) (ci := 8) (v := .ref m_now) (C := RX8) (T := TX8) (N := 29) hx hb hts hinX8_looked_X8 hown hK hP 0 rfl rfl 0 (by decide) (hts _ (List.mem_of_getElem? (i := 1) rfl)) (fun _ h9 => h9) rfl dX8_looked_4 ?_
      refine lv_bipush (v := 96) hx hb dX8_looked_7 (by decide) ?_
      refine k_iald (D := (dC, dI)) hx hb hK hP 1 1 rfl rfl (k := 96) (by decide) (show ¬ ((96 : Int32) < 0 ∨ 113 ≤ (96 : Int32).toNatClampNeg) from by decide) dX8_looked_9 ?_
      refine lv_icmp_ge (tgt := 51) hx hb dX8_looked_10 (by decide) (fun c10 => ?_) (fun c10 => ?_)
      · replace hm := it_t c10 hm
        refine lv_bipush (v := (-5)) hx hb dX8_looked_51 (by decide) ?_
        cases hm
        exact k_iret hx hb hr hlocks hP hS dX8_looked_53
      · replace hm := it_f c10 hm
        refine lv_aload_n hx hb dX8_looked_13 rfl (lv_at hl 0 rfl) ?_
        refine lv_aload_n hx hb dX8_looked_14 rfl (lv_at hl 0 rfl) ?_
        refine va_get (D := (dC, dI)) (ci := 8) (v := .ref m_now) (C := RX8) (T := TX8) (N := 29) hx hb hts hinX8_looked_X8 hown hK hP 0 rfl rfl 0 (by decide) (hts _ (List.mem_of_getElem? (i := 1) rfl)) (fun _ h9 => h9) rfl dX8_looked_15 ?_
        refine lv_bipush (v := 97) hx hb dX8_looked_18 (by decide) ?_
        refine lv_iconst (v := 2) hx hb dX8_looked_20 (by decide) ?_
        refine lv_iload_n hx hb dX8_looked_21 rfl (lv_at hl 1 rfl) ?_
        refine lv_imul hx hb dX8_looked_22 ?_
        refine lv_iadd hx hb dX8_looked_23 ?_
        obtain ⟨hg24, hm⟩ := gd_e hm
        refine k_iald (D := (dC, dI)) hx hb hK hP 1 1 rfl rfl (k := (97 + (2 * l1_2)).toNatClampNeg) rfl hg24 dX8_looked_24 ?_
        refine lv_iconst (v := 2) hx hb dX8_looked_25 (by decide) ?_
        obtain ⟨r26, hc26, hm⟩ := bd1_e hm
        refine k_callGVi (dC := dC) (dI := dI) (kc := kc) (As := [.int (mnow ((97 + (2 * l1_2)).toNatClampNeg)), .int 2]) (rest := []) (Gs' := [wdX8 kc m_o m_now m_mind m_then m_text m_rules m_sizes m_read m_names m_letters m_begins m_words m_drifts m_above m_bodies m_trace m_sorts m_lengths m_items m_moved mnow mmind mthen mkept mtext mtexted mrules msizes mruled mread msize mat mwell mwithin msum mbear mnames mletters mbegins mwords mdrifts mabove mbodies mtrace mran msorts mlengths mitems mmoved]) hx hb hml hown hts hK hP hD hS hA (ctX8_number (m_o := m_o) (m_now := m_now) (m_mind := m_mind) (m_then := m_then) (m_text := m_text) (m_rules := m_rules) (m_sizes := m_sizes) (m_read := m_read) (m_names := m_names) (m_letters := m_letters) (m_begins := m_begins) (m_words := m_words) (m_drifts := m_drifts) (m_above := m_above) (m_bodies := m_bodies) (m_trace := m_trace) (m_sorts := m_sorts) (m_lengths := m_lengths) (m_items := m_items) (m_moved := m_moved) (mnow := mnow) (mmind := mmind) (mthen := mthen) (mkept := mkept) (mtext := mtext) (mtexted := mtexted) (mrules := mrules) (msizes := msizes) (mruled := mruled) (mread := mread) (msize := msize) (mat := mat) (mwell := mwell) (mwithin := mwithin) (msum := msum) (mbear := mbear) (mnames := mnames) (mletters := mletters) (mbegins := mbegins) (mwords := mwords) (mdrifts := mdrifts) (mabove := mabove) (mbodies := mbodies) (mtrace := mtrace) (mran := mran) (msorts := msorts) (mlengths := mlengths) (mitems := mitems) (mmoved := mmoved) (x1 := mnow ((97 + (2 * l1_2)).toNatClampNeg)) (x2 := 2) hc26) (cwV 2 hts gX8_looked_X8_number rfl rfl rfl (by decide +kernel) ⟨Nat.le_of_ble_eq_true rfl, Nat.le_of_ble_eq_true rfl⟩) [0] rfl (by decide) 8 rfl rfl rfl rfl hl rfl (Nat.le_of_ble_eq_true rfl) dX8_looked_26 ⟨Nat.zero_le _, Nat.zero_le _⟩ rfl rfl rfl (fun H locs hP hD hS => ?_)
        refine lv_aload_n hx hb dX8_looked_29 rfl (lv_at hl 0 rfl) ?_
        refine va_get (D := (dC, dI)) (ci := 8) (v := .ref m_now) (C := RX8) (T := TX8) (N := 29) hx hb hts hinX8_looked_X8 hown hK hP 0 rfl rfl 0 (by decide) (hts _ (List.mem_of_getElem? (i := 1) rfl)) (fun _ h9 => h9) rfl dX8_looked_30 ?_
        refine lv_bipush (v := 98) hx hb dX8_looked_33 (by decide) ?_
        refine lv_iconst (v := 2) hx hb dX8_looked_35 (by decide) ?_
        refine lv_iload_n hx hb dX8_looked_36 rfl (lv_at hl 1 rfl) ?_
        refine lv_imul hx hb dX8_looked_37 ?_
        refine lv_iadd hx hb dX8_looked_38 ?_
        obtain ⟨hg39, hm⟩ := gd_e hm
        refine k_iald (D := (dC, dI)) hx hb hK hP 1 1 rfl rfl (k := (98 + (2 * l1_2)).toNatClampNeg) rfl hg39 dX8_looked_39 ?_
        refine lv_icmp_eq (tgt := 45) hx hb dX8_looked_40 (by decide) (fun c40 => ?_) (fun c40 => ?_)
        · replace hm := it_t c40 hm
          refine lv_iinc (v := l1_2 + 1) (lv' := [(1, .int (l1_2 + 1)), (0, .ref m_o)]) hx hb dX8_looked_45 hl (k := 1) rfl rfl (by decide) rfl (fun ls hl => ?_)
          refine lv_goto (tgt := 2) hx hb dX8_looked_48 (by decide) ?_
          exact ih2 (l1_2 + 1) hm _ _ hP hD hS _ (lv_sub hl [1, 0] rfl)
        · replace hm := it_f c40 hm
          refine lv_iload_n hx hb dX8_looked_43 rfl (lv_at hl 1 rfl) ?_
          cases hm
          exact k_iret hx hb hr hlocks hP hS dX8_looked_44
  exact hL2 _ _ hm _ _ hP hD hS _ (lv_sub hl [1, 0] rfl)
def fX8_act (fu : Nat) (mnow : Nat → Int32) (mabove : Nat → Int32) (mbodies : Nat → Int32) (mtrace : Nat → Int32) (mran : Int32) (x1 : Int32) (x2 : Int32) (x3 : Int32) : Option (Int32 × (Nat → Int32) × Int32) := bd1 (fX8_isOne mnow x1) (fun r7 => if r7 = 0 then (some ((0 : Int32), mtrace, 0)) else (bd1 (fX8_isIn x2 0 2) (fun r16 => if r16 = 0 then (some ((0 : Int32), mtrace, 0)) else (bd3 (fX8_all (fX8_byKind fu 14) fu mnow mabove mbodies mtrace 0 x1 x2 x3) (fun r26 mtrace_26 mran_26 => some (r26, mtrace_26, mran_26))))))
theorem hinX8_act_X8 : ∀ w ∈ u_ws RX8 TX8 29, w ∈ wsX8_act := fun _ h => List.mem_cons_of_mem _ (List.mem_append_right _ h)
abbrev rmX8_act : Room := { frames := 572, cells := 0, slots := 0, locals := 14700 }
set_option maxHeartbeats 4000000 in
set_option maxRecDepth 100000 in
theorem ctX8_act {l : Launch} {dC : Nat → ClassId} {dI : Nat → Nat → Nat} {kc : Nat → ClassId} {m_o m_now m_mind m_then m_text m_rules m_sizes m_read m_names m_letters m_begins m_words m_drifts m_above m_bodies m_trace m_sorts m_lengths m_items m_moved : Nat} {mnow : Nat → Int32} {mmind : Nat → Int32} {mthen : Nat → Int32} {mkept : Int32} {mtext : Nat → Int32} {mtexted : Int32} {mrules : Nat → Int32} {msizes : Nat → Int32} {mruled : Int32} {mread : Nat → Int32} {msize : Int32} {mat : Int32} {mwell : Int32} {mwithin : Int32} {msum : Int32} {mbear : Int32} {mnames : Nat → Int32} {mletters : Nat → Int32} {mbegins : Nat → Int32} {mwords : Nat → Int32} {mdrifts : Nat → Int32} {mabove : Nat → Int32} {mbodies : Nat → Int32} {mtrace : Nat → Int32} {mran : Int32} {msorts : Nat → Int32} {mlengths : Nat → Int32} {mitems : Nat → Int64} {mmoved : Nat → Int64} {x1 : Int32} {x2 : Int32} {x3 : Int32} {fu : Nat} {r : Int32} {mtrace' : Nat → Int32} {mran' : Int32} (hm : fX8_act fu mnow mabove mbodies mtrace mran x1 x2 x3 = some (r, mtrace', mran')) : ∀ sz : Nat, Met l yX8_act wsX8_act rmX8_act (kPc dC dI kc [.ref m_o, .int x1, .int x2, .int x3] (fl [wdX8 kc m_o m_now m_mind m_then m_text m_rules m_sizes m_read m_names m_letters m_begins m_words m_drifts m_above m_bodies m_trace m_sorts m_lengths m_items m_moved mnow mmind mthen mkept mtext mtexted mrules msizes mruled mread msize mat mwell mwithin msum mbear mnames mletters mbegins mwords mdrifts mabove mbodies mtrace mran msorts mlengths mitems mmoved]) sz) (kQi dC dI r (fl [wdX8 kc m_o m_now m_mind m_then m_text m_rules m_sizes m_read m_names m_letters m_begins m_words m_drifts m_above m_bodies m_trace m_sorts m_lengths m_items m_moved mnow mmind mthen mkept mtext mtexted mrules msizes mruled mread msize mat mwell mwithin msum mbear mnames mletters mbegins mwords mdrifts mabove mbodies mtrace' mran' msorts mlengths mitems mmoved]) (va_A (fl [wdX8 kc m_o m_now m_mind m_then m_text m_rules m_sizes m_read m_names m_letters m_begins m_words m_drifts m_above m_bodies m_trace m_sorts m_lengths m_items m_moved mnow mmind mthen mkept mtext mtexted mrules msizes mruled mread msize mat mwell mwithin msum mbear mnames mletters mbegins mwords mdrifts mabove mbodies mtrace mran msorts mlengths mitems mmoved]) sz)) 0 0 (va_A (fl [wdX8 kc m_o m_now m_mind m_then m_text m_rules m_sizes m_read m_names m_letters m_begins m_words m_drifts m_above m_bodies m_trace m_sorts m_lengths m_items m_moved mnow mmind mthen mkept mtext mtexted mrules msizes mruled mread msize mat mwell mwithin msum mbear mnames mletters mbegins mwords mdrifts mabove mbodies mtrace mran msorts mlengths mitems mmoved]) sz) := by
  intro sz
  refine kMet (cc := cX8_act) (maxL := 4) (ret := (some .int)) (Qf := fun A => kQi dC dI r (fl [wdX8 kc m_o m_now m_mind m_then m_text m_rules m_sizes m_read m_names m_letters m_begins m_words m_drifts m_above m_bodies m_trace m_sorts m_lengths m_items m_moved mnow mmind mthen mkept mtext mtexted mrules msizes mruled mread msize mat mwell mwithin msum mbear mnames mletters mbegins mwords mdrifts mabove mbodies mtrace' mran' msorts mlengths mitems mmoved]) A) (by decide) rfl (Nat.le_of_ble_eq_true rfl) ?_
  intro p e s m below meth c A ls hx hb hr hml hts hown hlocks hname hsz hA hP hK hD hl
  have hS : va_S A s.heap s.heap [] := va_S.rf
  have hl : lv_has ls 4 [(0, .ref m_o), (1, .int x1), (2, .int x2), (3, .int x3)] := hl
  unfold fX8_act at hm
  refine lv_aload_n hx hb dX8_act_0 rfl (lv_at hl 0 rfl) ?_
  refine lv_iconst (v := 0) hx hb dX8_act_1 (by decide) ?_
  refine va_put (D := (dC, dI)) (ci := 8) (v := .int 0) (ty := .int) (C := RX8) (T := TX8) (N := 29) hx hb hts hinX8_act_X8 tyX8 tyX8_ok nmX8 hown hK hP hD hS 0 rfl rfl 24 (by decide) (hts _ (List.mem_of_getElem? (i := 1) rfl)) (fun _ h9 => h9) rfl (by decide +kernel) rfl rfl (Nat.le_of_ble_eq_true rfl) dX8_act_2 (fun H locs hP hD hS => ?_)
  have hP : va_P (dC, dI) vwCl (fl [wdX8 kc m_o m_now m_mind m_then m_text m_rules m_sizes m_read m_names m_letters m_begins m_words m_drifts m_above m_bodies m_trace m_sorts m_lengths m_items m_moved mnow mmind mthen mkept mtext mtexted mrules msizes mruled mread msize mat mwell mwithin msum mbear mnames mletters mbegins mwords mdrifts mabove mbodies mtrace 0 msorts mlengths mitems mmoved]) H := hP
  have hD : va_D A (fl [wdX8 kc m_o m_now m_mind m_then m_text m_rules m_sizes m_read m_names m_letters m_begins m_words m_drifts m_above m_bodies m_trace m_sorts m_lengths m_items m_moved mnow mmind mthen mkept mtext mtexted mrules msizes mruled mread msize mat mwell mwithin msum mbear mnames mletters mbegins mwords mdrifts mabove mbodies mtrace 0 msorts mlengths mitems mmoved]) := hD
  refine lv_aload_n hx hb dX8_act_5 rfl (lv_at hl 0 rfl) ?_
  refine lv_iload_n hx hb dX8_act_6 rfl (lv_at hl 1 rfl) ?_
  obtain ⟨r7, hc7, hm⟩ := bd1_e hm
  refine k_callGVi (dC := dC) (dI := dI) (kc := kc) (As := [.int x1]) (rest := []) (Gs' := [wdX8 kc m_o m_now m_mind m_then m_text m_rules m_sizes m_read m_names m_letters m_begins m_words m_drifts m_above m_bodies m_trace m_sorts m_lengths m_items m_moved mnow mmind mthen mkept mtext mtexted mrules msizes mruled mread msize mat mwell mwithin msum mbear mnames mletters mbegins mwords mdrifts mabove mbodies mtrace 0 msorts mlengths mitems mmoved]) hx hb hml hown hts hK hP hD hS hA (ctX8_isOne (m_o := m_o) (m_now := m_now) (m_mind := m_mind) (m_then := m_then) (m_text := m_text) (m_rules := m_rules) (m_sizes := m_sizes) (m_read := m_read) (m_names := m_names) (m_letters := m_letters) (m_begins := m_begins) (m_words := m_words) (m_drifts := m_drifts) (m_above := m_above) (m_bodies := m_bodies) (m_trace := m_trace) (m_sorts := m_sorts) (m_lengths := m_lengths) (m_items := m_items) (m_moved := m_moved) (mnow := mnow) (mmind := mmind) (mthen := mthen) (mkept := mkept) (mtext := mtext) (mtexted := mtexted) (mrules := mrules) (msizes := msizes) (mruled := mruled) (mread := mread) (msize := msize) (mat := mat) (mwell := mwell) (mwithin := mwithin) (msum := msum) (mbear := mbear) (mnames := mnames) (mletters := mletters) (mbegins := mbegins) (mwords := mwords) (mdrifts := mdrifts) (mabove := mabove) (mbodies := mbodies) (mtrace := mtrace) (mran := 0) (msorts := msorts) (mlengths := mlengths) (mitems := mitems) (mmoved := mmoved) (x1 := x1) hc7) (cwV 1 hts gX8_act_X8_isOne rfl rfl rfl (by decide +kernel) ⟨Nat.le_of_ble_eq_true rfl, Nat.le_of_ble_eq_true rfl⟩) [0] rfl (by decide) 8 rfl rfl rfl rfl hl rfl (Nat.le_of_ble_eq_true rfl) dX8_act_7 ⟨Nat.zero_le _, Nat.zero_le _⟩ rfl rfl rfl (fun H locs hP hD hS => ?_)
  refine lv_if_eq (tgt := 32) hx hb dX8_act_10 (by decide) (fun c10 => ?_) (fun c10 => ?_)
  · replace hm := it_t c10 hm
    refine lv_iconst (v := 0) hx hb dX8_act_32 (by decide) ?_
    cases hm
    exact k_iret hx hb hr hlocks hP hS dX8_act_33
  · replace hm := it_f c10 hm
    refine lv_iload_n hx hb dX8_act_13 rfl (lv_at hl 2 rfl) ?_
    refine lv_iconst (v := 0) hx hb dX8_act_14 (by decide) ?_
    refine lv_iconst (v := 2) hx hb dX8_act_15 (by decide) ?_
    obtain ⟨r16, hc16, hm⟩ := bd1_e hm
    refine k_callGSi (dC := dC) (dI := dI) (kc := kc) (As := [.int x2, .int 0, .int 2]) (rest := []) (Gs' := [wdX8 kc m_o m_now m_mind m_then m_text m_rules m_sizes m_read m_names m_letters m_begins m_words m_drifts m_above m_bodies m_trace m_sorts m_lengths m_items m_moved mnow mmind mthen mkept mtext mtexted mrules msizes mruled mread msize mat mwell mwithin msum mbear mnames mletters mbegins mwords mdrifts mabove mbodies mtrace 0 msorts mlengths mitems mmoved]) hx hb hml hown hts hK hP hD hS hA (ctX8_isIn (x1 := x2) (x2 := 0) (x3 := 2) hc16) (va_cwS 3 hts gX8_act_X8_isIn rfl rfl rfl (by decide +kernel) ⟨Nat.le_of_ble_eq_true rfl, Nat.le_of_ble_eq_true rfl⟩) [] rfl (by decide) rfl hl rfl (Nat.le_of_ble_eq_true rfl) dX8_act_16 ⟨Nat.zero_le _, Nat.zero_le _⟩ rfl rfl rfl (fun H locs hP hD hS => ?_)
    refine lv_if_eq (tgt := 32) hx hb dX8_act_19 (by decide) (fun c19 => ?_) (fun c19 => ?_)
    · replace hm := it_t c19 hm
      refine lv_iconst (v := 0) hx hb dX8_act_32 (by decide) ?_
      cases hm
      exact k_iret hx hb hr hlocks hP hS dX8_act_33
    · replace hm := it_f c19 hm
      refine lv_aload_n hx hb dX8_act_22 rfl (lv_at hl 0 rfl) ?_
      refine lv_iload_n hx hb dX8_act_23 rfl (lv_at hl 1 rfl) ?_
      refine lv_iload_n hx hb dX8_act_24 rfl (lv_at hl 2 rfl) ?_
      refine lv_iload_n hx hb dX8_act_25 rfl (lv_at hl 3 rfl) ?_
      obtain ⟨r26, mtrace_26, mran_26, hc26, hm⟩ := bd3_e hm
      refine k_callGVi (dC := dC) (dI := dI) (kc := kc) (As := [.int x1, .int x2, .int x3]) (rest := []) (Gs' := [wdX8 kc m_o m_now m_mind m_then m_text m_rules m_sizes m_read m_names m_letters m_begins m_words m_drifts m_above m_bodies m_trace m_sorts m_lengths m_items m_moved mnow mmind mthen mkept mtext mtexted mrules msizes mruled mread msize mat mwell mwithin msum mbear mnames mletters mbegins mwords mdrifts mabove mbodies mtrace_26 mran_26 msorts mlengths mitems mmoved]) hx hb hml hown hts hK hP hD hS hA (ctX8_all (F := fX8_byKind fu 14) (n := 14) (fu := fu) (m_o := m_o) (m_now := m_now) (m_mind := m_mind) (m_then := m_then) (m_text := m_text) (m_rules := m_rules) (m_sizes := m_sizes) (m_read := m_read) (m_names := m_names) (m_letters := m_letters) (m_begins := m_begins) (m_words := m_words) (m_drifts := m_drifts) (m_above := m_above) (m_bodies := m_bodies) (m_trace := m_trace) (m_sorts := m_sorts) (m_lengths := m_lengths) (m_items := m_items) (m_moved := m_moved) (mnow := mnow) (mmind := mmind) (mthen := mthen) (mkept := mkept) (mtext := mtext) (mtexted := mtexted) (mrules := mrules) (msizes := msizes) (mruled := mruled) (mread := mread) (msize := msize) (mat := mat) (mwell := mwell) (mwithin := mwithin) (msum := msum) (mbear := mbear) (mnames := mnames) (mletters := mletters) (mbegins := mbegins) (mwords := mwords) (mdrifts := mdrifts) (mabove := mabove) (mbodies := mbodies) (mtrace := mtrace) (mran := 0) (msorts := msorts) (mlengths := mlengths) (mitems := mitems) (mmoved := mmoved) (x1 := x1) (x2 := x2) (x3 := x3) hFX8_byKind hc26) (cwV 3 hts gX8_act_X8_all rfl rfl rfl (by decide +kernel) ⟨Nat.le_of_ble_eq_true rfl, Nat.le_of_ble_eq_true rfl⟩) [0] rfl (by decide) 8 rfl rfl rfl rfl hl rfl (Nat.le_of_ble_eq_true rfl) dX8_act_26 ⟨Nat.zero_le _, Nat.zero_le _⟩ rfl rfl rfl (fun H locs hP hD hS => ?_)
      refine lv_goto (tgt := 33) hx hb dX8_act_29 (by decide) ?_
      cases hm
      exact k_iret hx hb hr hlocks hP hS dX8_act_33
def fX8_trace (mtrace : Nat → Int32) (mran : Int32) (x1 : Int32) : Option Int32 := bd1 (fX8_isIn x1 0 ((jmin 20 mran) - 1)) (fun r13 => if r13 = 0 then (some ((-1) : Int32)) else (gd (inb x1 20) (some (mtrace (x1.toNatClampNeg)))))
theorem hinX8_trace_X8 : ∀ w ∈ u_ws RX8 TX8 29, w ∈ wsX8_trace := fun _ h => List.mem_cons_of_mem _ (List.mem_append_right _ h)
abbrev rmX8_trace : Room := { frames := 1, cells := 0, slots := 0, locals := 34 }
set_option maxHeartbeats 4000000 in
set_option maxRecDepth 100000 in
theorem ctX8_trace {l : Launch} {dC : Nat → ClassId} {dI : Nat → Nat → Nat} {kc : Nat → ClassId} {m_o m_now m_mind m_then m_text m_rules m_sizes m_read m_names m_letters m_begins m_words m_drifts m_above m_bodies m_trace m_sorts m_lengths m_items m_moved : Nat} {mnow : Nat → Int32} {mmind : Nat → Int32} {mthen : Nat → Int32} {mkept : Int32} {mtext : Nat → Int32} {mtexted : Int32} {mrules : Nat → Int32} {msizes : Nat → Int32} {mruled : Int32} {mread : Nat → Int32} {msize : Int32} {mat : Int32} {mwell : Int32} {mwithin : Int32} {msum : Int32} {mbear : Int32} {mnames : Nat → Int32} {mletters : Nat → Int32} {mbegins : Nat → Int32} {mwords : Nat → Int32} {mdrifts : Nat → Int32} {mabove : Nat → Int32} {mbodies : Nat → Int32} {mtrace : Nat → Int32} {mran : Int32} {msorts : Nat → Int32} {mlengths : Nat → Int32} {mitems : Nat → Int64} {mmoved : Nat → Int64} {x1 : Int32} {r : Int32} (hm : fX8_trace mtrace mran x1 = some r) : ∀ sz : Nat, Met l yX8_trace wsX8_trace rmX8_trace (kPc dC dI kc [.ref m_o, .int x1] (fl [wdX8 kc m_o m_now m_mind m_then m_text m_rules m_sizes m_read m_names m_letters m_begins m_words m_drifts m_above m_bodies m_trace m_sorts m_lengths m_items m_moved mnow mmind mthen mkept mtext mtexted mrules msizes mruled mread msize mat mwell mwithin msum mbear mnames mletters mbegins mwords mdrifts mabove mbodies mtrace mran msorts mlengths mitems mmoved]) sz) (kQi dC dI r (fl [wdX8 kc m_o m_now m_mind m_then m_text m_rules m_sizes m_read m_names m_letters m_begins m_words m_drifts m_above m_bodies m_trace m_sorts m_lengths m_items m_moved mnow mmind mthen mkept mtext mtexted mrules msizes mruled mread msize mat mwell mwithin msum mbear mnames mletters mbegins mwords mdrifts mabove mbodies mtrace mran msorts mlengths mitems mmoved]) (va_A (fl [wdX8 kc m_o m_now m_mind m_then m_text m_rules m_sizes m_read m_names m_letters m_begins m_words m_drifts m_above m_bodies m_trace m_sorts m_lengths m_items m_moved mnow mmind mthen mkept mtext mtexted mrules msizes mruled mread msize mat mwell mwithin msum mbear mnames mletters mbegins mwords mdrifts mabove mbodies mtrace mran msorts mlengths mitems mmoved]) sz)) 0 0 (va_A (fl [wdX8 kc m_o m_now m_mind m_then m_text m_rules m_sizes m_read m_names m_letters m_begins m_words m_drifts m_above m_bodies m_trace m_sorts m_lengths m_items m_moved mnow mmind mthen mkept mtext mtexted mrules msizes mruled mread msize mat mwell mwithin msum mbear mnames mletters mbegins mwords mdrifts mabove mbodies mtrace mran msorts mlengths mitems mmoved]) sz) := by
  intro sz
  refine kMet (cc := cX8_trace) (maxL := 2) (ret := (some .int)) (Qf := fun A => kQi dC dI r (fl [wdX8 kc m_o m_now m_mind m_then m_text m_rules m_sizes m_read m_names m_letters m_begins m_words m_drifts m_above m_bodies m_trace m_sorts m_lengths m_items m_moved mnow mmind mthen mkept mtext mtexted mrules msizes mruled mread msize mat mwell mwithin msum mbear mnames mletters mbegins mwords mdrifts mabove mbodies mtrace mran msorts mlengths mitems mmoved]) A) (by decide) rfl (Nat.le_of_ble_eq_true rfl) ?_
  intro p e s m below meth c A ls hx hb hr hml hts hown hlocks hname hsz hA hP hK hD hl
  have hS : va_S A s.heap s.heap [] := va_S.rf
  have hl : lv_has ls 2 [(0, .ref m_o), (1, .int x1)] := hl
  unfold fX8_trace at hm
  refine lv_iload_n hx hb dX8_trace_0 rfl (lv_at hl 1 rfl) ?_
  refine lv_iconst (v := 0) hx hb dX8_trace_1 (by decide) ?_
  refine lv_bipush (v := 20) hx hb dX8_trace_2 (by decide) ?_
  refine lv_aload_n hx hb dX8_trace_4 rfl (lv_at hl 0 rfl) ?_
  refine va_get (D := (dC, dI)) (ci := 8) (v := .int mran) (C := RX8) (T := TX8) (N := 29) hx hb hts hinX8_trace_X8 hown hK hP 0 rfl rfl 24 (by decide) (hts _ (List.mem_of_getElem? (i := 1) rfl)) (fun _ h9 => h9) rfl dX8_trace_5 ?_
  refine va_mmin hx hb (hml.trans hl.1.symm) hown (hts _ (List.mem_of_getElem? (i := 2) rfl)) (hts _ (List.mem_of_getElem? (i := 3) rfl)) (hts _ (List.mem_of_getElem? (i := 4) rfl)) (hts _ (List.mem_of_getElem? (i := 5) rfl)) (Nat.le_of_ble_eq_true rfl) (Nat.le_of_ble_eq_true rfl) (Nat.zero_le _) (Nat.zero_le _) dX8_trace_8 ?_
  refine lv_iconst (v := 1) hx hb dX8_trace_11 (by decide) ?_
  refine lv_isub hx hb dX8_trace_12 ?_
  obtain ⟨r13, hc13, hm⟩ := bd1_e hm
  refine k_callGSi (dC := dC) (dI := dI) (kc := kc) (As := [.int x1, .int 0, .int ((jmin 20 mran) - 1)]) (rest := []) (Gs' := [wdX8 kc m_o m_now m_mind m_then m_text m_rules m_sizes m_read m_names m_letters m_begins m_words m_drifts m_above m_bodies m_trace m_sorts m_lengths m_items m_moved mnow mmind mthen mkept mtext mtexted mrules msizes mruled mread msize mat mwell mwithin msum mbear mnames mletters mbegins mwords mdrifts mabove mbodies mtrace mran msorts mlengths mitems mmoved]) hx hb hml hown hts hK hP hD hS hA (ctX8_isIn (x1 := x1) (x2 := 0) (x3 := (jmin 20 mran) - 1) hc13) (va_cwS 3 hts gX8_trace_X8_isIn rfl rfl rfl (by decide +kernel) ⟨Nat.le_of_ble_eq_true rfl, Nat.le_of_ble_eq_true rfl⟩) [] rfl (by decide) rfl hl rfl (Nat.le_of_ble_eq_true rfl) dX8_trace_13 ⟨Nat.zero_le _, Nat.zero_le _⟩ rfl rfl rfl (fun H locs hP hD hS => ?_)
  refine lv_if_eq (tgt := 28) hx hb dX8_trace_16 (by decide) (fun c16 => ?_) (fun c16 => ?_)
  · replace hm := it_t c16 hm
    refine lv_iconst (v := (-1)) hx hb dX8_trace_28 (by decide) ?_
    cases hm
    exact k_iret hx hb hr hlocks hP hS dX8_trace_29
  · replace hm := it_f c16 hm
    refine lv_aload_n hx hb dX8_trace_19 rfl (lv_at hl 0 rfl) ?_
    refine va_get (D := (dC, dI)) (ci := 8) (v := .ref m_trace) (C := RX8) (T := TX8) (N := 29) hx hb hts hinX8_trace_X8 hown hK hP 0 rfl rfl 23 (by decide) (hts _ (List.mem_of_getElem? (i := 6) rfl)) (fun _ h9 => h9) rfl dX8_trace_20 ?_
    refine lv_iload_n hx hb dX8_trace_23 rfl (lv_at hl 1 rfl) ?_
    obtain ⟨hg24, hm⟩ := gd_e hm
    refine k_iald (D := (dC, dI)) hx hb hK hP 15 1 rfl rfl (k := x1.toNatClampNeg) rfl hg24 dX8_trace_24 ?_
    refine lv_goto (tgt := 29) hx hb dX8_trace_25 (by decide) ?_
    cases hm
    exact k_iret hx hb hr hlocks hP hS dX8_trace_29
def LX8_taken_31 (mnow : Nat → Int32) (mabove : Nat → Int32) (x1 : Int32) (x2 : Int32) : Nat → Int32 → Option Int32
  | 0, _ => none
  | n31 + 1, l3_31 => if l3_31 = (-1) then (if l3_31 = x2 then (bd1 (fX8_number mnow x1 0) (fun r59 => some r59)) else (some ((-12) : Int32))) else (if l3_31 = x2 then (if l3_31 = x2 then (bd1 (fX8_number mnow x1 0) (fun r59 => some r59)) else (some ((-12) : Int32))) else (gd (inb l3_31 7) (LX8_taken_31 mnow mabove x1 x2 n31 (mabove (l3_31.toNatClampNeg)))))
def fX8_taken (fu : Nat) (mnow : Nat → Int32) (mabove : Nat → Int32) (x1 : Int32) (x2 : Int32) : Option Int32 := bd1 (fX8_isIn x2 0 6) (fun r4 => if r4 = 0 then (some ((-2) : Int32)) else (bd1 (fX8_isOne mnow x1) (fun r15 => if r15 = 0 then (some ((-11) : Int32)) else (bd1 (fX8_number mnow x1 0) (fun r27 => LX8_taken_31 mnow mabove x1 x2 fu r27)))))
theorem hinX8_taken_X8 : ∀ w ∈ u_ws RX8 TX8 29, w ∈ wsX8_taken := fun _ h => List.mem_cons_of_mem _ (List.mem_append_right _ h)
abbrev rmX8_taken : Room := { frames := 2, cells := 0, slots := 0, locals := 55 }
set_option maxHeartbeats 4000000 in
set_option maxRecDepth 100000 in
theorem ctX8_taken {l : Launch} {dC : Nat → ClassId} {dI : Nat → Nat → Nat} {kc : Nat → ClassId} {m_o m_now m_mind m_then m_text m_rules m_sizes m_read m_names m_letters m_begins m_words m_drifts m_above m_bodies m_trace m_sorts m_lengths m_items m_moved : Nat} {mnow : Nat → Int32} {mmind : Nat → Int32} {mthen : Nat → Int32} {mkept : Int32} {mtext : Nat → Int32} {mtexted : Int32} {mrules : Nat → Int32} {msizes : Nat → Int32} {mruled : Int32} {mread : Nat → Int32} {msize : Int32} {mat : Int32} {mwell : Int32} {mwithin : Int32} {msum : Int32} {mbear : Int32} {mnames : Nat → Int32} {mletters : Nat → Int32} {mbegins : Nat → Int32} {mwords : Nat → Int32} {mdrifts : Nat → Int32} {mabove : Nat → Int32} {mbodies : Nat → Int32} {mtrace : Nat → Int32} {mran : Int32} {msorts : Nat → Int32} {mlengths : Nat → Int32} {mitems : Nat → Int64} {mmoved : Nat → Int64} {x1 : Int32} {x2 : Int32} {fu : Nat} {r : Int32} (hm : fX8_taken fu mnow mabove x1 x2 = some r) : ∀ sz : Nat, Met l yX8_taken wsX8_taken rmX8_taken (kPc dC dI kc [.ref m_o, .int x1, .int x2] (fl [wdX8 kc m_o m_now m_mind m_then m_text m_rules m_sizes m_read m_names m_letters m_begins m_words m_drifts m_above m_bodies m_trace m_sorts m_lengths m_items m_moved mnow mmind mthen mkept mtext mtexted mrules msizes mruled mread msize mat mwell mwithin msum mbear mnames mletters mbegins mwords mdrifts mabove mbodies mtrace mran msorts mlengths mitems mmoved]) sz) (kQi dC dI r (fl [wdX8 kc m_o m_now m_mind m_then m_text m_rules m_sizes m_read m_names m_letters m_begins m_words m_drifts m_above m_bodies m_trace m_sorts m_lengths m_items m_moved mnow mmind mthen mkept mtext mtexted mrules msizes mruled mread msize mat mwell mwithin msum mbear mnames mletters mbegins mwords mdrifts mabove mbodies mtrace mran msorts mlengths mitems mmoved]) (va_A (fl [wdX8 kc m_o m_now m_mind m_then m_text m_rules m_sizes m_read m_names m_letters m_begins m_words m_drifts m_above m_bodies m_trace m_sorts m_lengths m_items m_moved mnow mmind mthen mkept mtext mtexted mrules msizes mruled mread msize mat mwell mwithin msum mbear mnames mletters mbegins mwords mdrifts mabove mbodies mtrace mran msorts mlengths mitems mmoved]) sz)) 0 0 (va_A (fl [wdX8 kc m_o m_now m_mind m_then m_text m_rules m_sizes m_read m_names m_letters m_begins m_words m_drifts m_above m_bodies m_trace m_sorts m_lengths m_items m_moved mnow mmind mthen mkept mtext mtexted mrules msizes mruled mread msize mat mwell mwithin msum mbear mnames mletters mbegins mwords mdrifts mabove mbodies mtrace mran msorts mlengths mitems mmoved]) sz) := by
  intro sz
  refine kMet (cc := cX8_taken) (maxL := 4) (ret := (some .int)) (Qf := fun A => kQi dC dI r (fl [wdX8 kc m_o m_now m_mind m_then m_text m_rules m_sizes m_read m_names m_letters m_begins m_words m_drifts m_above m_bodies m_trace m_sorts m_lengths m_items m_moved mnow mmind mthen mkept mtext mtexted mrules msizes mruled mread msize mat mwell mwithin msum mbear mnames mletters mbegins mwords mdrifts mabove mbodies mtrace mran msorts mlengths mitems mmoved]) A) (by decide) rfl (Nat.le_of_ble_eq_true rfl) ?_
  intro p e s m below meth c A ls hx hb hr hml hts hown hlocks hname hsz hA hP hK hD hl
  have hS : va_S A s.heap s.heap [] := va_S.rf
  have hl : lv_has ls 4 [(0, .ref m_o), (1, .int x1), (2, .int x2)] := hl
  unfold fX8_taken at hm
  refine lv_iload_n hx hb dX8_taken_0 rfl (lv_at hl 2 rfl) ?_
  refine lv_iconst (v := 0) hx hb dX8_taken_1 (by decide) ?_
  refine lv_bipush (v := 6) hx hb dX8_taken_2 (by decide) ?_
  obtain ⟨r4, hc4, hm⟩ := bd1_e hm
  refine k_callGSi (dC := dC) (dI := dI) (kc := kc) (As := [.int x2, .int 0, .int 6]) (rest := []) (Gs' := [wdX8 kc m_o m_now m_mind m_then m_text m_rules m_sizes m_read m_names m_letters m_begins m_words m_drifts m_above m_bodies m_trace m_sorts m_lengths m_items m_moved mnow mmind mthen mkept mtext mtexted mrules msizes mruled mread msize mat mwell mwithin msum mbear mnames mletters mbegins mwords mdrifts mabove mbodies mtrace mran msorts mlengths mitems mmoved]) hx hb hml hown hts hK hP hD hS hA (ctX8_isIn (x1 := x2) (x2 := 0) (x3 := 6) hc4) (va_cwS 3 hts gX8_taken_X8_isIn rfl rfl rfl (by decide +kernel) ⟨Nat.le_of_ble_eq_true rfl, Nat.le_of_ble_eq_true rfl⟩) [] rfl (by decide) rfl hl rfl (Nat.le_of_ble_eq_true rfl) dX8_taken_4 ⟨Nat.zero_le _, Nat.zero_le _⟩ rfl rfl rfl (fun H locs hP hD hS => ?_)
  refine lv_if_ne (tgt := 13) hx hb dX8_taken_7 (by decide) (fun c7 => ?_) (fun c7 => ?_)
  · replace hm := it_f c7 hm
    refine lv_aload_n hx hb dX8_taken_13 rfl (lv_at hl 0 rfl) ?_
    refine lv_iload_n hx hb dX8_taken_14 rfl (lv_at hl 1 rfl) ?_
    obtain ⟨r15, hc15, hm⟩ := bd1_e hm
    refine k_callGVi (dC := dC) (dI := dI) (kc := kc) (As := [.int x1]) (rest := []) (Gs' := [wdX8 kc m_o m_now m_mind m_then m_text m_rules m_sizes m_read m_names m_letters m_begins m_words m_drifts m_above m_bodies m_trace m_sorts m_lengths m_items m_moved mnow mmind mthen mkept mtext mtexted mrules msizes mruled mread msize mat mwell mwithin msum mbear mnames mletters mbegins mwords mdrifts mabove mbodies mtrace mran msorts mlengths mitems mmoved]) hx hb hml hown hts hK hP hD hS hA (ctX8_isOne (m_o := m_o) (m_now := m_now) (m_mind := m_mind) (m_then := m_then) (m_text := m_text) (m_rules := m_rules) (m_sizes := m_sizes) (m_read := m_read) (m_names := m_names) (m_letters := m_letters) (m_begins := m_begins) (m_words := m_words) (m_drifts := m_drifts) (m_above := m_above) (m_bodies := m_bodies) (m_trace := m_trace) (m_sorts := m_sorts) (m_lengths := m_lengths) (m_items := m_items) (m_moved := m_moved) (mnow := mnow) (mmind := mmind) (mthen := mthen) (mkept := mkept) (mtext := mtext) (mtexted := mtexted) (mrules := mrules) (msizes := msizes) (mruled := mruled) (mread := mread) (msize := msize) (mat := mat) (mwell := mwell) (mwithin := mwithin) (msum := msum) (mbear := mbear) (mnames := mnames) (mletters := mletters) (mbegins := mbegins) (mwords := mwords) (mdrifts := mdrifts) (mabove := mabove) (mbodies := mbodies) (mtrace := mtrace) (mran := mran) (msorts := msorts) (mlengths := mlengths) (mitems := mitems) (mmoved := mmoved) (x1 := x1) hc15) (cwV 1 hts gX8_taken_X8_isOne rfl rfl rfl (by decide +kernel) ⟨Nat.le_of_ble_eq_true rfl, Nat.le_of_ble_eq_true rfl⟩) [0] rfl (by decide) 8 rfl rfl rfl rfl hl rfl (Nat.le_of_ble_eq_true rfl) dX8_taken_15 ⟨Nat.zero_le _, Nat.zero_le _⟩ rfl rfl rfl (fun H locs hP hD hS => ?_)
    refine lv_if_ne (tgt := 24) hx hb dX8_taken_18 (by decide) (fun c18 => ?_) (fun c18 => ?_)
    · replace hm := it_f c18 hm
      refine lv_aload_n hx hb dX8_taken_24 rfl (lv_at hl 0 rfl) ?_
      refine lv_iload_n hx hb dX8_taken_25 rfl (lv_at hl 1 rfl) ?_
      refine lv_iconst (v := 0) hx hb dX8_taken_26 (by decide) ?_
      obtain ⟨r27, hc27, hm⟩ := bd1_e hm
      refine k_callGVi (dC := dC) (dI := dI) (kc := kc) (As := [.int x1, .int 0]) (rest := []) (Gs' := [wdX8 kc m_o m_now m_mind m_then m_text m_rules m_sizes m_read m_names m_letters m_begins m_words m_drifts m_above m_bodies m_trace m_sorts m_lengths m_items m_moved mnow mmind mthen mkept mtext mtexted mrules msizes mruled mread msize mat mwell mwithin msum mbear mnames mletters mbegins mwords mdrifts mabove mbodies mtrace mran msorts mlengths mitems mmoved]) hx hb hml hown hts hK hP hD hS hA (ctX8_number (m_o := m_o) (m_now := m_now) (m_mind := m_mind) (m_then := m_then) (m_text := m_text) (m_rules := m_rules) (m_sizes := m_sizes) (m_read := m_read) (m_names := m_names) (m_letters := m_letters) (m_begins := m_begins) (m_words := m_words) (m_drifts := m_drifts) (m_above := m_above) (m_bodies := m_bodies) (m_trace := m_trace) (m_sorts := m_sorts) (m_lengths := m_lengths) (m_items := m_items) (m_moved := m_moved) (mnow := mnow) (mmind := mmind) (mthen := mthen) (mkept := mkept) (mtext := mtext) (mtexted := mtexted) (mrules := mrules) (msizes := msizes) (mruled := mruled) (mread := mread) (msize := msize) (mat := mat) (mwell := mwell) (mwithin := mwithin) (msum := msum) (mbear := mbear) (mnames := mnames) (mletters := mletters) (mbegins := mbegins) (mwords := mwords) (mdrifts := mdrifts) (mabove := mabove) (mbodies := mbodies) (mtrace := mtrace) (mran := mran) (msorts := msorts) (mlengths := mlengths) (mitems := mitems) (mmoved := mmoved) (x1 := x1) (x2 := 0) hc27) (cwV 2 hts gX8_taken_X8_number rfl rfl rfl (by decide +kernel) ⟨Nat.le_of_ble_eq_true rfl, Nat.le_of_ble_eq_true rfl⟩) [0] rfl (by decide) 8 rfl rfl rfl rfl hl rfl (Nat.le_of_ble_eq_true rfl) dX8_taken_27 ⟨Nat.zero_le _, Nat.zero_le _⟩ rfl rfl rfl (fun H locs hP hD hS => ?_)
      refine lv_istore_n (lv' := [(3, .int r27), (0, .ref m_o), (1, .int x1), (2, .int x2)]) hx hb dX8_taken_30 rfl hl (by decide) rfl (fun ls hl => ?_)
      have hL31 : ∀ (fn : Nat) (l3_31 : Int32), LX8_taken_31 mnow mabove x1 x2 fn l3_31 = some r → ∀ (H : Heap) (locs : List Loc), va_P (dC, dI) vwCl (fl [wdX8 kc m_o m_now m_mind m_then m_text m_rules m_sizes m_read m_names m_letters m_begins m_words m_drifts m_above m_bodies m_trace m_sorts m_lengths m_items m_moved mnow mmind mthen mkept mtext mtexted mrules msizes mruled mread msize mat mwell mwithin msum mbear mnames mletters mbegins mwords mdrifts mabove mbodies mtrace mran msorts mlengths mitems mmoved]) H → va_D A (fl [wdX8 kc m_o m_now m_mind m_then m_text m_rules m_sizes m_read m_names m_letters m_begins m_words m_drifts m_above m_bodies m_trace m_sorts m_lengths m_items m_moved mnow mmind mthen mkept mtext mtexted mrules msizes mruled mread msize mat mwell mwithin msum mbear mnames mletters mbegins mwords mdrifts mabove mbodies mtrace mran msorts mlengths mitems mmoved]) → va_S A s.heap H locs → ∀ ls : Array Slot, lv_has ls 4 [(0, .ref m_o), (1, .int x1), (2, .int x2), (3, .int l3_31)] → W p l e (headSpec wsX8_taken rmX8_taken).room s m [.ref m_o, .int x1, .int x2].toArray below meth c H locs 0 0 (MQ below (kQi dC dI r (fl [wdX8 kc m_o m_now m_mind m_then m_text m_rules m_sizes m_read m_names m_letters m_begins m_words m_drifts m_above m_bodies m_trace m_sorts m_lengths m_items m_moved mnow mmind mthen mkept mtext mtexted mrules msizes mruled mread msize mat mwell mwithin msum mbear mnames mletters mbegins mwords mdrifts mabove mbodies mtrace mran msorts mlengths mitems mmoved]) A) [.ref m_o, .int x1, .int x2].toArray s 0 0 A) (F0 m 31 ls []) := by
        clear hm hP hD hS hl
        intro n31
        induction n31 with
        | zero => intro l3_31 hm; rw [LX8_taken_31] at hm; cases hm
        | succ n31 ih31 =>
          intro l3_31 hm H locs hP hD hS ls hl
          rw [LX8_taken_31] at hm
          refine lv_iload_n hx hb dX8_taken_31 rfl (lv_at hl 3 rfl) ?_
          refine lv_iconst (v := (-1)) hx hb dX8_taken_32 (by decide) ?_
          refine lv_icmp_eq (tgt := 51) hx hb dX8_taken_33 (by decide) (fun c33 => ?_) (fun c33 => ?_)
          · replace hm := it_t c33 hm
            refine lv_iload_n hx hb dX8_taken_51 rfl (lv_at hl 3 rfl) ?_
            refine lv_iload_n hx hb dX8_taken_52 rfl (lv_at hl 2 rfl) ?_
            refine lv_icmp_ne (tgt := 65) hx hb dX8_taken_53 (by decide) (fun c53 => ?_) (fun c53 => ?_)
            · replace hm := it_f c53 hm
              refine lv_bipush (v := (-12)) hx hb dX8_taken_65 (by decide) ?_
              cases hm
              exact k_iret hx hb hr hlocks hP hS dX8_taken_67
            · replace hm := it_t c53 hm
              refine lv_aload_n hx hb dX8_taken_56 rfl (lv_at hl 0 rfl) ?_
              refine lv_iload_n hx hb dX8_taken_57 rfl (lv_at hl 1 rfl) ?_
              refine lv_iconst (v := 0) hx hb dX8_taken_58 (by decide) ?_
              obtain ⟨r59, hc59, hm⟩ := bd1_e hm
              refine k_callGVi (dC := dC) (dI := dI) (kc := kc) (As := [.int x1, .int 0]) (rest := []) (Gs' := [wdX8 kc m_o m_now m_mind m_then m_text m_rules m_sizes m_read m_names m_letters m_begins m_words m_drifts m_above m_bodies m_trace m_sorts m_lengths m_items m_moved mnow mmind mthen mkept mtext mtexted mrules msizes mruled mread msize mat mwell mwithin msum mbear mnames mletters mbegins mwords mdrifts mabove mbodies mtrace mran msorts mlengths mitems mmoved]) hx hb hml hown hts hK hP hD hS hA (ctX8_number (m_o := m_o) (m_now := m_now) (m_mind := m_mind) (m_then := m_then) (m_text := m_text) (m_rules := m_rules) (m_sizes := m_sizes) (m_read := m_read) (m_names := m_names) (m_letters := m_letters) (m_begins := m_begins) (m_words := m_words) (m_drifts := m_drifts) (m_above := m_above) (m_bodies := m_bodies) (m_trace := m_trace) (m_sorts := m_sorts) (m_lengths := m_lengths) (m_items := m_items) (m_moved := m_moved) (mnow := mnow) (mmind := mmind) (mthen := mthen) (mkept := mkept) (mtext := mtext) (mtexted := mtexted) (mrules := mrules) (msizes := msizes) (mruled := mruled) (mread := mread) (msize := msize) (mat := mat) (mwell := mwell) (mwithin := mwithin) (msum := msum) (mbear := mbear) (mnames := mnames) (mletters := mletters) (mbegins := mbegins) (mwords := mwords) (mdrifts := mdrifts) (mabove := mabove) (mbodies := mbodies) (mtrace := mtrace) (mran := mran) (msorts := msorts) (mlengths := mlengths) (mitems := mitems) (mmoved := mmoved) (x1 := x1) (x2 := 0) hc59) (cwV 2 hts gX8_taken_X8_number rfl rfl rfl (by decide +kernel) ⟨Nat.le_of_ble_eq_true rfl, Nat.le_of_ble_eq_true rfl⟩) [0] rfl (by decide) 8 rfl rfl rfl rfl hl rfl (Nat.le_of_ble_eq_true rfl) dX8_taken_59 ⟨Nat.zero_le _, Nat.zero_le _⟩ rfl rfl rfl (fun H locs hP hD hS => ?_)
              refine lv_goto (tgt := 67) hx hb dX8_taken_62 (by decide) ?_
              cases hm
              exact k_iret hx hb hr hlocks hP hS dX8_taken_67
          · replace hm := it_f c33 hm
            refine lv_iload_n hx hb dX8_taken_36 rfl (lv_at hl 3 rfl) ?_
            refine lv_iload_n hx hb dX8_taken_37 rfl (lv_at hl 2 rfl) ?_
            refine lv_icmp_eq (tgt := 51) hx hb dX8_taken_38 (by decide) (fun c38 => ?_) (fun c38 => ?_)
            · replace hm := it_t c38 hm
              refine lv_iload_n hx hb dX8_taken_51 rfl (lv_at hl 3 rfl) ?_
              refine lv_iload_n hx hb dX8_taken_52 rfl (lv_at hl 2 rfl) ?_
              refine lv_icmp_ne (tgt := 65) hx hb dX8_taken_53 (by decide) (fun c53 => ?_) (fun c53 => ?_)
              · replace hm := it_f c53 hm
                refine lv_bipush (v := (-12)) hx hb dX8_taken_65 (by decide) ?_
                cases hm
                exact k_iret hx hb hr hlocks hP hS dX8_taken_67
              · replace hm := it_t c53 hm
                refine lv_aload_n hx hb dX8_taken_56 rfl (lv_at hl 0 rfl) ?_
                refine lv_iload_n hx hb dX8_taken_57 rfl (lv_at hl 1 rfl) ?_
                refine lv_iconst (v := 0) hx hb dX8_taken_58 (by decide) ?_
                obtain ⟨r59, hc59, hm⟩ := bd1_e hm
                refine k_callGVi (dC := dC) (dI := dI) (kc := kc) (As := [.int x1, .int 0]) (rest := []) (Gs' := [wdX8 kc m_o m_now m_mind m_then m_text m_rules m_sizes m_read m_names m_letters m_begins m_words m_drifts m_above m_bodies m_trace m_sorts m_lengths m_items m_moved mnow mmind mthen mkept mtext mtexted mrules msizes mruled mread msize mat mwell mwithin msum mbear mnames mletters mbegins mwords mdrifts mabove mbodies mtrace mran msorts mlengths mitems mmoved]) hx hb hml hown hts hK hP hD hS hA (ctX8_number (m_o := m_o) (m_now := m_now) (m_mind := m_mind) (m_then := m_then) (m_text := m_text) (m_rules := m_rules) (m_sizes := m_sizes) (m_read := m_read) (m_names := m_names) (m_letters := m_letters) (m_begins := m_begins) (m_words := m_words) (m_drifts := m_drifts) (m_above := m_above) (m_bodies := m_bodies) (m_trace := m_trace) (m_sorts := m_sorts) (m_lengths := m_lengths) (m_items := m_items) (m_moved := m_moved) (mnow := mnow) (mmind := mmind) (mthen := mthen) (mkept := mkept) (mtext := mtext) (mtexted := mtexted) (mrules := mrules) (msizes := msizes) (mruled := mruled) (mread := mread) (msize := msize) (mat := mat) (mwell := mwell) (mwithin := mwithin) (msum := msum) (mbear := mbear) (mnames := mnames) (mletters := mletters) (mbegins := mbegins) (mwords := mwords) (mdrifts := mdrifts) (mabove := mabove) (mbodies := mbodies) (mtrace := mtrace) (mran := mran) (msorts := msorts) (mlengths := mlengths) (mitems := mitems) (mmoved := mmoved) (x1 := x1) (x2 := 0) hc59) (cwV 2 hts gX8_taken_X8_number rfl rfl rfl (by decide +kernel) ⟨Nat.le_of_ble_eq_true rfl, Nat.le_of_ble_eq_true rfl⟩) [0] rfl (by decide) 8 rfl rfl rfl rfl hl rfl (Nat.le_of_ble_eq_true rfl) dX8_taken_59 ⟨Nat.zero_le _, Nat.zero_le _⟩ rfl rfl rfl (fun H locs hP hD hS => ?_)
                refine lv_goto (tgt := 67) hx hb dX8_taken_62 (by decide) ?_
                cases hm
                exact k_iret hx hb hr hlocks hP hS dX8_taken_67
            · replace hm := it_f c38 hm
              refine lv_aload_n hx hb dX8_taken_41 rfl (lv_at hl 0 rfl) ?_
              refine va_get (D := (dC, dI)) (ci := 8) (v := .ref m_above) (C := RX8) (T := TX8) (N := 29) hx hb hts hinX8_taken_X8 hown hK hP 0 rfl rfl 21 (by decide) (hts _ (List.mem_of_getElem? (i := 1) rfl)) (fun _ h9 => h9) rfl dX8_taken_42 ?_
              refine lv_iload_n hx hb dX8_taken_45 rfl (lv_at hl 3 rfl) ?_
              obtain ⟨hg46, hm⟩ := gd_e hm
              refine k_iald (D := (dC, dI)) hx hb hK hP 13 1 rfl rfl (k := l3_31.toNatClampNeg) rfl hg46 dX8_taken_46 ?_
              refine lv_istore_n (lv' := [(3, .int (mabove (l3_31.toNatClampNeg))), (0, .ref m_o), (1, .int x1), (2, .int x2)]) hx hb dX8_taken_47 rfl hl (by decide) rfl (fun ls hl => ?_)
              refine lv_goto (tgt := 31) hx hb dX8_taken_48 (by decide) ?_
              exact ih31 (mabove (l3_31.toNatClampNeg)) hm _ _ hP hD hS _ (lv_sub hl [1, 2, 3, 0] rfl)
      exact hL31 _ _ hm _ _ hP hD hS _ (lv_sub hl [1, 2, 3, 0] rfl)
    · replace hm := it_t c18 hm
      refine lv_bipush (v := (-11)) hx hb dX8_taken_21 (by decide) ?_
      cases hm
      exact k_iret hx hb hr hlocks hP hS dX8_taken_23
  · replace hm := it_t c7 hm
    refine lv_bipush (v := (-2)) hx hb dX8_taken_10 (by decide) ?_
    cases hm
    exact k_iret hx hb hr hlocks hP hS dX8_taken_12
def fX8_count (mnow : Nat → Int32) (mtexted : Int32) (mruled : Int32) (mran : Int32) (x1 : Int32) : Option Int32 := if x1 = 0 then (some (mnow 54)) else (if x1 = 1 then (some (mnow 55)) else (if x1 = 2 then (some mruled) else (if x1 = 3 then (some (mnow 59)) else (if x1 = 4 then (some (mnow 75)) else (if x1 = 5 then (some (mnow 96)) else (if x1 = 6 then (some mtexted) else (if x1 = 7 then (some mran) else (some ((-2) : Int32)))))))))
theorem hinX8_count_X8 : ∀ w ∈ u_ws RX8 TX8 29, w ∈ wsX8_count := fun _ h => List.mem_cons_of_mem _ (List.mem_append_right _ h)
abbrev rmX8_count : Room := { frames := 0, cells := 0, slots := 0, locals := 12 }
set_option maxHeartbeats 4000000 in
set_option maxRecDepth 100000 in
theorem ctX8_count {l : Launch} {dC : Nat → ClassId} {dI : Nat → Nat → Nat} {kc : Nat → ClassId} {m_o m_now m_mind m_then m_text m_rules m_sizes m_read m_names m_letters m_begins m_words m_drifts m_above m_bodies m_trace m_sorts m_lengths m_items m_moved : Nat} {mnow : Nat → Int32} {mmind : Nat → Int32} {mthen : Nat → Int32} {mkept : Int32} {mtext : Nat → Int32} {mtexted : Int32} {mrules : Nat → Int32} {msizes : Nat → Int32} {mruled : Int32} {mread : Nat → Int32} {msize : Int32} {mat : Int32} {mwell : Int32} {mwithin : Int32} {msum : Int32} {mbear : Int32} {mnames : Nat → Int32} {mletters : Nat → Int32} {mbegins : Nat → Int32} {mwords : Nat → Int32} {mdrifts : Nat → Int32} {mabove : Nat → Int32} {mbodies : Nat → Int32} {mtrace : Nat → Int32} {mran : Int32} {msorts : Nat → Int32} {mlengths : Nat → Int32} {mitems : Nat → Int64} {mmoved : Nat → Int64} {x1 : Int32} {r : Int32} (hm : fX8_count mnow mtexted mruled mran x1 = some r) : ∀ sz : Nat, Met l yX8_count wsX8_count rmX8_count (kPc dC dI kc [.ref m_o, .int x1] (fl [wdX8 kc m_o m_now m_mind m_then m_text m_rules m_sizes m_read m_names m_letters m_begins m_words m_drifts m_above m_bodies m_trace m_sorts m_lengths m_items m_moved mnow mmind mthen mkept mtext mtexted mrules msizes mruled mread msize mat mwell mwithin msum mbear mnames mletters mbegins mwords mdrifts mabove mbodies mtrace mran msorts mlengths mitems mmoved]) sz) (kQi dC dI r (fl [wdX8 kc m_o m_now m_mind m_then m_text m_rules m_sizes m_read m_names m_letters m_begins m_words m_drifts m_above m_bodies m_trace m_sorts m_lengths m_items m_moved mnow mmind mthen mkept mtext mtexted mrules msizes mruled mread msize mat mwell mwithin msum mbear mnames mletters mbegins mwords mdrifts mabove mbodies mtrace mran msorts mlengths mitems mmoved]) (va_A (fl [wdX8 kc m_o m_now m_mind m_then m_text m_rules m_sizes m_read m_names m_letters m_begins m_words m_drifts m_above m_bodies m_trace m_sorts m_lengths m_items m_moved mnow mmind mthen mkept mtext mtexted mrules msizes mruled mread msize mat mwell mwithin msum mbear mnames mletters mbegins mwords mdrifts mabove mbodies mtrace mran msorts mlengths mitems mmoved]) sz)) 0 0 (va_A (fl [wdX8 kc m_o m_now m_mind m_then m_text m_rules m_sizes m_read m_names m_letters m_begins m_words m_drifts m_above m_bodies m_trace m_sorts m_lengths m_items m_moved mnow mmind mthen mkept mtext mtexted mrules msizes mruled mread msize mat mwell mwithin msum mbear mnames mletters mbegins mwords mdrifts mabove mbodies mtrace mran msorts mlengths mitems mmoved]) sz) := by
  intro sz
  refine kMet (cc := cX8_count) (maxL := 2) (ret := (some .int)) (Qf := fun A => kQi dC dI r (fl [wdX8 kc m_o m_now m_mind m_then m_text m_rules m_sizes m_read m_names m_letters m_begins m_words m_drifts m_above m_bodies m_trace m_sorts m_lengths m_items m_moved mnow mmind mthen mkept mtext mtexted mrules msizes mruled mread msize mat mwell mwithin msum mbear mnames mletters mbegins mwords mdrifts mabove mbodies mtrace mran msorts mlengths mitems mmoved]) A) (by decide) rfl (Nat.le_of_ble_eq_true rfl) ?_
  intro p e s m below meth c A ls hx hb hr hml hts hown hlocks hname hsz hA hP hK hD hl
  have hS : va_S A s.heap s.heap [] := va_S.rf
  have hl : lv_has ls 2 [(0, .ref m_o), (1, .int x1)] := hl
  unfold fX8_count at hm
  refine lv_iload_n hx hb dX8_count_0 rfl (lv_at hl 1 rfl) ?_
  by_cases cs1_0 : x1 = 0
  · replace hm := it_t cs1_0 hm
    refine lv_tableIn (off := 47) (tgt := 48) hx hb dX8_count_1 (by rw [cs1_0]; decide) (by rw [cs1_0]; decide) (by rw [cs1_0]; rfl) (by decide) ?_
    refine lv_aload_n hx hb dX8_count_48 rfl (lv_at hl 0 rfl) ?_
    refine va_get (D := (dC, dI)) (ci := 8) (v := .ref m_now) (C := RX8) (T := TX8) (N := 29) hx hb hts hinX8_count_X8 hown hK hP 0 rfl rfl 0 (by decide) (hts _ (List.mem_of_getElem? (i := 1) rfl)) (fun _ h9 => h9) rfl dX8_count_49 ?_
    refine lv_bipush (v := 54) hx hb dX8_count_52 (by decide) ?_
    refine k_iald (D := (dC, dI)) hx hb hK hP 1 1 rfl rfl (k := 54) (by decide) (show ¬ ((54 : Int32) < 0 ∨ 113 ≤ (54 : Int32).toNatClampNeg) from by decide) dX8_count_54 ?_
    cases hm
    exact k_iret hx hb hr hlocks hP hS dX8_count_55
  replace hm := it_f cs1_0 hm
  by_cases cs1_1 : x1 = 1
  · replace hm := it_t cs1_1 hm
    refine lv_tableIn (off := 55) (tgt := 56) hx hb dX8_count_1 (by rw [cs1_1]; decide) (by rw [cs1_1]; decide) (by rw [cs1_1]; rfl) (by decide) ?_
    refine lv_aload_n hx hb dX8_count_56 rfl (lv_at hl 0 rfl) ?_
    refine va_get (D := (dC, dI)) (ci := 8) (v := .ref m_now) (C := RX8) (T := TX8) (N := 29) hx hb hts hinX8_count_X8 hown hK hP 0 rfl rfl 0 (by decide) (hts _ (List.mem_of_getElem? (i := 1) rfl)) (fun _ h9 => h9) rfl dX8_count_57 ?_
    refine lv_bipush (v := 55) hx hb dX8_count_60 (by decide) ?_
    refine k_iald (D := (dC, dI)) hx hb hK hP 1 1 rfl rfl (k := 55) (by decide) (show ¬ ((55 : Int32) < 0 ∨ 113 ≤ (55 : Int32).toNatClampNeg) from by decide) dX8_count_62 ?_
    cases hm
    exact k_iret hx hb hr hlocks hP hS dX8_count_63
  replace hm := it_f cs1_1 hm
  by_cases cs1_2 : x1 = 2
  · replace hm := it_t cs1_2 hm
    refine lv_tableIn (off := 63) (tgt := 64) hx hb dX8_count_1 (by rw [cs1_2]; decide) (by rw [cs1_2]; decide) (by rw [cs1_2]; rfl) (by decide) ?_
    refine lv_aload_n hx hb dX8_count_64 rfl (lv_at hl 0 rfl) ?_
    refine va_get (D := (dC, dI)) (ci := 8) (v := .int mruled) (C := RX8) (T := TX8) (N := 29) hx hb hts hinX8_count_X8 hown hK hP 0 rfl rfl 8 (by decide) (hts _ (List.mem_of_getElem? (i := 2) rfl)) (fun _ h9 => h9) rfl dX8_count_65 ?_
    cases hm
    exact k_iret hx hb hr hlocks hP hS dX8_count_68
  replace hm := it_f cs1_2 hm
  by_cases cs1_3 : x1 = 3
  · replace hm := it_t cs1_3 hm
    refine lv_tableIn (off := 68) (tgt := 69) hx hb dX8_count_1 (by rw [cs1_3]; decide) (by rw [cs1_3]; decide) (by rw [cs1_3]; rfl) (by decide) ?_
    refine lv_aload_n hx hb dX8_count_69 rfl (lv_at hl 0 rfl) ?_
    refine va_get (D := (dC, dI)) (ci := 8) (v := .ref m_now) (C := RX8) (T := TX8) (N := 29) hx hb hts hinX8_count_X8 hown hK hP 0 rfl rfl 0 (by decide) (hts _ (List.mem_of_getElem? (i := 1) rfl)) (fun _ h9 => h9) rfl dX8_count_70 ?_
    refine lv_bipush (v := 59) hx hb dX8_count_73 (by decide) ?_
    refine k_iald (D := (dC, dI)) hx hb hK hP 1 1 rfl rfl (k := 59) (by decide) (show ¬ ((59 : Int32) < 0 ∨ 113 ≤ (59 : Int32).toNatClampNeg) from by decide) dX8_count_75 ?_
    cases hm
    exact k_iret hx hb hr hlocks hP hS dX8_count_76
  replace hm := it_f cs1_3 hm
  by_cases cs1_4 : x1 = 4
  · replace hm := it_t cs1_4 hm
    refine lv_tableIn (off := 76) (tgt := 77) hx hb dX8_count_1 (by rw [cs1_4]; decide) (by rw [cs1_4]; decide) (by rw [cs1_4]; rfl) (by decide) ?_
    refine lv_aload_n hx hb dX8_count_77 rfl (lv_at hl 0 rfl) ?_
    refine va_get (D := (dC, dI)) (ci := 8) (v := .ref m_now) (C := RX8) (T := TX8) (N := 29) hx hb hts hinX8_count_X8 hown hK hP 0 rfl rfl 0 (by decide) (hts _ (List.mem_of_getElem? (i := 1) rfl)) (fun _ h9 => h9) rfl dX8_count_78 ?_
    refine lv_bipush (v := 75) hx hb dX8_count_81 (by decide) ?_
    refine k_iald (D := (dC, dI)) hx hb hK hP 1 1 rfl rfl (k := 75) (by decide) (show ¬ ((75 : Int32) < 0 ∨ 113 ≤ (75 : Int32).toNatClampNeg) from by decide) dX8_count_83 ?_
    cases hm
    exact k_iret hx hb hr hlocks hP hS dX8_count_84
  replace hm := it_f cs1_4 hm
  by_cases cs1_5 : x1 = 5
  · replace hm := it_t cs1_5 hm
    refine lv_tableIn (off := 84) (tgt := 85) hx hb dX8_count_1 (by rw [cs1_5]; decide) (by rw [cs1_5]; decide) (by rw [cs1_5]; rfl) (by decide) ?_
    refine lv_aload_n hx hb dX8_count_85 rfl (lv_at hl 0 rfl) ?_
    refine va_get (D := (dC, dI)) (ci := 8) (v := .ref m_now) (C := RX8) (T := TX8) (N := 29) hx hb hts hinX8_count_X8 hown hK hP 0 rfl rfl 0 (by decide) (hts _ (List.mem_of_getElem? (i := 1) rfl)) (fun _ h9 => h9) rfl dX8_count_86 ?_
    refine lv_bipush (v := 96) hx hb dX8_count_89 (by decide) ?_
    refine k_iald (D := (dC, dI)) hx hb hK hP 1 1 rfl rfl (k := 96) (by decide) (show ¬ ((96 : Int32) < 0 ∨ 113 ≤ (96 : Int32).toNatClampNeg) from by decide) dX8_count_91 ?_
    cases hm
    exact k_iret hx hb hr hlocks hP hS dX8_count_92
  replace hm := it_f cs1_5 hm
  by_cases cs1_6 : x1 = 6
  · replace hm := it_t cs1_6 hm
    refine lv_tableIn (off := 92) (tgt := 93) hx hb dX8_count_1 (by rw [cs1_6]; decide) (by rw [cs1_6]; decide) (by rw [cs1_6]; rfl) (by decide) ?_
    refine lv_aload_n hx hb dX8_count_93 rfl (lv_at hl 0 rfl) ?_
    refine va_get (D := (dC, dI)) (ci := 8) (v := .int mtexted) (C := RX8) (T := TX8) (N := 29) hx hb hts hinX8_count_X8 hown hK hP 0 rfl rfl 5 (by decide) (hts _ (List.mem_of_getElem? (i := 3) rfl)) (fun _ h9 => h9) rfl dX8_count_94 ?_
    cases hm
    exact k_iret hx hb hr hlocks hP hS dX8_count_97
  replace hm := it_f cs1_6 hm
  by_cases cs1_7 : x1 = 7
  · replace hm := it_t cs1_7 hm
    refine lv_tableIn (off := 97) (tgt := 98) hx hb dX8_count_1 (by rw [cs1_7]; decide) (by rw [cs1_7]; decide) (by rw [cs1_7]; rfl) (by decide) ?_
    refine lv_aload_n hx hb dX8_count_98 rfl (lv_at hl 0 rfl) ?_
    refine va_get (D := (dC, dI)) (ci := 8) (v := .int mran) (C := RX8) (T := TX8) (N := 29) hx hb hts hinX8_count_X8 hown hK hP 0 rfl rfl 24 (by decide) (hts _ (List.mem_of_getElem? (i := 4) rfl)) (fun _ h9 => h9) rfl dX8_count_99 ?_
    cases hm
    exact k_iret hx hb hr hlocks hP hS dX8_count_102
  replace hm := it_f cs1_7 hm
  have nt1_0 := lv_neT (k := 0) (a := 0) cs1_0 (by decide)
  have nt1_1 := lv_neT (k := 1) (a := 1) cs1_1 (by decide)
  have nt1_2 := lv_neT (k := 2) (a := 2) cs1_2 (by decide)
  have nt1_3 := lv_neT (k := 3) (a := 3) cs1_3 (by decide)
  have nt1_4 := lv_neT (k := 4) (a := 4) cs1_4 (by decide)
  have nt1_5 := lv_neT (k := 5) (a := 5) cs1_5 (by decide)
  have nt1_6 := lv_neT (k := 6) (a := 6) cs1_6 (by decide)
  have nt1_7 := lv_neT (k := 7) (a := 7) cs1_7 (by decide)
  refine lv_tableOut (tgt := 103) hx hb dX8_count_1 (by omega) (by decide) ?_
  refine lv_bipush (v := (-2)) hx hb dX8_count_103 (by decide) ?_
  cases hm
  exact k_iret hx hb hr hlocks hP hS dX8_count_105
def fX8_isTape (x1 : Int32) : Option Int32 := bd1 (fX8_isIn x1 0 5) (fun r3 => gd (r3 = 0 ∨ r3 = 1) (some r3))
abbrev rmX8_isTape : Room := { frames := 1, cells := 0, slots := 0, locals := 34 }
set_option maxHeartbeats 4000000 in
set_option maxRecDepth 100000 in
theorem ctX8_isTape {l : Launch} {dC : Nat → ClassId} {dI : Nat → Nat → Nat} {kc : Nat → ClassId} {x1 : Int32} {r : Int32} (hm : fX8_isTape x1 = some r) : ∀ sz : Nat, Met l yX8_isTape wsX8_isTape rmX8_isTape (kPc dC dI kc [.int x1] (fl []) sz) (kQi dC dI r (fl []) (va_A (fl []) sz)) 0 0 (va_A (fl []) sz) := by
  intro sz
  refine kMet (cc := cX8_isTape) (maxL := 1) (ret := (some .boolean)) (Qf := fun A => kQi dC dI r (fl []) A) (by decide) rfl (Nat.le_of_ble_eq_true rfl) ?_
  intro p e s m below meth c A ls hx hb hr hml hts hown hlocks hname hsz hA hP hK hD hl
  have hS : va_S A s.heap s.heap [] := va_S.rf
  have hl : lv_has ls 1 [(0, .int x1)] := hl
  unfold fX8_isTape at hm
  refine lv_iload_n hx hb dX8_isTape_0 rfl (lv_at hl 0 rfl) ?_
  refine lv_iconst (v := 0) hx hb dX8_isTape_1 (by decide) ?_
  refine lv_iconst (v := 5) hx hb dX8_isTape_2 (by decide) ?_
  obtain ⟨r3, hc3, hm⟩ := bd1_e hm
  refine k_callGSi (dC := dC) (dI := dI) (kc := kc) (As := [.int x1, .int 0, .int 5]) (rest := []) (Gs' := []) hx hb hml hown hts hK hP hD hS hA (ctX8_isIn (x1 := x1) (x2 := 0) (x3 := 5) hc3) (va_cwS 3 hts gX8_isTape_X8_isIn rfl rfl rfl (by decide +kernel) ⟨Nat.le_of_ble_eq_true rfl, Nat.le_of_ble_eq_true rfl⟩) [] rfl (by decide) rfl hl rfl (Nat.le_of_ble_eq_true rfl) dX8_isTape_3 ⟨Nat.zero_le _, Nat.zero_le _⟩ rfl rfl rfl (fun H locs hP hD hS => ?_)
  obtain ⟨hz6, hm⟩ := gd_e hm
  cases hm
  exact k_zret hx hb hr hlocks hz6 hP hS dX8_isTape_6
def LX8_tape_67 (msorts : Nat → Int32) (mlengths : Nat → Int32) (x1 : Int32) (x2 : Int32) (x3 : Int32) : Nat → Int32 → (Nat → Int64) → Option (Int32 × (Nat → Int32) × (Nat → Int32) × (Nat → Int64))
  | 0, _, _ => none
  | n67 + 1, l4_67, mitems_67 => if 60 ≤ l4_67 then (some ((1 : Int32), upd msorts (x1.toNatClampNeg) x2, upd mlengths (x1.toNatClampNeg) x3, mitems_67)) else (gd (inb ((60 * x1) + l4_67) 360) (LX8_tape_67 msorts mlengths x1 x2 x3 n67 (l4_67 + 1) (vp_updL mitems_67 (((60 * x1) + l4_67).toNatClampNeg) 0)))
def LX8_tape_67_1 (msorts : Nat → Int32) (mlengths : Nat → Int32) (x1 : Int32) (x2 : Int32) : Nat → Int32 → (Nat → Int64) → Option (Int32 × (Nat → Int32) × (Nat → Int32) × (Nat → Int64))
  | 0, _, _ => none
  | n67 + 1, l4_67, mitems_67 => if 60 ≤ l4_67 then (some ((1 : Int32), upd msorts (x1.toNatClampNeg) x2, upd mlengths (x1.toNatClampNeg) 0, mitems_67)) else (gd (inb ((60 * x1) + l4_67) 360) (LX8_tape_67_1 msorts mlengths x1 x2 n67 (l4_67 + 1) (vp_updL mitems_67 (((60 * x1) + l4_67).toNatClampNeg) 0)))
def fX8_tape (fu : Nat) (msorts : Nat → Int32) (mlengths : Nat → Int32) (mitems : Nat → Int64) (x1 : Int32) (x2 : Int32) (x3 : Int32) : Option (Int32 × (Nat → Int32) × (Nat → Int32) × (Nat → Int64)) := bd1 (fX8_isTape x1) (fun r1 => if r1 = 0 then (some (((-1) : Int32), msorts, mlengths, mitems)) else (bd1 (fX8_isIn x2 (-1) 4) (fun r12 => if r12 = 0 then (some (((-2) : Int32), msorts, mlengths, mitems)) else (if x2 < 0 then (if x2 < 0 then (gd (inb x1 6) (if 0 ≤ x2 then (gd (inb x1 6) (LX8_tape_67 msorts mlengths x1 x2 x3 fu 0 mitems)) else (gd (inb x1 6) (LX8_tape_67_1 msorts mlengths x1 x2 fu 0 mitems)))) else (if 0 ≤ x3 then (gd (inb x1 6) (if 0 ≤ x2 then (gd (inb x1 6) (LX8_tape_67 msorts mlengths x1 x2 x3 fu 0 mitems)) else (gd (inb x1 6) (LX8_tape_67_1 msorts mlengths x1 x2 fu 0 mitems)))) else (some (((-14) : Int32), msorts, mlengths, mitems)))) else (if x3 ≤ 60 then (if x2 < 0 then (gd (inb x1 6) (if 0 ≤ x2 then (gd (inb x1 6) (LX8_tape_67 msorts mlengths x1 x2 x3 fu 0 mitems)) else (gd (inb x1 6) (LX8_tape_67_1 msorts mlengths x1 x2 fu 0 mitems)))) else (if 0 ≤ x3 then (gd (inb x1 6) (if 0 ≤ x2 then (gd (inb x1 6) (LX8_tape_67 msorts mlengths x1 x2 x3 fu 0 mitems)) else (gd (inb x1 6) (LX8_tape_67_1 msorts mlengths x1 x2 fu 0 mitems)))) else (some (((-14) : Int32), msorts, mlengths, mitems)))) else (some (((-2) : Int32), msorts, mlengths, mitems)))))))
theorem hinX8_tape_X8 : ∀ w ∈ u_ws RX8 TX8 29, w ∈ wsX8_tape := fun _ h => List.mem_cons_of_mem _ (List.mem_append_right _ h)
abbrev rmX8_tape : Room := { frames := 2, cells := 0, slots := 0, locals := 54 }
set_option maxHeartbeats 4000000 in
set_option maxRecDepth 100000 in
theorem ctX8_tape {l : Launch} {dC : Nat → ClassId} {dI : Nat → Nat → Nat} {kc : Nat → ClassId} {m_o m_now m_mind m_then m_text m_rules m_sizes m_read m_names m_letters m_begins m_words m_drifts m_above m_bodies m_trace m_sorts m_lengths m_items m_moved : Nat} {mnow : Nat → Int32} {mmind : Nat → Int32} {mthen : Nat → Int32} {mkept : Int32} {mtext : Nat → Int32} {mtexted : Int32} {mrules : Nat → Int32} {msizes : Nat → Int32} {mruled : Int32} {mread : Nat → Int32} {msize : Int32} {mat : Int32} {mwell : Int32} {mwithin : Int32} {msum : Int32} {mbear : Int32} {mnames : Nat → Int32} {mletters : Nat → Int32} {mbegins : Nat → Int32} {mwords : Nat → Int32} {mdrifts : Nat → Int32} {mabove : Nat → Int32} {mbodies : Nat → Int32} {mtrace : Nat → Int32} {mran : Int32} {msorts : Nat → Int32} {mlengths : Nat → Int32} {mitems : Nat → Int64} {mmoved : Nat → Int64} {x1 : Int32} {x2 : Int32} {x3 : Int32} {fu : Nat} {r : Int32} {msorts' : Nat → Int32} {mlengths' : Nat → Int32} {mitems' : Nat → Int64} (hm : fX8_tape fu msorts mlengths mitems x1 x2 x3 = some (r, msorts', mlengths', mitems')) : ∀ sz : Nat, Met l yX8_tape wsX8_tape rmX8_tape (kPc dC dI kc [.ref m_o, .int x1, .int x2, .int x3] (fl [wdX8 kc m_o m_now m_mind m_then m_text m_rules m_sizes m_read m_names m_letters m_begins m_words m_drifts m_above m_bodies m_trace m_sorts m_lengths m_items m_moved mnow mmind mthen mkept mtext mtexted mrules msizes mruled mread msize mat mwell mwithin msum mbear mnames mletters mbegins mwords mdrifts mabove mbodies mtrace mran msorts mlengths mitems mmoved]) sz) (kQi dC dI r (fl [wdX8 kc m_o m_now m_mind m_then m_text m_rules m_sizes m_read m_names m_letters m_begins m_words m_drifts m_above m_bodies m_trace m_sorts m_lengths m_items m_moved mnow mmind mthen mkept mtext mtexted mrules msizes mruled mread msize mat mwell mwithin msum mbear mnames mletters mbegins mwords mdrifts mabove mbodies mtrace mran msorts' mlengths' mitems' mmoved]) (va_A (fl [wdX8 kc m_o m_now m_mind m_then m_text m_rules m_sizes m_read m_names m_letters m_begins m_words m_drifts m_above m_bodies m_trace m_sorts m_lengths m_items m_moved mnow mmind mthen mkept mtext mtexted mrules msizes mruled mread msize mat mwell mwithin msum mbear mnames mletters mbegins mwords mdrifts mabove mbodies mtrace mran msorts mlengths mitems mmoved]) sz)) 0 0 (va_A (fl [wdX8 kc m_o m_now m_mind m_then m_text m_rules m_sizes m_read m_names m_letters m_begins m_words m_drifts m_above m_bodies m_trace m_sorts m_lengths m_items m_moved mnow mmind mthen mkept mtext mtexted mrules msizes mruled mread msize mat mwell mwithin msum mbear mnames mletters mbegins mwords mdrifts mabove mbodies mtrace mran msorts mlengths mitems mmoved]) sz) := by
  intro sz
  refine kMet (cc := cX8_tape) (maxL := 5) (ret := (some .int)) (Qf := fun A => kQi dC dI r (fl [wdX8 kc m_o m_now m_mind m_then m_text m_rules m_sizes m_read m_names m_letters m_begins m_words m_drifts m_above m_bodies m_trace m_sorts m_lengths m_items m_moved mnow mmind mthen mkept mtext mtexted mrules msizes mruled mread msize mat mwell mwithin msum mbear mnames mletters mbegins mwords mdrifts mabove mbodies mtrace mran msorts' mlengths' mitems' mmoved]) A) (by decide) rfl (Nat.le_of_ble_eq_true rfl) ?_
  intro p e s m below meth c A ls hx hb hr hml hts hown hlocks hname hsz hA hP hK hD hl
  have hS : va_S A s.heap s.heap [] := va_S.rf
  have hl : lv_has ls 5 [(0, .ref m_o), (1, .int x1), (2, .int x2), (3, .int x3)] := hl
  unfold fX8_tape at hm
  refine lv_iload_n hx hb dX8_tape_0 rfl (lv_at hl 1 rfl) ?_
  obtain ⟨r1, hc1, hm⟩ := bd1_e hm
  refine k_callGSi (dC := dC) (dI := dI) (kc := kc) (As := [.int x1]) (rest := []) (Gs' := [wdX8 kc m_o m_now m_mind m_then m_text m_rules m_sizes m_read m_names m_letters m_begins m_words m_drifts m_above m_bodies m_trace m_sorts m_lengths m_items m_moved mnow mmind mthen mkept mtext mtexted mrules msizes mruled mread msize mat mwell mwithin msum mbear mnames mletters mbegins mwords mdrifts mabove mbodies mtrace mran msorts mlengths mitems mmoved]) hx hb hml hown hts hK hP hD hS hA (ctX8_isTape (x1 := x1) hc1) (va_cwS 1 hts gX8_tape_X8_isTape rfl rfl rfl (by decide +kernel) ⟨Nat.le_of_ble_eq_true rfl, Nat.le_of_ble_eq_true rfl⟩) [] rfl (by decide) rfl hl rfl (Nat.le_of_ble_eq_true rfl) dX8_tape_1 ⟨Nat.zero_le _, Nat.zero_le _⟩ rfl rfl rfl (fun H locs hP hD hS => ?_)
  refine lv_if_ne (tgt := 9) hx hb dX8_tape_4 (by decide) (fun c4 => ?_) (fun c4 => ?_)
  · replace hm := it_f c4 hm
    refine lv_iload_n hx hb dX8_tape_9 rfl (lv_at hl 2 rfl) ?_
    refine lv_iconst (v := (-1)) hx hb dX8_tape_10 (by decide) ?_
    refine lv_iconst (v := 4) hx hb dX8_tape_11 (by decide) ?_
    obtain ⟨r12, hc12, hm⟩ := bd1_e hm
    refine k_callGSi (dC := dC) (dI := dI) (kc := kc) (As := [.int x2, .int (-1), .int 4]) (rest := []) (Gs' := [wdX8 kc m_o m_now m_mind m_then m_text m_rules m_sizes m_read m_names m_letters m_begins m_words m_drifts m_above m_bodies m_trace m_sorts m_lengths m_items m_moved mnow mmind mthen mkept mtext mtexted mrules msizes mruled mread msize mat mwell mwithin msum mbear mnames mletters mbegins mwords mdrifts mabove mbodies mtrace mran msorts mlengths mitems mmoved]) hx hb hml hown hts hK hP hD hS hA (ctX8_isIn (x1 := x2) (x2 := (-1)) (x3 := 4) hc12) (va_cwS 3 hts gX8_tape_X8_isIn rfl rfl rfl (by decide +kernel) ⟨Nat.le_of_ble_eq_true rfl, Nat.le_of_ble_eq_true rfl⟩) [] rfl (by decide) rfl hl rfl (Nat.le_of_ble_eq_true rfl) dX8_tape_12 ⟨Nat.zero_le _, Nat.zero_le _⟩ rfl rfl rfl (fun H locs hP hD hS => ?_)
    refine lv_if_eq (tgt := 28) hx hb dX8_tape_15 (by decide) (fun c15 => ?_) (fun c15 => ?_)
    · replace hm := it_t c15 hm
      refine lv_bipush (v := (-2)) hx hb dX8_tape_28 (by decide) ?_
      cases hm
      exact k_iret hx hb hr hlocks hP hS dX8_tape_30
    · replace hm := it_f c15 hm
      refine lv_iload_n hx hb dX8_tape_18 rfl (lv_at hl 2 rfl) ?_
      refine lv_if_lt (tgt := 31) hx hb dX8_tape_19 (by decide) (fun c19 => ?_) (fun c19 => ?_)
      · replace hm := it_t c19 hm
        refine lv_iload_n hx hb dX8_tape_31 rfl (lv_at hl 2 rfl) ?_
        refine lv_if_lt (tgt := 42) hx hb dX8_tape_32 (by decide) (fun c32 => ?_) (fun c32 => ?_)
        · replace hm := it_t c32 hm
          refine lv_aload_n hx hb dX8_tape_42 rfl (lv_at hl 0 rfl) ?_
          refine va_get (D := (dC, dI)) (ci := 8) (v := .ref m_sorts) (C := RX8) (T := TX8) (N := 29) hx hb hts hinX8_tape_X8 hown hK hP 0 rfl rfl 25 (by decide) (hts _ (List.mem_of_getElem? (i := 1) rfl)) (fun _ h9 => h9) rfl dX8_tape_43 ?_
          refine lv_iload_n hx hb dX8_tape_46 rfl (lv_at hl 1 rfl) ?_
          refine lv_iload_n hx hb dX8_tape_47 rfl (lv_at hl 2 rfl) ?_
          obtain ⟨hg48, hm⟩ := gd_e hm
          refine k_iast (D := (dC, dI)) hx hb hK hP hD hS 16 1 rfl rfl (k := x1.toNatClampNeg) rfl hg48 dX8_tape_48 (fun H locs hP hD hS => ?_)
          have hP : va_P (dC, dI) vwCl (fl [wdX8 kc m_o m_now m_mind m_then m_text m_rules m_sizes m_read m_names m_letters m_begins m_words m_drifts m_above m_bodies m_trace m_sorts m_lengths m_items m_moved mnow mmind mthen mkept mtext mtexted mrules msizes mruled mread msize mat mwell mwithin msum mbear mnames mletters mbegins mwords mdrifts mabove mbodies mtrace mran (upd msorts (x1.toNatClampNeg) x2) mlengths mitems mmoved]) H := hP
          have hD : va_D A (fl [wdX8 kc m_o m_now m_mind m_then m_text m_rules m_sizes m_read m_names m_letters m_begins m_words m_drifts m_above m_bodies m_trace m_sorts m_lengths m_items m_moved mnow mmind mthen mkept mtext mtexted mrules msizes mruled mread msize mat mwell mwithin msum mbear mnames mletters mbegins mwords mdrifts mabove mbodies mtrace mran (upd msorts (x1.toNatClampNeg) x2) mlengths mitems mmoved]) := hD
          refine lv_aload_n hx hb dX8_tape_49 rfl (lv_at hl 0 rfl) ?_
          refine va_get (D := (dC, dI)) (ci := 8) (v := .ref m_lengths) (C := RX8) (T := TX8) (N := 29) hx hb hts hinX8_tape_X8 hown hK hP 0 rfl rfl 26 (by decide) (hts _ (List.mem_of_getElem? (i := 2) rfl)) (fun _ h9 => h9) rfl dX8_tape_50 ?_
          refine lv_iload_n hx hb dX8_tape_53 rfl (lv_at hl 1 rfl) ?_
          refine lv_iload_n hx hb dX8_tape_54 rfl (lv_at hl 2 rfl) ?_
          refine lv_if_ge (tgt := 62) hx hb dX8_tape_55 (by decide) (fun c55 => ?_) (fun c55 => ?_)
          · replace hm := it_t c55 hm
            refine lv_iload_n hx hb dX8_tape_62 rfl (lv_at hl 3 rfl) ?_
            obtain ⟨hg63, hm⟩ := gd_e hm
            refine k_iast (D := (dC, dI)) hx hb hK hP hD hS 17 1 rfl rfl (k := x1.toNatClampNeg) rfl hg63 dX8_tape_63 (fun H locs hP hD hS => ?_)
            have hP : va_P (dC, dI) vwCl (fl [wdX8 kc m_o m_now m_mind m_then m_text m_rules m_sizes m_read m_names m_letters m_begins m_words m_drifts m_above m_bodies m_trace m_sorts m_lengths m_items m_moved mnow mmind mthen mkept mtext mtexted mrules msizes mruled mread msize mat mwell mwithin msum mbear mnames mletters mbegins mwords mdrifts mabove mbodies mtrace mran (upd msorts (x1.toNatClampNeg) x2) (upd mlengths (x1.toNatClampNeg) x3) mitems mmoved]) H := hP
            have hD : va_D A (fl [wdX8 kc m_o m_now m_mind m_then m_text m_rules m_sizes m_read m_names m_letters m_begins m_words m_drifts m_above m_bodies m_trace m_sorts m_lengths m_items m_moved mnow mmind mthen mkept mtext mtexted mrules msizes mruled mread msize mat mwell mwithin msum mbear mnames mletters mbegins mwords mdrifts mabove mbodies mtrace mran (upd msorts (x1.toNatClampNeg) x2) (upd mlengths (x1.toNatClampNeg) x3) mitems mmoved]) := hD
            refine lv_iconst (v := 0) hx hb dX8_tape_64 (by decide) ?_
            refine lv_istore (lv' := [(4, .int 0), (0, .ref m_o), (1, .int x1), (2, .int x2), (3, .int x3)]) hx hb dX8_tape_65 hl (by decide) rfl (fun ls hl => ?_)
            have hL67 : ∀ (fn : Nat) (l4_67 : Int32) (mitems_67 : Nat → Int64), LX8_tape_67 msorts mlengths x1 x2 x3 fn l4_67 mitems_67 = some (r, msorts', mlengths', mitems') → ∀ (H : Heap) (locs : List Loc), va_P (dC, dI) vwCl (fl [wdX8 kc m_o m_now m_mind m_then m_text m_rules m_sizes m_read m_names m_letters m_begins m_words m_drifts m_above m_bodies m_trace m_sorts m_lengths m_items m_moved mnow mmind mthen mkept mtext mtexted mrules msizes mruled mread msize mat mwell mwithin msum mbear mnames mletters mbegins mwords mdrifts mabove mbodies mtrace mran (upd msorts (x1.toNatClampNeg) x2) (upd mlengths (x1.toNatClampNeg) x3) mitems_67 mmoved]) H → va_D A (fl [wdX8 kc m_o m_now m_mind m_then m_text m_rules m_sizes m_read m_names m_letters m_begins m_words m_drifts m_above m_bodies m_trace m_sorts m_lengths m_items m_moved mnow mmind mthen mkept mtext mtexted mrules msizes mruled mread msize mat mwell mwithin msum mbear mnames mletters mbegins mwords mdrifts mabove mbodies mtrace mran (upd msorts (x1.toNatClampNeg) x2) (upd mlengths (x1.toNatClampNeg) x3) mitems_67 mmoved]) → va_S A s.heap H locs → ∀ ls : Array Slot, lv_has ls 5 [(0, .ref m_o), (1, .int x1), (4, .int l4_67)] → W p l e (headSpec wsX8_tape rmX8_tape).room s m [.ref m_o, .int x1, .int x2, .int x3].toArray below meth c H locs 0 0 (MQ below (kQi dC dI r (fl [wdX8 kc m_o m_now m_mind m_then m_text m_rules m_sizes m_read m_names m_letters m_begins m_words m_drifts m_above m_bodies m_trace m_sorts m_lengths m_items m_moved mnow mmind mthen mkept mtext mtexted mrules msizes mruled mread msize mat mwell mwithin msum mbear mnames mletters mbegins mwords mdrifts mabove mbodies mtrace mran msorts' mlengths' mitems' mmoved]) A) [.ref m_o, .int x1, .int x2, .int x3].toArray s 0 0 A) (F0 m 67 ls []) := by
              clear hm hP hD hS hl
              intro n67
              induction n67 with
              | zero => intro l4_67 mitems_67 hm; rw [LX8_tape_67] at hm; cases hm
              | succ n67 ih67 =>
                intro l4_67 mitems_67 hm H locs hP hD hS ls hl
                rw [LX8_tape_67] at hm
                refine lv_iload hx hb dX8_tape_67 (lv_at hl 2 rfl) ?_
                refine lv_bipush (v := 60) hx hb dX8_tape_69 (by decide) ?_
                refine lv_icmp_ge (tgt := 93) hx hb dX8_tape_71 (by decide) (fun c71 => ?_) (fun c71 => ?_)
                · replace hm := it_t c71 hm
                  refine lv_iconst (v := 1) hx hb dX8_tape_93 (by decide) ?_
                  cases hm
                  exact k_iret hx hb hr hlocks hP hS dX8_tape_94
                · replace hm := it_f c71 hm
                  refine lv_aload_n hx hb dX8_tape_74 rfl (lv_at hl 0 rfl) ?_
                  refine va_get (D := (dC, dI)) (ci := 8) (v := .ref m_items) (C := RX8) (T := TX8) (N := 29) hx hb hts hinX8_tape_X8 hown hK hP 0 rfl rfl 27 (by decide) (hts _ (List.mem_of_getElem? (i := 3) rfl)) (fun _ h9 => h9) rfl dX8_tape_75 ?_
                  refine lv_bipush (v := 60) hx hb dX8_tape_78 (by decide) ?_
                  refine lv_iload_n hx hb dX8_tape_80 rfl (lv_at hl 1 rfl) ?_
                  refine lv_imul hx hb dX8_tape_81 ?_
                  refine lv_iload hx hb dX8_tape_82 (lv_at hl 2 rfl) ?_
                  refine lv_iadd hx hb dX8_tape_84 ?_
                  refine lv_lconst (v := 0) hx hb dX8_tape_85 (by decide) ?_
                  obtain ⟨hg86, hm⟩ := gd_e hm
                  refine k_last (D := (dC, dI)) hx hb hK hP hD hS 18 2 rfl rfl (k := ((60 * x1) + l4_67).toNatClampNeg) rfl hg86 dX8_tape_86 (fun H locs hP hD hS => ?_)
                  have hP : va_P (dC, dI) vwCl (fl [wdX8 kc m_o m_now m_mind m_then m_text m_rules m_sizes m_read m_names m_letters m_begins m_words m_drifts m_above m_bodies m_trace m_sorts m_lengths m_items m_moved mnow mmind mthen mkept mtext mtexted mrules msizes mruled mread msize mat mwell mwithin msum mbear mnames mletters mbegins mwords mdrifts mabove mbodies mtrace mran (upd msorts (x1.toNatClampNeg) x2) (upd mlengths (x1.toNatClampNeg) x3) (vp_updL mitems_67 (((60 * x1) + l4_67).toNatClampNeg) 0) mmoved]) H := hP
                  have hD : va_D A (fl [wdX8 kc m_o m_now m_mind m_then m_text m_rules m_sizes m_read m_names m_letters m_begins m_words m_drifts m_above m_bodies m_trace m_sorts m_lengths m_items m_moved mnow mmind mthen mkept mtext mtexted mrules msizes mruled mread msize mat mwell mwithin msum mbear mnames mletters mbegins mwords mdrifts mabove mbodies mtrace mran (upd msorts (x1.toNatClampNeg) x2) (upd mlengths (x1.toNatClampNeg) x3) (vp_updL mitems_67 (((60 * x1) + l4_67).toNatClampNeg) 0) mmoved]) := hD
                  refine lv_iinc (v := l4_67 + 1) (lv' := [(4, .int (l4_67 + 1)), (0, .ref m_o), (1, .int x1)]) hx hb dX8_tape_87 hl (k := 2) rfl rfl (by decide) rfl (fun ls hl => ?_)
                  refine lv_goto (tgt := 67) hx hb dX8_tape_90 (by decide) ?_
                  exact ih67 (l4_67 + 1) (vp_updL mitems_67 (((60 * x1) + l4_67).toNatClampNeg) 0) hm _ _ hP hD hS _ (lv_sub hl [1, 2, 0] rfl)
            exact hL67 _ _ _ hm _ _ hP hD hS _ (lv_sub hl [1, 2, 0] rfl)
          · replace hm := it_f c55 hm
            refine lv_iconst (v := 0) hx hb dX8_tape_58 (by decide) ?_
            refine lv_goto (tgt := 63) hx hb dX8_tape_59 (by decide) ?_
            obtain ⟨hg63, hm⟩ := gd_e hm
            refine k_iast (D := (dC, dI)) hx hb hK hP hD hS 17 1 rfl rfl (k := x1.toNatClampNeg) rfl hg63 dX8_tape_63 (fun H locs hP hD hS => ?_)
            have hP : va_P (dC, dI) vwCl (fl [wdX8 kc m_o m_now m_mind m_then m_text m_rules m_sizes m_read m_names m_letters m_begins m_words m_drifts m_above m_bodies m_trace m_sorts m_lengths m_items m_moved mnow mmind mthen mkept mtext mtexted mrules msizes mruled mread msize mat mwell mwithin msum mbear mnames mletters mbegins mwords mdrifts mabove mbodies mtrace mran (upd msorts (x1.toNatClampNeg) x2) (upd mlengths (x1.toNatClampNeg) 0) mitems mmoved]) H := hP
            have hD : va_D A (fl [wdX8 kc m_o m_now m_mind m_then m_text m_rules m_sizes m_read m_names m_letters m_begins m_words m_drifts m_above m_bodies m_trace m_sorts m_lengths m_items m_moved mnow mmind mthen mkept mtext mtexted mrules msizes mruled mread msize mat mwell mwithin msum mbear mnames mletters mbegins mwords mdrifts mabove mbodies mtrace mran (upd msorts (x1.toNatClampNeg) x2) (upd mlengths (x1.toNatClampNeg) 0) mitems mmoved]) := hD
            refine lv_iconst (v := 0) hx hb dX8_tape_64 (by decide) ?_
            refine lv_istore (lv' := [(4, .int 0), (0, .ref m_o), (1, .int x1), (2, .int x2), (3, .int x3)]) hx hb dX8_tape_65 hl (by decide) rfl (fun ls hl => ?_)
            have hL67 : ∀ (fn : Nat) (l4_67 : Int32) (mitems_67 : Nat → Int64), LX8_tape_67_1 msorts mlengths x1 x2 fn l4_67 mitems_67 = some (r, msorts', mlengths', mitems') → ∀ (H : Heap) (locs : List Loc), va_P (dC, dI) vwCl (fl [wdX8 kc m_o m_now m_mind m_then m_text m_rules m_sizes m_read m_names m_letters m_begins m_words m_drifts m_above m_bodies m_trace m_sorts m_lengths m_items m_moved mnow mmind mthen mkept mtext mtexted mrules msizes mruled mread msize mat mwell mwithin msum mbear mnames mletters mbegins mwords mdrifts mabove mbodies mtrace mran (upd msorts (x1.toNatClampNeg) x2) (upd mlengths (x1.toNatClampNeg) 0) mitems_67 mmoved]) H → va_D A (fl [wdX8 kc m_o m_now m_mind m_then m_text m_rules m_sizes m_read m_names m_letters m_begins m_words m_drifts m_above m_bodies m_trace m_sorts m_lengths m_items m_moved mnow mmind mthen mkept mtext mtexted mrules msizes mruled mread msize mat mwell mwithin msum mbear mnames mletters mbegins mwords mdrifts mabove mbodies mtrace mran (upd msorts (x1.toNatClampNeg) x2) (upd mlengths (x1.toNatClampNeg) 0) mitems_67 mmoved]) → va_S A s.heap H locs → ∀ ls : Array Slot, lv_has ls 5 [(0, .ref m_o), (1, .int x1), (4, .int l4_67)] → W p l e (headSpec wsX8_tape rmX8_tape).room s m [.ref m_o, .int x1, .int x2, .int x3].toArray below meth c H locs 0 0 (MQ below (kQi dC dI r (fl [wdX8 kc m_o m_now m_mind m_then m_text m_rules m_sizes m_read m_names m_letters m_begins m_words m_drifts m_above m_bodies m_trace m_sorts m_lengths m_items m_moved mnow mmind mthen mkept mtext mtexted mrules msizes mruled mread msize mat mwell mwithin msum mbear mnames mletters mbegins mwords mdrifts mabove mbodies mtrace mran msorts' mlengths' mitems' mmoved]) A) [.ref m_o, .int x1, .int x2, .int x3].toArray s 0 0 A) (F0 m 67 ls []) := by
              clear hm hP hD hS hl
              intro n67
              induction n67 with
              | zero => intro l4_67 mitems_67 hm; rw [LX8_tape_67_1] at hm; cases hm
              | succ n67 ih67 =>
                intro l4_67 mitems_67 hm H locs hP hD hS ls hl
                rw [LX8_tape_67_1] at hm
                refine lv_iload hx hb dX8_tape_67 (lv_at hl 2 rfl) ?_
                refine lv_bipush (v := 60) hx hb dX8_tape_69 (by decide) ?_
                refine lv_icmp_ge (tgt := 93) hx hb dX8_tape_71 (by decide) (fun c71 => ?_) (fun c71 => ?_)
                · replace hm := it_t c71 hm
                  refine lv_iconst (v := 1) hx hb dX8_tape_93 (by decide) ?_
                  cases hm
                  exact k_iret hx hb hr hlocks hP hS dX8_tape_94
                · replace hm := it_f c71 hm
                  refine lv_aload_n hx hb dX8_tape_74 rfl (lv_at hl 0 rfl) ?_
                  refine va_get (D := (dC, dI)) (ci := 8) (v := .ref m_items) (C := RX8) (T := TX8) (N := 29) hx hb hts hinX8_tape_X8 hown hK hP 0 rfl rfl 27 (by decide) (hts _ (List.mem_of_getElem? (i := 3) rfl)) (fun _ h9 => h9) rfl dX8_tape_75 ?_
                  refine lv_bipush (v := 60) hx hb dX8_tape_78 (by decide) ?_
                  refine lv_iload_n hx hb dX8_tape_80 rfl (lv_at hl 1 rfl) ?_
                  refine lv_imul hx hb dX8_tape_81 ?_
                  refine lv_iload hx hb dX8_tape_82 (lv_at hl 2 rfl) ?_
                  refine lv_iadd hx hb dX8_tape_84 ?_
                  refine lv_lconst (v := 0) hx hb dX8_tape_85 (by decide) ?_
                  obtain ⟨hg86, hm⟩ := gd_e hm
                  refine k_last (D := (dC, dI)) hx hb hK hP hD hS 18 2 rfl rfl (k := ((60 * x1) + l4_67).toNatClampNeg) rfl hg86 dX8_tape_86 (fun H locs hP hD hS => ?_)
                  have hP : va_P (dC, dI) vwCl (fl [wdX8 kc m_o m_now m_mind m_then m_text m_rules m_sizes m_read m_names m_letters m_begins m_words m_drifts m_above m_bodies m_trace m_sorts m_lengths m_items m_moved mnow mmind mthen mkept mtext mtexted mrules msizes mruled mread msize mat mwell mwithin msum mbear mnames mletters mbegins mwords mdrifts mabove mbodies mtrace mran (upd msorts (x1.toNatClampNeg) x2) (upd mlengths (x1.toNatClampNeg) 0) (vp_updL mitems_67 (((60 * x1) + l4_67).toNatClampNeg) 0) mmoved]) H := hP
                  have hD : va_D A (fl [wdX8 kc m_o m_now m_mind m_then m_text m_rules m_sizes m_read m_names m_letters m_begins m_words m_drifts m_above m_bodies m_trace m_sorts m_lengths m_items m_moved mnow mmind mthen mkept mtext mtexted mrules msizes mruled mread msize mat mwell mwithin msum mbear mnames mletters mbegins mwords mdrifts mabove mbodies mtrace mran (upd msorts (x1.toNatClampNeg) x2) (upd mlengths (x1.toNatClampNeg) 0) (vp_updL mitems_67 (((60 * x1) + l4_67).toNatClampNeg) 0) mmoved]) := hD
                  refine lv_iinc (v := l4_67 + 1) (lv' := [(4, .int (l4_67 + 1)), (0, .ref m_o), (1, .int x1)]) hx hb dX8_tape_87 hl (k := 2) rfl rfl (by decide) rfl (fun ls hl => ?_)
                  refine lv_goto (tgt := 67) hx hb dX8_tape_90 (by decide) ?_
                  exact ih67 (l4_67 + 1) (vp_updL mitems_67 (((60 * x1) + l4_67).toNatClampNeg) 0) hm _ _ hP hD hS _ (lv_sub hl [1, 2, 0] rfl)
            exact hL67 _ _ _ hm _ _ hP hD hS _ (lv_sub hl [1, 2, 0] rfl)
        · replace hm := it_f c32 hm
          refine lv_iload_n hx hb dX8_tape_35 rfl (lv_at hl 3 rfl) ?_
          refine lv_if_ge (tgt := 42) hx hb dX8_tape_36 (by decide) (fun c36 => ?_) (fun c36 => ?_)
          · replace hm := it_t c36 hm
            refine lv_aload_n hx hb dX8_tape_42 rfl (lv_at hl 0 rfl) ?_
            refine va_get (D := (dC, dI)) (ci := 8) (v := .ref m_sorts) (C := RX8) (T := TX8) (N := 29) hx hb hts hinX8_tape_X8 hown hK hP 0 rfl rfl 25 (by decide) (hts _ (List.mem_of_getElem? (i := 1) rfl)) (fun _ h9 => h9) rfl dX8_tape_43 ?_
            refine lv_iload_n hx hb dX8_tape_46 rfl (lv_at hl 1 rfl) ?_
            refine lv_iload_n hx hb dX8_tape_47 rfl (lv_at hl 2 rfl) ?_
            obtain ⟨hg48, hm⟩ := gd_e hm
            refine k_iast (D := (dC, dI)) hx hb hK hP hD hS 16 1 rfl rfl (k := x1.toNatClampNeg) rfl hg48 dX8_tape_48 (fun H locs hP hD hS => ?_)
            have hP : va_P (dC, dI) vwCl (fl [wdX8 kc m_o m_now m_mind m_then m_text m_rules m_sizes m_read m_names m_letters m_begins m_words m_drifts m_above m_bodies m_trace m_sorts m_lengths m_items m_moved mnow mmind mthen mkept mtext mtexted mrules msizes mruled mread msize mat mwell mwithin msum mbear mnames mletters mbegins mwords mdrifts mabove mbodies mtrace mran (upd msorts (x1.toNatClampNeg) x2) mlengths mitems mmoved]) H := hP
            have hD : va_D A (fl [wdX8 kc m_o m_now m_mind m_then m_text m_rules m_sizes m_read m_names m_letters m_begins m_words m_drifts m_above m_bodies m_trace m_sorts m_lengths m_items m_moved mnow mmind mthen mkept mtext mtexted mrules msizes mruled mread msize mat mwell mwithin msum mbear mnames mletters mbegins mwords mdrifts mabove mbodies mtrace mran (upd msorts (x1.toNatClampNeg) x2) mlengths mitems mmoved]) := hD
            refine lv_aload_n hx hb dX8_tape_49 rfl (lv_at hl 0 rfl) ?_
            refine va_get (D := (dC, dI)) (ci := 8) (v := .ref m_lengths) (C := RX8) (T := TX8) (N := 29) hx hb hts hinX8_tape_X8 hown hK hP 0 rfl rfl 26 (by decide) (hts _ (List.mem_of_getElem? (i := 2) rfl)) (fun _ h9 => h9) rfl dX8_tape_50 ?_
            refine lv_iload_n hx hb dX8_tape_53 rfl (lv_at hl 1 rfl) ?_
            refine lv_iload_n hx hb dX8_tape_54 rfl (lv_at hl 2 rfl) ?_
            refine lv_if_ge (tgt := 62) hx hb dX8_tape_55 (by decide) (fun c55 => ?_) (fun c55 => ?_)
            · replace hm := it_t c55 hm
              refine lv_iload_n hx hb dX8_tape_62 rfl (lv_at hl 3 rfl) ?_
              obtain ⟨hg63, hm⟩ := gd_e hm
              refine k_iast (D := (dC, dI)) hx hb hK hP hD hS 17 1 rfl rfl (k := x1.toNatClampNeg) rfl hg63 dX8_tape_63 (fun H locs hP hD hS => ?_)
              have hP : va_P (dC, dI) vwCl (fl [wdX8 kc m_o m_now m_mind m_then m_text m_rules m_sizes m_read m_names m_letters m_begins m_words m_drifts m_above m_bodies m_trace m_sorts m_lengths m_items m_moved mnow mmind mthen mkept mtext mtexted mrules msizes mruled mread msize mat mwell mwithin msum mbear mnames mletters mbegins mwords mdrifts mabove mbodies mtrace mran (upd msorts (x1.toNatClampNeg) x2) (upd mlengths (x1.toNatClampNeg) x3) mitems mmoved]) H := hP
              have hD : va_D A (fl [wdX8 kc m_o m_now m_mind m_then m_text m_rules m_sizes m_read m_names m_letters m_begins m_words m_drifts m_above m_bodies m_trace m_sorts m_lengths m_items m_moved mnow mmind mthen mkept mtext mtexted mrules msizes mruled mread msize mat mwell mwithin msum mbear mnames mletters mbegins mwords mdrifts mabove mbodies mtrace mran (upd msorts (x1.toNatClampNeg) x2) (upd mlengths (x1.toNatClampNeg) x3) mitems mmoved]) := hD
              refine lv_iconst (v := 0) hx hb dX8_tape_64 (by decide) ?_
              refine lv_istore (lv' := [(4, .int 0), (0, .ref m_o), (1, .int x1), (2, .int x2), (3, .int x3)]) hx hb dX8_tape_65 hl (by decide) rfl (fun ls hl => ?_)
              have hL67 : ∀ (fn : Nat) (l4_67 : Int32) (mitems_67 : Nat → Int64), LX8_tape_67 msorts mlengths x1 x2 x3 fn l4_67 mitems_67 = some (r, msorts', mlengths', mitems') → ∀ (H : Heap) (locs : List Loc), va_P (dC, dI) vwCl (fl [wdX8 kc m_o m_now m_mind m_then m_text m_rules m_sizes m_read m_names m_letters m_begins m_words m_drifts m_above m_bodies m_trace m_sorts m_lengths m_items m_moved mnow mmind mthen mkept mtext mtexted mrules msizes mruled mread msize mat mwell mwithin msum mbear mnames mletters mbegins mwords mdrifts mabove mbodies mtrace mran (upd msorts (x1.toNatClampNeg) x2) (upd mlengths (x1.toNatClampNeg) x3) mitems_67 mmoved]) H → va_D A (fl [wdX8 kc m_o m_now m_mind m_then m_text m_rules m_sizes m_read m_names m_letters m_begins m_words m_drifts m_above m_bodies m_trace m_sorts m_lengths m_items m_moved mnow mmind mthen mkept mtext mtexted mrules msizes mruled mread msize mat mwell mwithin msum mbear mnames mletters mbegins mwords mdrifts mabove mbodies mtrace mran (upd msorts (x1.toNatClampNeg) x2) (upd mlengths (x1.toNatClampNeg) x3) mitems_67 mmoved]) → va_S A s.heap H locs → ∀ ls : Array Slot, lv_has ls 5 [(0, .ref m_o), (1, .int x1), (4, .int l4_67)] → W p l e (headSpec wsX8_tape rmX8_tape).room s m [.ref m_o, .int x1, .int x2, .int x3].toArray below meth c H locs 0 0 (MQ below (kQi dC dI r (fl [wdX8 kc m_o m_now m_mind m_then m_text m_rules m_sizes m_read m_names m_letters m_begins m_words m_drifts m_above m_bodies m_trace m_sorts m_lengths m_items m_moved mnow mmind mthen mkept mtext mtexted mrules msizes mruled mread msize mat mwell mwithin msum mbear mnames mletters mbegins mwords mdrifts mabove mbodies mtrace mran msorts' mlengths' mitems' mmoved]) A) [.ref m_o, .int x1, .int x2, .int x3].toArray s 0 0 A) (F0 m 67 ls []) := by
                clear hm hP hD hS hl
                intro n67
                induction n67 with
                | zero => intro l4_67 mitems_67 hm; rw [LX8_tape_67] at hm; cases hm
                | succ n67 ih67 =>
                  intro l4_67 mitems_67 hm H locs hP hD hS ls hl
                  rw [LX8_tape_67] at hm
                  refine lv_iload hx hb dX8_tape_67 (lv_at hl 2 rfl) ?_
                  refine lv_bipush (v := 60) hx hb dX8_tape_69 (by decide) ?_
                  refine lv_icmp_ge (tgt := 93) hx hb dX8_tape_71 (by decide) (fun c71 => ?_) (fun c71 => ?_)
                  · replace hm := it_t c71 hm
                    refine lv_iconst (v := 1) hx hb dX8_tape_93 (by decide) ?_
                    cases hm
                    exact k_iret hx hb hr hlocks hP hS dX8_tape_94
                  · replace hm := it_f c71 hm
                    refine lv_aload_n hx hb dX8_tape_74 rfl (lv_at hl 0 rfl) ?_
                    refine va_get (D := (dC, dI)) (ci := 8) (v := .ref m_items) (C := RX8) (T := TX8) (N := 29) hx hb hts hinX8_tape_X8 hown hK hP 0 rfl rfl 27 (by decide) (hts _ (List.mem_of_getElem? (i := 3) rfl)) (fun _ h9 => h9) rfl dX8_tape_75 ?_
                    refine lv_bipush (v := 60) hx hb dX8_tape_78 (by decide) ?_
                    refine lv_iload_n hx hb dX8_tape_80 rfl (lv_at hl 1 rfl) ?_
                    refine lv_imul hx hb dX8_tape_81 ?_
                    refine lv_iload hx hb dX8_tape_82 (lv_at hl 2 rfl) ?_
                    refine lv_iadd hx hb dX8_tape_84 ?_
                    refine lv_lconst (v := 0) hx hb dX8_tape_85 (by decide) ?_
                    obtain ⟨hg86, hm⟩ := gd_e hm
                    refine k_last (D := (dC, dI)) hx hb hK hP hD hS 18 2 rfl rfl (k := ((60 * x1) + l4_67).toNatClampNeg) rfl hg86 dX8_tape_86 (fun H locs hP hD hS => ?_)
                    have hP : va_P (dC, dI) vwCl (fl [wdX8 kc m_o m_now m_mind m_then m_text m_rules m_sizes m_read m_names m_letters m_begins m_words m_drifts m_above m_bodies m_trace m_sorts m_lengths m_items m_moved mnow mmind mthen mkept mtext mtexted mrules msizes mruled mread msize mat mwell mwithin msum mbear mnames mletters mbegins mwords mdrifts mabove mbodies mtrace mran (upd msorts (x1.toNatClampNeg) x2) (upd mlengths (x1.toNatClampNeg) x3) (vp_updL mitems_67 (((60 * x1) + l4_67).toNatClampNeg) 0) mmoved]) H := hP
                    have hD : va_D A (fl [wdX8 kc m_o m_now m_mind m_then m_text m_rules m_sizes m_read m_names m_letters m_begins m_words m_drifts m_above m_bodies m_trace m_sorts m_lengths m_items m_moved mnow mmind mthen mkept mtext mtexted mrules msizes mruled mread msize mat mwell mwithin msum mbear mnames mletters mbegins mwords mdrifts mabove mbodies mtrace mran (upd msorts (x1.toNatClampNeg) x2) (upd mlengths (x1.toNatClampNeg) x3) (vp_updL mitems_67 (((60 * x1) + l4_67).toNatClampNeg) 0) mmoved]) := hD
                    refine lv_iinc (v := l4_67 + 1) (lv' := [(4, .int (l4_67 + 1)), (0, .ref m_o), (1, .int x1)]) hx hb dX8_tape_87 hl (k := 2) rfl rfl (by decide) rfl (fun ls hl => ?_)
                    refine lv_goto (tgt := 67) hx hb dX8_tape_90 (by decide) ?_
                    exact ih67 (l4_67 + 1) (vp_updL mitems_67 (((60 * x1) + l4_67).toNatClampNeg) 0) hm _ _ hP hD hS _ (lv_sub hl [1, 2, 0] rfl)
              exact hL67 _ _ _ hm _ _ hP hD hS _ (lv_sub hl [1, 2, 0] rfl)
            · replace hm := it_f c55 hm
              refine lv_iconst (v := 0) hx hb dX8_tape_58 (by decide) ?_
              refine lv_goto (tgt := 63) hx hb dX8_tape_59 (by decide) ?_
              obtain ⟨hg63, hm⟩ := gd_e hm
              refine k_iast (D := (dC, dI)) hx hb hK hP hD hS 17 1 rfl rfl (k := x1.toNatClampNeg) rfl hg63 dX8_tape_63 (fun H locs hP hD hS => ?_)
              have hP : va_P (dC, dI) vwCl (fl [wdX8 kc m_o m_now m_mind m_then m_text m_rules m_sizes m_read m_names m_letters m_begins m_words m_drifts m_above m_bodies m_trace m_sorts m_lengths m_items m_moved mnow mmind mthen mkept mtext mtexted mrules msizes mruled mread msize mat mwell mwithin msum mbear mnames mletters mbegins mwords mdrifts mabove mbodies mtrace mran (upd msorts (x1.toNatClampNeg) x2) (upd mlengths (x1.toNatClampNeg) 0) mitems mmoved]) H := hP
              have hD : va_D A (fl [wdX8 kc m_o m_now m_mind m_then m_text m_rules m_sizes m_read m_names m_letters m_begins m_words m_drifts m_above m_bodies m_trace m_sorts m_lengths m_items m_moved mnow mmind mthen mkept mtext mtexted mrules msizes mruled mread msize mat mwell mwithin msum mbear mnames mletters mbegins mwords mdrifts mabove mbodies mtrace mran (upd msorts (x1.toNatClampNeg) x2) (upd mlengths (x1.toNatClampNeg) 0) mitems mmoved]) := hD
              refine lv_iconst (v := 0) hx hb dX8_tape_64 (by decide) ?_
              refine lv_istore (lv' := [(4, .int 0), (0, .ref m_o), (1, .int x1), (2, .int x2), (3, .int x3)]) hx hb dX8_tape_65 hl (by decide) rfl (fun ls hl => ?_)
              have hL67 : ∀ (fn : Nat) (l4_67 : Int32) (mitems_67 : Nat → Int64), LX8_tape_67_1 msorts mlengths x1 x2 fn l4_67 mitems_67 = some (r, msorts', mlengths', mitems') → ∀ (H : Heap) (locs : List Loc), va_P (dC, dI) vwCl (fl [wdX8 kc m_o m_now m_mind m_then m_text m_rules m_sizes m_read m_names m_letters m_begins m_words m_drifts m_above m_bodies m_trace m_sorts m_lengths m_items m_moved mnow mmind mthen mkept mtext mtexted mrules msizes mruled mread msize mat mwell mwithin msum mbear mnames mletters mbegins mwords mdrifts mabove mbodies mtrace mran (upd msorts (x1.toNatClampNeg) x2) (upd mlengths (x1.toNatClampNeg) 0) mitems_67 mmoved]) H → va_D A (fl [wdX8 kc m_o m_now m_mind m_then m_text m_rules m_sizes m_read m_names m_letters m_begins m_words m_drifts m_above m_bodies m_trace m_sorts m_lengths m_items m_moved mnow mmind mthen mkept mtext mtexted mrules msizes mruled mread msize mat mwell mwithin msum mbear mnames mletters mbegins mwords mdrifts mabove mbodies mtrace mran (upd msorts (x1.toNatClampNeg) x2) (upd mlengths (x1.toNatClampNeg) 0) mitems_67 mmoved]) → va_S A s.heap H locs → ∀ ls : Array Slot, lv_has ls 5 [(0, .ref m_o), (1, .int x1), (4, .int l4_67)] → W p l e (headSpec wsX8_tape rmX8_tape).room s m [.ref m_o, .int x1, .int x2, .int x3].toArray below meth c H locs 0 0 (MQ below (kQi dC dI r (fl [wdX8 kc m_o m_now m_mind m_then m_text m_rules m_sizes m_read m_names m_letters m_begins m_words m_drifts m_above m_bodies m_trace m_sorts m_lengths m_items m_moved mnow mmind mthen mkept mtext mtexted mrules msizes mruled mread msize mat mwell mwithin msum mbear mnames mletters mbegins mwords mdrifts mabove mbodies mtrace mran msorts' mlengths' mitems' mmoved]) A) [.ref m_o, .int x1, .int x2, .int x3].toArray s 0 0 A) (F0 m 67 ls []) := by
                clear hm hP hD hS hl
                intro n67
                induction n67 with
                | zero => intro l4_67 mitems_67 hm; rw [LX8_tape_67_1] at hm; cases hm
                | succ n67 ih67 =>
                  intro l4_67 mitems_67 hm H locs hP hD hS ls hl
                  rw [LX8_tape_67_1] at hm
                  refine lv_iload hx hb dX8_tape_67 (lv_at hl 2 rfl) ?_
                  refine lv_bipush (v := 60) hx hb dX8_tape_69 (by decide) ?_
                  refine lv_icmp_ge (tgt := 93) hx hb dX8_tape_71 (by decide) (fun c71 => ?_) (fun c71 => ?_)
                  · replace hm := it_t c71 hm
                    refine lv_iconst (v := 1) hx hb dX8_tape_93 (by decide) ?_
                    cases hm
                    exact k_iret hx hb hr hlocks hP hS dX8_tape_94
                  · replace hm := it_f c71 hm
                    refine lv_aload_n hx hb dX8_tape_74 rfl (lv_at hl 0 rfl) ?_
                    refine va_get (D := (dC, dI)) (ci := 8) (v := .ref m_items) (C := RX8) (T := TX8) (N := 29) hx hb hts hinX8_tape_X8 hown hK hP 0 rfl rfl 27 (by decide) (hts _ (List.mem_of_getElem? (i := 3) rfl)) (fun _ h9 => h9) rfl dX8_tape_75 ?_
                    refine lv_bipush (v := 60) hx hb dX8_tape_78 (by decide) ?_
                    refine lv_iload_n hx hb dX8_tape_80 rfl (lv_at hl 1 rfl) ?_
                    refine lv_imul hx hb dX8_tape_81 ?_
                    refine lv_iload hx hb dX8_tape_82 (lv_at hl 2 rfl) ?_
                    refine lv_iadd hx hb dX8_tape_84 ?_
                    refine lv_lconst (v := 0) hx hb dX8_tape_85 (by decide) ?_
                    obtain ⟨hg86, hm⟩ := gd_e hm
                    refine k_last (D := (dC, dI)) hx hb hK hP hD hS 18 2 rfl rfl (k := ((60 * x1) + l4_67).toNatClampNeg) rfl hg86 dX8_tape_86 (fun H locs hP hD hS => ?_)
                    have hP : va_P (dC, dI) vwCl (fl [wdX8 kc m_o m_now m_mind m_then m_text m_rules m_sizes m_read m_names m_letters m_begins m_words m_drifts m_above m_bodies m_trace m_sorts m_lengths m_items m_moved mnow mmind mthen mkept mtext mtexted mrules msizes mruled mread msize mat mwell mwithin msum mbear mnames mletters mbegins mwords mdrifts mabove mbodies mtrace mran (upd msorts (x1.toNatClampNeg) x2) (upd mlengths (x1.toNatClampNeg) 0) (vp_updL mitems_67 (((60 * x1) + l4_67).toNatClampNeg) 0) mmoved]) H := hP
                    have hD : va_D A (fl [wdX8 kc m_o m_now m_mind m_then m_text m_rules m_sizes m_read m_names m_letters m_begins m_words m_drifts m_above m_bodies m_trace m_sorts m_lengths m_items m_moved mnow mmind mthen mkept mtext mtexted mrules msizes mruled mread msize mat mwell mwithin msum mbear mnames mletters mbegins mwords mdrifts mabove mbodies mtrace mran (upd msorts (x1.toNatClampNeg) x2) (upd mlengths (x1.toNatClampNeg) 0) (vp_updL mitems_67 (((60 * x1) + l4_67).toNatClampNeg) 0) mmoved]) := hD
                    refine lv_iinc (v := l4_67 + 1) (lv' := [(4, .int (l4_67 + 1)), (0, .ref m_o), (1, .int x1)]) hx hb dX8_tape_87 hl (k := 2) rfl rfl (by decide) rfl (fun ls hl => ?_)
                    refine lv_goto (tgt := 67) hx hb dX8_tape_90 (by decide) ?_
                    exact ih67 (l4_67 + 1) (vp_updL mitems_67 (((60 * x1) + l4_67).toNatClampNeg) 0) hm _ _ hP hD hS _ (lv_sub hl [1, 2, 0] rfl)
              exact hL67 _ _ _ hm _ _ hP hD hS _ (lv_sub hl [1, 2, 0] rfl)
          · replace hm := it_f c36 hm
            refine lv_bipush (v := (-14)) hx hb dX8_tape_39 (by decide) ?_
            cases hm
            exact k_iret hx hb hr hlocks hP hS dX8_tape_41
      · replace hm := it_f c19 hm
        refine lv_iload_n hx hb dX8_tape_22 rfl (lv_at hl 3 rfl) ?_
        refine lv_bipush (v := 60) hx hb dX8_tape_23 (by decide) ?_
        refine lv_icmp_le (tgt := 31) hx hb dX8_tape_25 (by decide) (fun c25 => ?_) (fun c25 => ?_)
        · replace hm := it_t c25 hm
          refine lv_iload_n hx hb dX8_tape_31 rfl (lv_at hl 2 rfl) ?_
          refine lv_if_lt (tgt := 42) hx hb dX8_tape_32 (by decide) (fun c32 => ?_) (fun c32 => ?_)
          · replace hm := it_t c32 hm
            refine lv_aload_n hx hb dX8_tape_42 rfl (lv_at hl 0 rfl) ?_
            refine va_get (D := (dC, dI)) (ci := 8) (v := .ref m_sorts) (C := RX8) (T := TX8) (N := 29) hx hb hts hinX8_tape_X8 hown hK hP 0 rfl rfl 25 (by decide) (hts _ (List.mem_of_getElem? (i := 1) rfl)) (fun _ h9 => h9) rfl dX8_tape_43 ?_
            refine lv_iload_n hx hb dX8_tape_46 rfl (lv_at hl 1 rfl) ?_
            refine lv_iload_n hx hb dX8_tape_47 rfl (lv_at hl 2 rfl) ?_
            obtain ⟨hg48, hm⟩ := gd_e hm
            refine k_iast (D := (dC, dI)) hx hb hK hP hD hS 16 1 rfl rfl (k := x1.toNatClampNeg) rfl hg48 dX8_tape_48 (fun H locs hP hD hS => ?_)
            have hP : va_P (dC, dI) vwCl (fl [wdX8 kc m_o m_now m_mind m_then m_text m_rules m_sizes m_read m_names m_letters m_begins m_words m_drifts m_above m_bodies m_trace m_sorts m_lengths m_items m_moved mnow mmind mthen mkept mtext mtexted mrules msizes mruled mread msize mat mwell mwithin msum mbear mnames mletters mbegins mwords mdrifts mabove mbodies mtrace mran (upd msorts (x1.toNatClampNeg) x2) mlengths mitems mmoved]) H := hP
            have hD : va_D A (fl [wdX8 kc m_o m_now m_mind m_then m_text m_rules m_sizes m_read m_names m_letters m_begins m_words m_drifts m_above m_bodies m_trace m_sorts m_lengths m_items m_moved mnow mmind mthen mkept mtext mtexted mrules msizes mruled mread msize mat mwell mwithin msum mbear mnames mletters mbegins mwords mdrifts mabove mbodies mtrace mran (upd msorts (x1.toNatClampNeg) x2) mlengths mitems mmoved]) := hD
            refine lv_aload_n hx hb dX8_tape_49 rfl (lv_at hl 0 rfl) ?_
            refine va_get (D := (dC, dI)) (ci := 8) (v := .ref m_lengths) (C := RX8) (T := TX8) (N := 29) hx hb hts hinX8_tape_X8 hown hK hP 0 rfl rfl 26 (by decide) (hts _ (List.mem_of_getElem? (i := 2) rfl)) (fun _ h9 => h9) rfl dX8_tape_50 ?_
            refine lv_iload_n hx hb dX8_tape_53 rfl (lv_at hl 1 rfl) ?_
            refine lv_iload_n hx hb dX8_tape_54 rfl (lv_at hl 2 rfl) ?_
            refine lv_if_ge (tgt := 62) hx hb dX8_tape_55 (by decide) (fun c55 => ?_) (fun c55 => ?_)
            · replace hm := it_t c55 hm
              refine lv_iload_n hx hb dX8_tape_62 rfl (lv_at hl 3 rfl) ?_
              obtain ⟨hg63, hm⟩ := gd_e hm
              refine k_iast (D := (dC, dI)) hx hb hK hP hD hS 17 1 rfl rfl (k := x1.toNatClampNeg) rfl hg63 dX8_tape_63 (fun H locs hP hD hS => ?_)
              have hP : va_P (dC, dI) vwCl (fl [wdX8 kc m_o m_now m_mind m_then m_text m_rules m_sizes m_read m_names m_letters m_begins m_words m_drifts m_above m_bodies m_trace m_sorts m_lengths m_items m_moved mnow mmind mthen mkept mtext mtexted mrules msizes mruled mread msize mat mwell mwithin msum mbear mnames mletters mbegins mwords mdrifts mabove mbodies mtrace mran (upd msorts (x1.toNatClampNeg) x2) (upd mlengths (x1.toNatClampNeg) x3) mitems mmoved]) H := hP
              have hD : va_D A (fl [wdX8 kc m_o m_now m_mind m_then m_text m_rules m_sizes m_read m_names m_letters m_begins m_words m_drifts m_above m_bodies m_trace m_sorts m_lengths m_items m_moved mnow mmind mthen mkept mtext mtexted mrules msizes mruled mread msize mat mwell mwithin msum mbear mnames mletters mbegins mwords mdrifts mabove mbodies mtrace mran (upd msorts (x1.toNatClampNeg) x2) (upd mlengths (x1.toNatClampNeg) x3) mitems mmoved]) := hD
              refine lv_iconst (v := 0) hx hb dX8_tape_64 (by decide) ?_
              refine lv_istore (lv' := [(4, .int 0), (0, .ref m_o), (1, .int x1), (2, .int x2), (3, .int x3)]) hx hb dX8_tape_65 hl (by decide) rfl (fun ls hl => ?_)
              have hL67 : ∀ (fn : Nat) (l4_67 : Int32) (mitems_67 : Nat → Int64), LX8_tape_67 msorts mlengths x1 x2 x3 fn l4_67 mitems_67 = some (r, msorts', mlengths', mitems') → ∀ (H : Heap) (locs : List Loc), va_P (dC, dI) vwCl (fl [wdX8 kc m_o m_now m_mind m_then m_text m_rules m_sizes m_read m_names m_letters m_begins m_words m_drifts m_above m_bodies m_trace m_sorts m_lengths m_items m_moved mnow mmind mthen mkept mtext mtexted mrules msizes mruled mread msize mat mwell mwithin msum mbear mnames mletters mbegins mwords mdrifts mabove mbodies mtrace mran (upd msorts (x1.toNatClampNeg) x2) (upd mlengths (x1.toNatClampNeg) x3) mitems_67 mmoved]) H → va_D A (fl [wdX8 kc m_o m_now m_mind m_then m_text m_rules m_sizes m_read m_names m_letters m_begins m_words m_drifts m_above m_bodies m_trace m_sorts m_lengths m_items m_moved mnow mmind mthen mkept mtext mtexted mrules msizes mruled mread msize mat mwell mwithin msum mbear mnames mletters mbegins mwords mdrifts mabove mbodies mtrace mran (upd msorts (x1.toNatClampNeg) x2) (upd mlengths (x1.toNatClampNeg) x3) mitems_67 mmoved]) → va_S A s.heap H locs → ∀ ls : Array Slot, lv_has ls 5 [(0, .ref m_o), (1, .int x1), (4, .int l4_67)] → W p l e (headSpec wsX8_tape rmX8_tape).room s m [.ref m_o, .int x1, .int x2, .int x3].toArray below meth c H locs 0 0 (MQ below (kQi dC dI r (fl [wdX8 kc m_o m_now m_mind m_then m_text m_rules m_sizes m_read m_names m_letters m_begins m_words m_drifts m_above m_bodies m_trace m_sorts m_lengths m_items m_moved mnow mmind mthen mkept mtext mtexted mrules msizes mruled mread msize mat mwell mwithin msum mbear mnames mletters mbegins mwords mdrifts mabove mbodies mtrace mran msorts' mlengths' mitems' mmoved]) A) [.ref m_o, .int x1, .int x2, .int x3].toArray s 0 0 A) (F0 m 67 ls []) := by
                clear hm hP hD hS hl
                intro n67
                induction n67 with
                | zero => intro l4_67 mitems_67 hm; rw [LX8_tape_67] at hm; cases hm
                | succ n67 ih67 =>
                  intro l4_67 mitems_67 hm H locs hP hD hS ls hl
                  rw [LX8_tape_67] at hm
                  refine lv_iload hx hb dX8_tape_67 (lv_at hl 2 rfl) ?_
                  refine lv_bipush (v := 60) hx hb dX8_tape_69 (by decide) ?_
                  refine lv_icmp_ge (tgt := 93) hx hb dX8_tape_71 (by decide) (fun c71 => ?_) (fun c71 => ?_)
                  · replace hm := it_t c71 hm
                    refine lv_iconst (v := 1) hx hb dX8_tape_93 (by decide) ?_
                    cases hm
                    exact k_iret hx hb hr hlocks hP hS dX8_tape_94
                  · replace hm := it_f c71 hm
                    refine lv_aload_n hx hb dX8_tape_74 rfl (lv_at hl 0 rfl) ?_
                    refine va_get (D := (dC, dI)) (ci := 8) (v := .ref m_items) (C := RX8) (T := TX8) (N := 29) hx hb hts hinX8_tape_X8 hown hK hP 0 rfl rfl 27 (by decide) (hts _ (List.mem_of_getElem? (i := 3) rfl)) (fun _ h9 => h9) rfl dX8_tape_75 ?_
                    refine lv_bipush (v := 60) hx hb dX8_tape_78 (by decide) ?_
                    refine lv_iload_n hx hb dX8_tape_80 rfl (lv_at hl 1 rfl) ?_
                    refine lv_imul hx hb dX8_tape_81 ?_
                    refine lv_iload hx hb dX8_tape_82 (lv_at hl 2 rfl) ?_
                    refine lv_iadd hx hb dX8_tape_84 ?_
                    refine lv_lconst (v := 0) hx hb dX8_tape_85 (by decide) ?_
                    obtain ⟨hg86, hm⟩ := gd_e hm
                    refine k_last (D := (dC, dI)) hx hb hK hP hD hS 18 2 rfl rfl (k := ((60 * x1) + l4_67).toNatClampNeg) rfl hg86 dX8_tape_86 (fun H locs hP hD hS => ?_)
                    have hP : va_P (dC, dI) vwCl (fl [wdX8 kc m_o m_now m_mind m_then m_text m_rules m_sizes m_read m_names m_letters m_begins m_words m_drifts m_above m_bodies m_trace m_sorts m_lengths m_items m_moved mnow mmind mthen mkept mtext mtexted mrules msizes mruled mread msize mat mwell mwithin msum mbear mnames mletters mbegins mwords mdrifts mabove mbodies mtrace mran (upd msorts (x1.toNatClampNeg) x2) (upd mlengths (x1.toNatClampNeg) x3) (vp_updL mitems_67 (((60 * x1) + l4_67).toNatClampNeg) 0) mmoved]) H := hP
                    have hD : va_D A (fl [wdX8 kc m_o m_now m_mind m_then m_text m_rules m_sizes m_read m_names m_letters m_begins m_words m_drifts m_above m_bodies m_trace m_sorts m_lengths m_items m_moved mnow mmind mthen mkept mtext mtexted mrules msizes mruled mread msize mat mwell mwithin msum mbear mnames mletters mbegins mwords mdrifts mabove mbodies mtrace mran (upd msorts (x1.toNatClampNeg) x2) (upd mlengths (x1.toNatClampNeg) x3) (vp_updL mitems_67 (((60 * x1) + l4_67).toNatClampNeg) 0) mmoved]) := hD
                    refine lv_iinc (v := l4_67 + 1) (lv' := [(4, .int (l4_67 + 1)), (0, .ref m_o), (1, .int x1)]) hx hb dX8_tape_87 hl (k := 2) rfl rfl (by decide) rfl (fun ls hl => ?_)
                    refine lv_goto (tgt := 67) hx hb dX8_tape_90 (by decide) ?_
                    exact ih67 (l4_67 + 1) (vp_updL mitems_67 (((60 * x1) + l4_67).toNatClampNeg) 0) hm _ _ hP hD hS _ (lv_sub hl [1, 2, 0] rfl)
              exact hL67 _ _ _ hm _ _ hP hD hS _ (lv_sub hl [1, 2, 0] rfl)
            · replace hm := it_f c55 hm
              refine lv_iconst (v := 0) hx hb dX8_tape_58 (by decide) ?_
              refine lv_goto (tgt := 63) hx hb dX8_tape_59 (by decide) ?_
              obtain ⟨hg63, hm⟩ := gd_e hm
              refine k_iast (D := (dC, dI)) hx hb hK hP hD hS 17 1 rfl rfl (k := x1.toNatClampNeg) rfl hg63 dX8_tape_63 (fun H locs hP hD hS => ?_)
              have hP : va_P (dC, dI) vwCl (fl [wdX8 kc m_o m_now m_mind m_then m_text m_rules m_sizes m_read m_names m_letters m_begins m_words m_drifts m_above m_bodies m_trace m_sorts m_lengths m_items m_moved mnow mmind mthen mkept mtext mtexted mrules msizes mruled mread msize mat mwell mwithin msum mbear mnames mletters mbegins mwords mdrifts mabove mbodies mtrace mran (upd msorts (x1.toNatClampNeg) x2) (upd mlengths (x1.toNatClampNeg) 0) mitems mmoved]) H := hP
              have hD : va_D A (fl [wdX8 kc m_o m_now m_mind m_then m_text m_rules m_sizes m_read m_names m_letters m_begins m_words m_drifts m_above m_bodies m_trace m_sorts m_lengths m_items m_moved mnow mmind mthen mkept mtext mtexted mrules msizes mruled mread msize mat mwell mwithin msum mbear mnames mletters mbegins mwords mdrifts mabove mbodies mtrace mran (upd msorts (x1.toNatClampNeg) x2) (upd mlengths (x1.toNatClampNeg) 0) mitems mmoved]) := hD
              refine lv_iconst (v := 0) hx hb dX8_tape_64 (by decide) ?_
              refine lv_istore (lv' := [(4, .int 0), (0, .ref m_o), (1, .int x1), (2, .int x2), (3, .int x3)]) hx hb dX8_tape_65 hl (by decide) rfl (fun ls hl => ?_)
              have hL67 : ∀ (fn : Nat) (l4_67 : Int32) (mitems_67 : Nat → Int64), LX8_tape_67_1 msorts mlengths x1 x2 fn l4_67 mitems_67 = some (r, msorts', mlengths', mitems') → ∀ (H : Heap) (locs : List Loc), va_P (dC, dI) vwCl (fl [wdX8 kc m_o m_now m_mind m_then m_text m_rules m_sizes m_read m_names m_letters m_begins m_words m_drifts m_above m_bodies m_trace m_sorts m_lengths m_items m_moved mnow mmind mthen mkept mtext mtexted mrules msizes mruled mread msize mat mwell mwithin msum mbear mnames mletters mbegins mwords mdrifts mabove mbodies mtrace mran (upd msorts (x1.toNatClampNeg) x2) (upd mlengths (x1.toNatClampNeg) 0) mitems_67 mmoved]) H → va_D A (fl [wdX8 kc m_o m_now m_mind m_then m_text m_rules m_sizes m_read m_names m_letters m_begins m_words m_drifts m_above m_bodies m_trace m_sorts m_lengths m_items m_moved mnow mmind mthen mkept mtext mtexted mrules msizes mruled mread msize mat mwell mwithin msum mbear mnames mletters mbegins mwords mdrifts mabove mbodies mtrace mran (upd msorts (x1.toNatClampNeg) x2) (upd mlengths (x1.toNatClampNeg) 0) mitems_67 mmoved]) → va_S A s.heap H locs → ∀ ls : Array Slot, lv_has ls 5 [(0, .ref m_o), (1, .int x1), (4, .int l4_67)] → W p l e (headSpec wsX8_tape rmX8_tape).room s m [.ref m_o, .int x1, .int x2, .int x3].toArray below meth c H locs 0 0 (MQ below (kQi dC dI r (fl [wdX8 kc m_o m_now m_mind m_then m_text m_rules m_sizes m_read m_names m_letters m_begins m_words m_drifts m_above m_bodies m_trace m_sorts m_lengths m_items m_moved mnow mmind mthen mkept mtext mtexted mrules msizes mruled mread msize mat mwell mwithin msum mbear mnames mletters mbegins mwords mdrifts mabove mbodies mtrace mran msorts' mlengths' mitems' mmoved]) A) [.ref m_o, .int x1, .int x2, .int x3].toArray s 0 0 A) (F0 m 67 ls []) := by
                clear hm hP hD hS hl
                intro n67
                induction n67 with
                | zero => intro l4_67 mitems_67 hm; rw [LX8_tape_67_1] at hm; cases hm
                | succ n67 ih67 =>
                  intro l4_67 mitems_67 hm H locs hP hD hS ls hl
                  rw [LX8_tape_67_1] at hm
                  refine lv_iload hx hb dX8_tape_67 (lv_at hl 2 rfl) ?_
                  refine lv_bipush (v := 60) hx hb dX8_tape_69 (by decide) ?_
                  refine lv_icmp_ge (tgt := 93) hx hb dX8_tape_71 (by decide) (fun c71 => ?_) (fun c71 => ?_)
                  · replace hm := it_t c71 hm
                    refine lv_iconst (v := 1) hx hb dX8_tape_93 (by decide) ?_
                    cases hm
                    exact k_iret hx hb hr hlocks hP hS dX8_tape_94
                  · replace hm := it_f c71 hm
                    refine lv_aload_n hx hb dX8_tape_74 rfl (lv_at hl 0 rfl) ?_
                    refine va_get (D := (dC, dI)) (ci := 8) (v := .ref m_items) (C := RX8) (T := TX8) (N := 29) hx hb hts hinX8_tape_X8 hown hK hP 0 rfl rfl 27 (by decide) (hts _ (List.mem_of_getElem? (i := 3) rfl)) (fun _ h9 => h9) rfl dX8_tape_75 ?_
                    refine lv_bipush (v := 60) hx hb dX8_tape_78 (by decide) ?_
                    refine lv_iload_n hx hb dX8_tape_80 rfl (lv_at hl 1 rfl) ?_
                    refine lv_imul hx hb dX8_tape_81 ?_
                    refine lv_iload hx hb dX8_tape_82 (lv_at hl 2 rfl) ?_
                    refine lv_iadd hx hb dX8_tape_84 ?_
                    refine lv_lconst (v := 0) hx hb dX8_tape_85 (by decide) ?_
                    obtain ⟨hg86, hm⟩ := gd_e hm
                    refine k_last (D := (dC, dI)) hx hb hK hP hD hS 18 2 rfl rfl (k := ((60 * x1) + l4_67).toNatClampNeg) rfl hg86 dX8_tape_86 (fun H locs hP hD hS => ?_)
                    have hP : va_P (dC, dI) vwCl (fl [wdX8 kc m_o m_now m_mind m_then m_text m_rules m_sizes m_read m_names m_letters m_begins m_words m_drifts m_above m_bodies m_trace m_sorts m_lengths m_items m_moved mnow mmind mthen mkept mtext mtexted mrules msizes mruled mread msize mat mwell mwithin msum mbear mnames mletters mbegins mwords mdrifts mabove mbodies mtrace mran (upd msorts (x1.toNatClampNeg) x2) (upd mlengths (x1.toNatClampNeg) 0) (vp_updL mitems_67 (((60 * x1) + l4_67).toNatClampNeg) 0) mmoved]) H := hP
                    have hD : va_D A (fl [wdX8 kc m_o m_now m_mind m_then m_text m_rules m_sizes m_read m_names m_letters m_begins m_words m_drifts m_above m_bodies m_trace m_sorts m_lengths m_items m_moved mnow mmind mthen mkept mtext mtexted mrules msizes mruled mread msize mat mwell mwithin msum mbear mnames mletters mbegins mwords mdrifts mabove mbodies mtrace mran (upd msorts (x1.toNatClampNeg) x2) (upd mlengths (x1.toNatClampNeg) 0) (vp_updL mitems_67 (((60 * x1) + l4_67).toNatClampNeg) 0) mmoved]) := hD
                    refine lv_iinc (v := l4_67 + 1) (lv' := [(4, .int (l4_67 + 1)), (0, .ref m_o), (1, .int x1)]) hx hb dX8_tape_87 hl (k := 2) rfl rfl (by decide) rfl (fun ls hl => ?_)
                    refine lv_goto (tgt := 67) hx hb dX8_tape_90 (by decide) ?_
                    exact ih67 (l4_67 + 1) (vp_updL mitems_67 (((60 * x1) + l4_67).toNatClampNeg) 0) hm _ _ hP hD hS _ (lv_sub hl [1, 2, 0] rfl)
              exact hL67 _ _ _ hm _ _ hP hD hS _ (lv_sub hl [1, 2, 0] rfl)
          · replace hm := it_f c32 hm
            refine lv_iload_n hx hb dX8_tape_35 rfl (lv_at hl 3 rfl) ?_
            refine lv_if_ge (tgt := 42) hx hb dX8_tape_36 (by decide) (fun c36 => ?_) (fun c36 => ?_)
            · replace hm := it_t c36 hm
              refine lv_aload_n hx hb dX8_tape_42 rfl (lv_at hl 0 rfl) ?_
              refine va_get (D := (dC, dI)) (ci := 8) (v := .ref m_sorts) (C := RX8) (T := TX8) (N := 29) hx hb hts hinX8_tape_X8 hown hK hP 0 rfl rfl 25 (by decide) (hts _ (List.mem_of_getElem? (i := 1) rfl)) (fun _ h9 => h9) rfl dX8_tape_43 ?_
              refine lv_iload_n hx hb dX8_tape_46 rfl (lv_at hl 1 rfl) ?_
              refine lv_iload_n hx hb dX8_tape_47 rfl (lv_at hl 2 rfl) ?_
              obtain ⟨hg48, hm⟩ := gd_e hm
              refine k_iast (D := (dC, dI)) hx hb hK hP hD hS 16 1 rfl rfl (k := x1.toNatClampNeg) rfl hg48 dX8_tape_48 (fun H locs hP hD hS => ?_)
              have hP : va_P (dC, dI) vwCl (fl [wdX8 kc m_o m_now m_mind m_then m_text m_rules m_sizes m_read m_names m_letters m_begins m_words m_drifts m_above m_bodies m_trace m_sorts m_lengths m_items m_moved mnow mmind mthen mkept mtext mtexted mrules msizes mruled mread msize mat mwell mwithin msum mbear mnames mletters mbegins mwords mdrifts mabove mbodies mtrace mran (upd msorts (x1.toNatClampNeg) x2) mlengths mitems mmoved]) H := hP
              have hD : va_D A (fl [wdX8 kc m_o m_now m_mind m_then m_text m_rules m_sizes m_read m_names m_letters m_begins m_words m_drifts m_above m_bodies m_trace m_sorts m_lengths m_items m_moved mnow mmind mthen mkept mtext mtexted mrules msizes mruled mread msize mat mwell mwithin msum mbear mnames mletters mbegins mwords mdrifts mabove mbodies mtrace mran (upd msorts (x1.toNatClampNeg) x2) mlengths mitems mmoved]) := hD
              refine lv_aload_n hx hb dX8_tape_49 rfl (lv_at hl 0 rfl) ?_
              refine va_get (D := (dC, dI)) (ci := 8) (v := .ref m_lengths) (C := RX8) (T := TX8) (N := 29) hx hb hts hinX8_tape_X8 hown hK hP 0 rfl rfl 26 (by decide) (hts _ (List.mem_of_getElem? (i := 2) rfl)) (fun _ h9 => h9) rfl dX8_tape_50 ?_
              refine lv_iload_n hx hb dX8_tape_53 rfl (lv_at hl 1 rfl) ?_
              refine lv_iload_n hx hb dX8_tape_54 rfl (lv_at hl 2 rfl) ?_
              refine lv_if_ge (tgt := 62) hx hb dX8_tape_55 (by decide) (fun c55 => ?_) (fun c55 => ?_)
              · replace hm := it_t c55 hm
                refine lv_iload_n hx hb dX8_tape_62 rfl (lv_at hl 3 rfl) ?_
                obtain ⟨hg63, hm⟩ := gd_e hm
                refine k_iast (D := (dC, dI)) hx hb hK hP hD hS 17 1 rfl rfl (k := x1.toNatClampNeg) rfl hg63 dX8_tape_63 (fun H locs hP hD hS => ?_)
                have hP : va_P (dC, dI) vwCl (fl [wdX8 kc m_o m_now m_mind m_then m_text m_rules m_sizes m_read m_names m_letters m_begins m_words m_drifts m_above m_bodies m_trace m_sorts m_lengths m_items m_moved mnow mmind mthen mkept mtext mtexted mrules msizes mruled mread msize mat mwell mwithin msum mbear mnames mletters mbegins mwords mdrifts mabove mbodies mtrace mran (upd msorts (x1.toNatClampNeg) x2) (upd mlengths (x1.toNatClampNeg) x3) mitems mmoved]) H := hP
                have hD : va_D A (fl [wdX8 kc m_o m_now m_mind m_then m_text m_rules m_sizes m_read m_names m_letters m_begins m_words m_drifts m_above m_bodies m_trace m_sorts m_lengths m_items m_moved mnow mmind mthen mkept mtext mtexted mrules msizes mruled mread msize mat mwell mwithin msum mbear mnames mletters mbegins mwords mdrifts mabove mbodies mtrace mran (upd msorts (x1.toNatClampNeg) x2) (upd mlengths (x1.toNatClampNeg) x3) mitems mmoved]) := hD
                refine lv_iconst (v := 0) hx hb dX8_tape_64 (by decide) ?_
                refine lv_istore (lv' := [(4, .int 0), (0, .ref m_o), (1, .int x1), (2, .int x2), (3, .int x3)]) hx hb dX8_tape_65 hl (by decide) rfl (fun ls hl => ?_)
                have hL67 : ∀ (fn : Nat) (l4_67 : Int32) (mitems_67 : Nat → Int64), LX8_tape_67 msorts mlengths x1 x2 x3 fn l4_67 mitems_67 = some (r, msorts', mlengths', mitems') → ∀ (H : Heap) (locs : List Loc), va_P (dC, dI) vwCl (fl [wdX8 kc m_o m_now m_mind m_then m_text m_rules m_sizes m_read m_names m_letters m_begins m_words m_drifts m_above m_bodies m_trace m_sorts m_lengths m_items m_moved mnow mmind mthen mkept mtext mtexted mrules msizes mruled mread msize mat mwell mwithin msum mbear mnames mletters mbegins mwords mdrifts mabove mbodies mtrace mran (upd msorts (x1.toNatClampNeg) x2) (upd mlengths (x1.toNatClampNeg) x3) mitems_67 mmoved]) H → va_D A (fl [wdX8 kc m_o m_now m_mind m_then m_text m_rules m_sizes m_read m_names m_letters m_begins m_words m_drifts m_above m_bodies m_trace m_sorts m_lengths m_items m_moved mnow mmind mthen mkept mtext mtexted mrules msizes mruled mread msize mat mwell mwithin msum mbear mnames mletters mbegins mwords mdrifts mabove mbodies mtrace mran (upd msorts (x1.toNatClampNeg) x2) (upd mlengths (x1.toNatClampNeg) x3) mitems_67 mmoved]) → va_S A s.heap H locs → ∀ ls : Array Slot, lv_has ls 5 [(0, .ref m_o), (1, .int x1), (4, .int l4_67)] → W p l e (headSpec wsX8_tape rmX8_tape).room s m [.ref m_o, .int x1, .int x2, .int x3].toArray below meth c H locs 0 0 (MQ below (kQi dC dI r (fl [wdX8 kc m_o m_now m_mind m_then m_text m_rules m_sizes m_read m_names m_letters m_begins m_words m_drifts m_above m_bodies m_trace m_sorts m_lengths m_items m_moved mnow mmind mthen mkept mtext mtexted mrules msizes mruled mread msize mat mwell mwithin msum mbear mnames mletters mbegins mwords mdrifts mabove mbodies mtrace mran msorts' mlengths' mitems' mmoved]) A) [.ref m_o, .int x1, .int x2, .int x3].toArray s 0 0 A) (F0 m 67 ls []) := by
                  clear hm hP hD hS hl
                  intro n67
                  induction n67 with
                  | zero => intro l4_67 mitems_67 hm; rw [LX8_tape_67] at hm; cases hm
                  | succ n67 ih67 =>
                    intro l4_67 mitems_67 hm H locs hP hD hS ls hl
                    rw [LX8_tape_67] at hm
                    refine lv_iload hx hb dX8_tape_67 (lv_at hl 2 rfl) ?_
                    refine lv_bipush (v := 60) hx hb dX8_tape_69 (by decide) ?_
                    refine lv_icmp_ge (tgt := 93) hx hb dX8_tape_71 (by decide) (fun c71 => ?_) (fun c71 => ?_)
                    · replace hm := it_t c71 hm
                      refine lv_iconst (v := 1) hx hb dX8_tape_93 (by decide) ?_
                      cases hm
                      exact k_iret hx hb hr hlocks hP hS dX8_tape_94
                    · replace hm := it_f c71 hm
                      refine lv_aload_n hx hb dX8_tape_74 rfl (lv_at hl 0 rfl) ?_
                      refine va_get (D := (dC, dI)) (ci := 8) (v := .ref m_items) (C := RX8) (T := TX8) (N := 29) hx hb hts hinX8_tape_X8 hown hK hP 0 rfl rfl 27 (by decide) (hts _ (List.mem_of_getElem? (i := 3) rfl)) (fun _ h9 => h9) rfl dX8_tape_75 ?_
                      refine lv_bipush (v := 60) hx hb dX8_tape_78 (by decide) ?_
                      refine lv_iload_n hx hb dX8_tape_80 rfl (lv_at hl 1 rfl) ?_
                      refine lv_imul hx hb dX8_tape_81 ?_
                      refine lv_iload hx hb dX8_tape_82 (lv_at hl 2 rfl) ?_
                      refine lv_iadd hx hb dX8_tape_84 ?_
                      refine lv_lconst (v := 0) hx hb dX8_tape_85 (by decide) ?_
                      obtain ⟨hg86, hm⟩ := gd_e hm
                      refine k_last (D := (dC, dI)) hx hb hK hP hD hS 18 2 rfl rfl (k := ((60 * x1) + l4_67).toNatClampNeg) rfl hg86 dX8_tape_86 (fun H locs hP hD hS => ?_)
                      have hP : va_P (dC, dI) vwCl (fl [wdX8 kc m_o m_now m_mind m_then m_text m_rules m_sizes m_read m_names m_letters m_begins m_words m_drifts m_above m_bodies m_trace m_sorts m_lengths m_items m_moved mnow mmind mthen mkept mtext mtexted mrules msizes mruled mread msize mat mwell mwithin msum mbear mnames mletters mbegins mwords mdrifts mabove mbodies mtrace mran (upd msorts (x1.toNatClampNeg) x2) (upd mlengths (x1.toNatClampNeg) x3) (vp_updL mitems_67 (((60 * x1) + l4_67).toNatClampNeg) 0) mmoved]) H := hP
                      have hD : va_D A (fl [wdX8 kc m_o m_now m_mind m_then m_text m_rules m_sizes m_read m_names m_letters m_begins m_words m_drifts m_above m_bodies m_trace m_sorts m_lengths m_items m_moved mnow mmind mthen mkept mtext mtexted mrules msizes mruled mread msize mat mwell mwithin msum mbear mnames mletters mbegins mwords mdrifts mabove mbodies mtrace mran (upd msorts (x1.toNatClampNeg) x2) (upd mlengths (x1.toNatClampNeg) x3) (vp_updL mitems_67 (((60 * x1) + l4_67).toNatClampNeg) 0) mmoved]) := hD
                      refine lv_iinc (v := l4_67 + 1) (lv' := [(4, .int (l4_67 + 1)), (0, .ref m_o), (1, .int x1)]) hx hb dX8_tape_87 hl (k := 2) rfl rfl (by decide) rfl (fun ls hl => ?_)
                      refine lv_goto (tgt := 67) hx hb dX8_tape_90 (by decide) ?_
                      exact ih67 (l4_67 + 1) (vp_updL mitems_67 (((60 * x1) + l4_67).toNatClampNeg) 0) hm _ _ hP hD hS _ (lv_sub hl [1, 2, 0] rfl)
                exact hL67 _ _ _ hm _ _ hP hD hS _ (lv_sub hl [1, 2, 0] rfl)
              · replace hm := it_f c55 hm
                refine lv_iconst (v := 0) hx hb dX8_tape_58 (by decide) ?_
                refine lv_goto (tgt := 63) hx hb dX8_tape_59 (by decide) ?_
                obtain ⟨hg63, hm⟩ := gd_e hm
                refine k_iast (D := (dC, dI)) hx hb hK hP hD hS 17 1 rfl rfl (k := x1.toNatClampNeg) rfl hg63 dX8_tape_63 (fun H locs hP hD hS => ?_)
                have hP : va_P (dC, dI) vwCl (fl [wdX8 kc m_o m_now m_mind m_then m_text m_rules m_sizes m_read m_names m_letters m_begins m_words m_drifts m_above m_bodies m_trace m_sorts m_lengths m_items m_moved mnow mmind mthen mkept mtext mtexted mrules msizes mruled mread msize mat mwell mwithin msum mbear mnames mletters mbegins mwords mdrifts mabove mbodies mtrace mran (upd msorts (x1.toNatClampNeg) x2) (upd mlengths (x1.toNatClampNeg) 0) mitems mmoved]) H := hP
                have hD : va_D A (fl [wdX8 kc m_o m_now m_mind m_then m_text m_rules m_sizes m_read m_names m_letters m_begins m_words m_drifts m_above m_bodies m_trace m_sorts m_lengths m_items m_moved mnow mmind mthen mkept mtext mtexted mrules msizes mruled mread msize mat mwell mwithin msum mbear mnames mletters mbegins mwords mdrifts mabove mbodies mtrace mran (upd msorts (x1.toNatClampNeg) x2) (upd mlengths (x1.toNatClampNeg) 0) mitems mmoved]) := hD
                refine lv_iconst (v := 0) hx hb dX8_tape_64 (by decide) ?_
                refine lv_istore (lv' := [(4, .int 0), (0, .ref m_o), (1, .int x1), (2, .int x2), (3, .int x3)]) hx hb dX8_tape_65 hl (by decide) rfl (fun ls hl => ?_)
                have hL67 : ∀ (fn : Nat) (l4_67 : Int32) (mitems_67 : Nat → Int64), LX8_tape_67_1 msorts mlengths x1 x2 fn l4_67 mitems_67 = some (r, msorts', mlengths', mitems') → ∀ (H : Heap) (locs : List Loc), va_P (dC, dI) vwCl (fl [wdX8 kc m_o m_now m_mind m_then m_text m_rules m_sizes m_read m_names m_letters m_begins m_words m_drifts m_above m_bodies m_trace m_sorts m_lengths m_items m_moved mnow mmind mthen mkept mtext mtexted mrules msizes mruled mread msize mat mwell mwithin msum mbear mnames mletters mbegins mwords mdrifts mabove mbodies mtrace mran (upd msorts (x1.toNatClampNeg) x2) (upd mlengths (x1.toNatClampNeg) 0) mitems_67 mmoved]) H → va_D A (fl [wdX8 kc m_o m_now m_mind m_then m_text m_rules m_sizes m_read m_names m_letters m_begins m_words m_drifts m_above m_bodies m_trace m_sorts m_lengths m_items m_moved mnow mmind mthen mkept mtext mtexted mrules msizes mruled mread msize mat mwell mwithin msum mbear mnames mletters mbegins mwords mdrifts mabove mbodies mtrace mran (upd msorts (x1.toNatClampNeg) x2) (upd mlengths (x1.toNatClampNeg) 0) mitems_67 mmoved]) → va_S A s.heap H locs → ∀ ls : Array Slot, lv_has ls 5 [(0, .ref m_o), (1, .int x1), (4, .int l4_67)] → W p l e (headSpec wsX8_tape rmX8_tape).room s m [.ref m_o, .int x1, .int x2, .int x3].toArray below meth c H locs 0 0 (MQ below (kQi dC dI r (fl [wdX8 kc m_o m_now m_mind m_then m_text m_rules m_sizes m_read m_names m_letters m_begins m_words m_drifts m_above m_bodies m_trace m_sorts m_lengths m_items m_moved mnow mmind mthen mkept mtext mtexted mrules msizes mruled mread msize mat mwell mwithin msum mbear mnames mletters mbegins mwords mdrifts mabove mbodies mtrace mran msorts' mlengths' mitems' mmoved]) A) [.ref m_o, .int x1, .int x2, .int x3].toArray s 0 0 A) (F0 m 67 ls []) := by
                  clear hm hP hD hS hl
                  intro n67
                  induction n67 with
                  | zero => intro l4_67 mitems_67 hm; rw [LX8_tape_67_1] at hm; cases hm
                  | succ n67 ih67 =>
                    intro l4_67 mitems_67 hm H locs hP hD hS ls hl
                    rw [LX8_tape_67_1] at hm
                    refine lv_iload hx hb dX8_tape_67 (lv_at hl 2 rfl) ?_
                    refine lv_bipush (v := 60) hx hb dX8_tape_69 (by decide) ?_
                    refine lv_icmp_ge (tgt := 93) hx hb dX8_tape_71 (by decide) (fun c71 => ?_) (fun c71 => ?_)
                    · replace hm := it_t c71 hm
                      refine lv_iconst (v := 1) hx hb dX8_tape_93 (by decide) ?_
                      cases hm
                      exact k_iret hx hb hr hlocks hP hS dX8_tape_94
                    · replace hm := it_f c71 hm
                      refine lv_aload_n hx hb dX8_tape_74 rfl (lv_at hl 0 rfl) ?_
                      refine va_get (D := (dC, dI)) (ci := 8) (v := .ref m_items) (C := RX8) (T := TX8) (N := 29) hx hb hts hinX8_tape_X8 hown hK hP 0 rfl rfl 27 (by decide) (hts _ (List.mem_of_getElem? (i := 3) rfl)) (fun _ h9 => h9) rfl dX8_tape_75 ?_
                      refine lv_bipush (v := 60) hx hb dX8_tape_78 (by decide) ?_
                      refine lv_iload_n hx hb dX8_tape_80 rfl (lv_at hl 1 rfl) ?_
                      refine lv_imul hx hb dX8_tape_81 ?_
                      refine lv_iload hx hb dX8_tape_82 (lv_at hl 2 rfl) ?_
                      refine lv_iadd hx hb dX8_tape_84 ?_
                      refine lv_lconst (v := 0) hx hb dX8_tape_85 (by decide) ?_
                      obtain ⟨hg86, hm⟩ := gd_e hm
                      refine k_last (D := (dC, dI)) hx hb hK hP hD hS 18 2 rfl rfl (k := ((60 * x1) + l4_67).toNatClampNeg) rfl hg86 dX8_tape_86 (fun H locs hP hD hS => ?_)
                      have hP : va_P (dC, dI) vwCl (fl [wdX8 kc m_o m_now m_mind m_then m_text m_rules m_sizes m_read m_names m_letters m_begins m_words m_drifts m_above m_bodies m_trace m_sorts m_lengths m_items m_moved mnow mmind mthen mkept mtext mtexted mrules msizes mruled mread msize mat mwell mwithin msum mbear mnames mletters mbegins mwords mdrifts mabove mbodies mtrace mran (upd msorts (x1.toNatClampNeg) x2) (upd mlengths (x1.toNatClampNeg) 0) (vp_updL mitems_67 (((60 * x1) + l4_67).toNatClampNeg) 0) mmoved]) H := hP
                      have hD : va_D A (fl [wdX8 kc m_o m_now m_mind m_then m_text m_rules m_sizes m_read m_names m_letters m_begins m_words m_drifts m_above m_bodies m_trace m_sorts m_lengths m_items m_moved mnow mmind mthen mkept mtext mtexted mrules msizes mruled mread msize mat mwell mwithin msum mbear mnames mletters mbegins mwords mdrifts mabove mbodies mtrace mran (upd msorts (x1.toNatClampNeg) x2) (upd mlengths (x1.toNatClampNeg) 0) (vp_updL mitems_67 (((60 * x1) + l4_67).toNatClampNeg) 0) mmoved]) := hD
                      refine lv_iinc (v := l4_67 + 1) (lv' := [(4, .int (l4_67 + 1)), (0, .ref m_o), (1, .int x1)]) hx hb dX8_tape_87 hl (k := 2) rfl rfl (by decide) rfl (fun ls hl => ?_)
                      refine lv_goto (tgt := 67) hx hb dX8_tape_90 (by decide) ?_
                      exact ih67 (l4_67 + 1) (vp_updL mitems_67 (((60 * x1) + l4_67).toNatClampNeg) 0) hm _ _ hP hD hS _ (lv_sub hl [1, 2, 0] rfl)
                exact hL67 _ _ _ hm _ _ hP hD hS _ (lv_sub hl [1, 2, 0] rfl)
            · replace hm := it_f c36 hm
              refine lv_bipush (v := (-14)) hx hb dX8_tape_39 (by decide) ?_
              cases hm
              exact k_iret hx hb hr hlocks hP hS dX8_tape_41
        · replace hm := it_f c25 hm
          refine lv_bipush (v := (-2)) hx hb dX8_tape_28 (by decide) ?_
          cases hm
          exact k_iret hx hb hr hlocks hP hS dX8_tape_30
  · replace hm := it_t c4 hm
    refine lv_iconst (v := (-1)) hx hb dX8_tape_7 (by decide) ?_
    cases hm
    exact k_iret hx hb hr hlocks hP hS dX8_tape_8
def fX8_item (msorts : Nat → Int32) (mlengths : Nat → Int32) (mitems : Nat → Int64) (x1 : Int32) (x2 : Int32) (x3 : Int64) : Option (Int32 × (Nat → Int64)) := bd1 (fX8_isTape x1) (fun r1 => if r1 = 0 then (some (((-1) : Int32), mitems)) else (gd (inb x1 6) (if 0 ≤ (msorts (x1.toNatClampNeg)) then (gd (inb x1 6) (bd1 (fX8_isIn x2 0 ((mlengths (x1.toNatClampNeg)) - 1)) (fun r31 => if r31 = 0 then (some (((-13) : Int32), mitems)) else (gd (inb x1 6) (if (msorts (x1.toNatClampNeg)) = 0 then (gd (inb ((60 * x1) + x2) 360) (some ((1 : Int32), vp_updL mitems (((60 * x1) + x2).toNatClampNeg) x3.toInt32.toInt8.toInt32.toInt64))) else (if (msorts (x1.toNatClampNeg)) = 1 then (gd (inb ((60 * x1) + x2) 360) (some ((1 : Int32), vp_updL mitems (((60 * x1) + x2).toNatClampNeg) x3.toInt32.toInt16.toInt32.toInt64))) else (if (msorts (x1.toNatClampNeg)) = 2 then (gd (inb ((60 * x1) + x2) 360) (some ((1 : Int32), vp_updL mitems (((60 * x1) + x2).toNatClampNeg) x3.toInt32.toInt64))) else (if (msorts (x1.toNatClampNeg)) = 3 then (gd (inb ((60 * x1) + x2) 360) (some ((1 : Int32), vp_updL mitems (((60 * x1) + x2).toNatClampNeg) x3))) else (if (lg_cmp x3 0) = 0 then (gd (inb ((60 * x1) + x2) 360) (some ((1 : Int32), vp_updL mitems (((60 * x1) + x2).toNatClampNeg) 0))) else (gd (inb ((60 * x1) + x2) 360) (some ((1 : Int32), vp_updL mitems (((60 * x1) + x2).toNatClampNeg) 1)))))))))))) else (some (((-11) : Int32), mitems)))))
theorem hinX8_item_X8 : ∀ w ∈ u_ws RX8 TX8 29, w ∈ wsX8_item := fun _ h => List.mem_cons_of_mem _ (List.mem_append_right _ h)
abbrev rmX8_item : Room := { frames := 2, cells := 0, slots := 0, locals := 54 }
set_option maxHeartbeats 4000000 in
set_option maxRecDepth 100000 in
theorem ctX8_item {l : Launch} {dC : Nat → ClassId} {dI : Nat → Nat → Nat} {kc : Nat → ClassId} {m_o m_now m_mind m_then m_text m_rules m_sizes m_read m_names m_letters m_begins m_words m_drifts m_above m_bodies m_trace m_sorts m_lengths m_items m_moved : Nat} {mnow : Nat → Int32} {mmind : Nat → Int32} {mthen : Nat → Int32} {mkept : Int32} {mtext : Nat → Int32} {mtexted : Int32} {mrules : Nat → Int32} {msizes : Nat → Int32} {mruled : Int32} {mread : Nat → Int32} {msize : Int32} {mat : Int32} {mwell : Int32} {mwithin : Int32} {msum : Int32} {mbear : Int32} {mnames : Nat → Int32} {mletters : Nat → Int32} {mbegins : Nat → Int32} {mwords : Nat → Int32} {mdrifts : Nat → Int32} {mabove : Nat → Int32} {mbodies : Nat → Int32} {mtrace : Nat → Int32} {mran : Int32} {msorts : Nat → Int32} {mlengths : Nat → Int32} {mitems : Nat → Int64} {mmoved : Nat → Int64} {x1 : Int32} {x2 : Int32} {x3 : Int64} {r : Int32} {mitems' : Nat → Int64} (hm : fX8_item msorts mlengths mitems x1 x2 x3 = some (r, mitems')) : ∀ sz : Nat, Met l yX8_item wsX8_item rmX8_item (kPc dC dI kc [.ref m_o, .int x1, .int x2, .long x3] (fl [wdX8 kc m_o m_now m_mind m_then m_text m_rules m_sizes m_read m_names m_letters m_begins m_words m_drifts m_above m_bodies m_trace m_sorts m_lengths m_items m_moved mnow mmind mthen mkept mtext mtexted mrules msizes mruled mread msize mat mwell mwithin msum mbear mnames mletters mbegins mwords mdrifts mabove mbodies mtrace mran msorts mlengths mitems mmoved]) sz) (kQi dC dI r (fl [wdX8 kc m_o m_now m_mind m_then m_text m_rules m_sizes m_read m_names m_letters m_begins m_words m_drifts m_above m_bodies m_trace m_sorts m_lengths m_items m_moved mnow mmind mthen mkept mtext mtexted mrules msizes mruled mread msize mat mwell mwithin msum mbear mnames mletters mbegins mwords mdrifts mabove mbodies mtrace mran msorts mlengths mitems' mmoved]) (va_A (fl [wdX8 kc m_o m_now m_mind m_then m_text m_rules m_sizes m_read m_names m_letters m_begins m_words m_drifts m_above m_bodies m_trace m_sorts m_lengths m_items m_moved mnow mmind mthen mkept mtext mtexted mrules msizes mruled mread msize mat mwell mwithin msum mbear mnames mletters mbegins mwords mdrifts mabove mbodies mtrace mran msorts mlengths mitems mmoved]) sz)) 0 0 (va_A (fl [wdX8 kc m_o m_now m_mind m_then m_text m_rules m_sizes m_read m_names m_letters m_begins m_words m_drifts m_above m_bodies m_trace m_sorts m_lengths m_items m_moved mnow mmind mthen mkept mtext mtexted mrules msizes mruled mread msize mat mwell mwithin msum mbear mnames mletters mbegins mwords mdrifts mabove mbodies mtrace mran msorts mlengths mitems mmoved]) sz) := by
  intro sz
  refine kMet (cc := cX8_item) (maxL := 6) (ret := (some .int)) (Qf := fun A => kQi dC dI r (fl [wdX8 kc m_o m_now m_mind m_then m_text m_rules m_sizes m_read m_names m_letters m_begins m_words m_drifts m_above m_bodies m_trace m_sorts m_lengths m_items m_moved mnow mmind mthen mkept mtext mtexted mrules msizes mruled mread msize mat mwell mwithin msum mbear mnames mletters mbegins mwords mdrifts mabove mbodies mtrace mran msorts mlengths mitems' mmoved]) A) (by decide) rfl (Nat.le_of_ble_eq_true rfl) ?_
  intro p e s m below meth c A ls hx hb hr hml hts hown hlocks hname hsz hA hP hK hD hl
  have hS : va_S A s.heap s.heap [] := va_S.rf
  have hl : lv_has ls 6 [(0, .ref m_o), (1, .int x1), (2, .int x2), (3, .long x3)] := hl
  unfold fX8_item at hm
  refine lv_iload_n hx hb dX8_item_0 rfl (lv_at hl 1 rfl) ?_
  obtain ⟨r1, hc1, hm⟩ := bd1_e hm
  refine k_callGSi (dC := dC) (dI := dI) (kc := kc) (As := [.int x1]) (rest := []) (Gs' := [wdX8 kc m_o m_now m_mind m_then m_text m_rules m_sizes m_read m_names m_letters m_begins m_words m_drifts m_above m_bodies m_trace m_sorts m_lengths m_items m_moved mnow mmind mthen mkept mtext mtexted mrules msizes mruled mread msize mat mwell mwithin msum mbear mnames mletters mbegins mwords mdrifts mabove mbodies mtrace mran msorts mlengths mitems mmoved]) hx hb hml hown hts hK hP hD hS hA (ctX8_isTape (x1 := x1) hc1) (va_cwS 1 hts gX8_item_X8_isTape rfl rfl rfl (by decide +kernel) ⟨Nat.le_of_ble_eq_true rfl, Nat.le_of_ble_eq_true rfl⟩) [] rfl (by decide) rfl hl rfl (Nat.le_of_ble_eq_true rfl) dX8_item_1 ⟨Nat.zero_le _, Nat.zero_le _⟩ rfl rfl rfl (fun H locs hP hD hS => ?_)
  refine lv_if_ne (tgt := 9) hx hb dX8_item_4 (by decide) (fun c4 => ?_) (fun c4 => ?_)
  · replace hm := it_f c4 hm
    refine lv_aload_n hx hb dX8_item_9 rfl (lv_at hl 0 rfl) ?_
    refine va_get (D := (dC, dI)) (ci := 8) (v := .ref m_sorts) (C := RX8) (T := TX8) (N := 29) hx hb hts hinX8_item_X8 hown hK hP 0 rfl rfl 25 (by decide) (hts _ (List.mem_of_getElem? (i := 1) rfl)) (fun _ h9 => h9) rfl dX8_item_10 ?_
    refine lv_iload_n hx hb dX8_item_13 rfl (lv_at hl 1 rfl) ?_
    obtain ⟨hg14, hm⟩ := gd_e hm
    refine k_iald (D := (dC, dI)) hx hb hK hP 16 1 rfl rfl (k := x1.toNatClampNeg) rfl hg14 dX8_item_14 ?_
    refine lv_if_ge (tgt := 21) hx hb dX8_item_15 (by decide) (fun c15 => ?_) (fun c15 => ?_)
    · replace hm := it_t c15 hm
      refine lv_iload_n hx hb dX8_item_21 rfl (lv_at hl 2 rfl) ?_
      refine lv_iconst (v := 0) hx hb dX8_item_22 (by decide) ?_
      refine lv_aload_n hx hb dX8_item_23 rfl (lv_at hl 0 rfl) ?_
      refine va_get (D := (dC, dI)) (ci := 8) (v := .ref m_lengths) (C := RX8) (T := TX8) (N := 29) hx hb hts hinX8_item_X8 hown hK hP 0 rfl rfl 26 (by decide) (hts _ (List.mem_of_getElem? (i := 2) rfl)) (fun _ h9 => h9) rfl dX8_item_24 ?_
      refine lv_iload_n hx hb dX8_item_27 rfl (lv_at hl 1 rfl) ?_
      obtain ⟨hg28, hm⟩ := gd_e hm
      refine k_iald (D := (dC, dI)) hx hb hK hP 17 1 rfl rfl (k := x1.toNatClampNeg) rfl hg28 dX8_item_28 ?_
      refine lv_iconst (v := 1) hx hb dX8_item_29 (by decide) ?_
      refine lv_isub hx hb dX8_item_30 ?_
      obtain ⟨r31, hc31, hm⟩ := bd1_e hm
      refine k_callGSi (dC := dC) (dI := dI) (kc := kc) (As := [.int x2, .int 0, .int ((mlengths (x1.toNatClampNeg)) - 1)]) (rest := []) (Gs' := [wdX8 kc m_o m_now m_mind m_then m_text m_rules m_sizes m_read m_names m_letters m_begins m_words m_drifts m_above m_bodies m_trace m_sorts m_lengths m_items m_moved mnow mmind mthen mkept mtext mtexted mrules msizes mruled mread msize mat mwell mwithin msum mbear mnames mletters mbegins mwords mdrifts mabove mbodies mtrace mran msorts mlengths mitems mmoved]) hx hb hml hown hts hK hP hD hS hA (ctX8_isIn (x1 := x2) (x2 := 0) (x3 := (mlengths (x1.toNatClampNeg)) - 1) hc31) (va_cwS 3 hts gX8_item_X8_isIn rfl rfl rfl (by decide +kernel) ⟨Nat.le_of_ble_eq_true rfl, Nat.le_of_ble_eq_true rfl⟩) [] rfl (by decide) rfl hl rfl (Nat.le_of_ble_eq_true rfl) dX8_item_31 ⟨Nat.zero_le _, Nat.zero_le _⟩ rfl rfl rfl (fun H locs hP hD hS => ?_)
      refine lv_if_ne (tgt := 40) hx hb dX8_item_34 (by decide) (fun c34 => ?_) (fun c34 => ?_)
      · replace hm := it_f c34 hm
        refine lv_aload_n hx hb dX8_item_40 rfl (lv_at hl 0 rfl) ?_
        refine va_get (D := (dC, dI)) (ci := 8) (v := .ref m_sorts) (C := RX8) (T := TX8) (N := 29) hx hb hts hinX8_item_X8 hown hK hP 0 rfl rfl 25 (by decide) (hts _ (List.mem_of_getElem? (i := 1) rfl)) (fun _ h9 => h9) rfl dX8_item_41 ?_
        refine lv_iload_n hx hb dX8_item_44 rfl (lv_at hl 1 rfl) ?_
        obtain ⟨hg45, hm⟩ := gd_e hm
        refine k_iald (D := (dC, dI)) hx hb hK hP 16 1 rfl rfl (k := x1.toNatClampNeg) rfl hg45 dX8_item_45 ?_
        refine lv_istore (lv' := [(5, .int (msorts (x1.toNatClampNeg))), (0, .ref m_o), (1, .int x1), (2, .int x2), (3, .long x3)]) hx hb dX8_item_46 hl (by decide) rfl (fun ls hl => ?_)
        refine lv_aload_n hx hb dX8_item_48 rfl (lv_at hl 1 rfl) ?_
        refine va_get (D := (dC, dI)) (ci := 8) (v := .ref m_items) (C := RX8) (T := TX8) (N := 29) hx hb hts hinX8_item_X8 hown hK hP 0 rfl rfl 27 (by decide) (hts _ (List.mem_of_getElem? (i := 3) rfl)) (fun _ h9 => h9) rfl dX8_item_49 ?_
        refine lv_bipush (v := 60) hx hb dX8_item_52 (by decide) ?_
        refine lv_iload_n hx hb dX8_item_54 rfl (lv_at hl 2 rfl) ?_
        refine lv_imul hx hb dX8_item_55 ?_
        refine lv_iload_n hx hb dX8_item_56 rfl (lv_at hl 3 rfl) ?_
        refine lv_iadd hx hb dX8_item_57 ?_
        refine lv_iload hx hb dX8_item_58 (lv_at hl 0 rfl) ?_
        refine lv_if_ne (tgt := 70) hx hb dX8_item_60 (by decide) (fun c60 => ?_) (fun c60 => ?_)
        · replace hm := it_f c60 hm
          refine lv_iload hx hb dX8_item_70 (lv_at hl 0 rfl) ?_
          refine lv_iconst (v := 1) hx hb dX8_item_72 (by decide) ?_
          refine lv_icmp_ne (tgt := 83) hx hb dX8_item_73 (by decide) (fun c73 => ?_) (fun c73 => ?_)
          · replace hm := it_f c73 hm
            refine lv_iload hx hb dX8_item_83 (lv_at hl 0 rfl) ?_
            refine lv_iconst (v := 2) hx hb dX8_item_85 (by decide) ?_
            refine lv_icmp_ne (tgt := 95) hx hb dX8_item_86 (by decide) (fun c86 => ?_) (fun c86 => ?_)
            · replace hm := it_f c86 hm
              refine lv_iload hx hb dX8_item_95 (lv_at hl 0 rfl) ?_
              refine lv_iconst (v := 3) hx hb dX8_item_97 (by decide) ?_
              refine lv_icmp_ne (tgt := 105) hx hb dX8_item_98 (by decide) (fun c98 => ?_) (fun c98 => ?_)
              · replace hm := it_f c98 hm
                refine lv_lload_n hx hb dX8_item_105 rfl (lv_at hl 4 rfl) ?_
                refine lv_lconst (v := 0) hx hb dX8_item_106 (by decide) ?_
                refine W.lcmp hx hb dX8_item_107 ?_
                refine lv_if_eq (tgt := 115) hx hb dX8_item_108 (by decide) (fun c108 => ?_) (fun c108 => ?_)
                · replace hm := it_t c108 hm
                  refine lv_lconst (v := 0) hx hb dX8_item_115 (by decide) ?_
                  obtain ⟨hg116, hm⟩ := gd_e hm
                  refine k_last (D := (dC, dI)) hx hb hK hP hD hS 18 2 rfl rfl (k := ((60 * x1) + x2).toNatClampNeg) rfl hg116 dX8_item_116 (fun H locs hP hD hS => ?_)
                  have hP : va_P (dC, dI) vwCl (fl [wdX8 kc m_o m_now m_mind m_then m_text m_rules m_sizes m_read m_names m_letters m_begins m_words m_drifts m_above m_bodies m_trace m_sorts m_lengths m_items m_moved mnow mmind mthen mkept mtext mtexted mrules msizes mruled mread msize mat mwell mwithin msum mbear mnames mletters mbegins mwords mdrifts mabove mbodies mtrace mran msorts mlengths (vp_updL mitems (((60 * x1) + x2).toNatClampNeg) 0) mmoved]) H := hP
                  have hD : va_D A (fl [wdX8 kc m_o m_now m_mind m_then m_text m_rules m_sizes m_read m_names m_letters m_begins m_words m_drifts m_above m_bodies m_trace m_sorts m_lengths m_items m_moved mnow mmind mthen mkept mtext mtexted mrules msizes mruled mread msize mat mwell mwithin msum mbear mnames mletters mbegins mwords mdrifts mabove mbodies mtrace mran msorts mlengths (vp_updL mitems (((60 * x1) + x2).toNatClampNeg) 0) mmoved]) := hD
                  refine lv_iconst (v := 1) hx hb dX8_item_117 (by decide) ?_
                  cases hm
                  exact k_iret hx hb hr hlocks hP hS dX8_item_118
                · replace hm := it_f c108 hm
                  refine lv_lconst (v := 1) hx hb dX8_item_111 (by decide) ?_
                  refine lv_goto (tgt := 116) hx hb dX8_item_112 (by decide) ?_
                  obtain ⟨hg116, hm⟩ := gd_e hm
                  refine k_last (D := (dC, dI)) hx hb hK hP hD hS 18 2 rfl rfl (k := ((60 * x1) + x2).toNatClampNeg) rfl hg116 dX8_item_116 (fun H locs hP hD hS => ?_)
                  have hP : va_P (dC, dI) vwCl (fl [wdX8 kc m_o m_now m_mind m_then m_text m_rules m_sizes m_read m_names m_letters m_begins m_words m_drifts m_above m_bodies m_trace m_sorts m_lengths m_items m_moved mnow mmind mthen mkept mtext mtexted mrules msizes mruled mread msize mat mwell mwithin msum mbear mnames mletters mbegins mwords mdrifts mabove mbodies mtrace mran msorts mlengths (vp_updL mitems (((60 * x1) + x2).toNatClampNeg) 1) mmoved]) H := hP
                  have hD : va_D A (fl [wdX8 kc m_o m_now m_mind m_then m_text m_rules m_sizes m_read m_names m_letters m_begins m_words m_drifts m_above m_bodies m_trace m_sorts m_lengths m_items m_moved mnow mmind mthen mkept mtext mtexted mrules msizes mruled mread msize mat mwell mwithin msum mbear mnames mletters mbegins mwords mdrifts mabove mbodies mtrace mran msorts mlengths (vp_updL mitems (((60 * x1) + x2).toNatClampNeg) 1) mmoved]) := hD
                  refine lv_iconst (v := 1) hx hb dX8_item_117 (by decide) ?_
                  cases hm
                  exact k_iret hx hb hr hlocks hP hS dX8_item_118
              · replace hm := it_t c98 hm
                refine lv_lload_n hx hb dX8_item_101 rfl (lv_at hl 4 rfl) ?_
                refine lv_goto (tgt := 116) hx hb dX8_item_102 (by decide) ?_
                obtain ⟨hg116, hm⟩ := gd_e hm
                refine k_last (D := (dC, dI)) hx hb hK hP hD hS 18 2 rfl rfl (k := ((60 * x1) + x2).toNatClampNeg) rfl hg116 dX8_item_116 (fun H locs hP hD hS => ?_)
                have hP : va_P (dC, dI) vwCl (fl [wdX8 kc m_o m_now m_mind m_then m_text m_rules m_sizes m_read m_names m_letters m_begins m_words m_drifts m_above m_bodies m_trace m_sorts m_lengths m_items m_moved mnow mmind mthen mkept mtext mtexted mrules msizes mruled mread msize mat mwell mwithin msum mbear mnames mletters mbegins mwords mdrifts mabove mbodies mtrace mran msorts mlengths (vp_updL mitems (((60 * x1) + x2).toNatClampNeg) x3) mmoved]) H := hP
                have hD : va_D A (fl [wdX8 kc m_o m_now m_mind m_then m_text m_rules m_sizes m_read m_names m_letters m_begins m_words m_drifts m_above m_bodies m_trace m_sorts m_lengths m_items m_moved mnow mmind mthen mkept mtext mtexted mrules msizes mruled mread msize mat mwell mwithin msum mbear mnames mletters mbegins mwords mdrifts mabove mbodies mtrace mran msorts mlengths (vp_updL mitems (((60 * x1) + x2).toNatClampNeg) x3) mmoved]) := hD
                refine lv_iconst (v := 1) hx hb dX8_item_117 (by decide) ?_
                cases hm
                exact k_iret hx hb hr hlocks hP hS dX8_item_118
            · replace hm := it_t c86 hm
              refine lv_lload_n hx hb dX8_item_89 rfl (lv_at hl 4 rfl) ?_
              refine lv_l2i hx hb dX8_item_90 rfl ?_
              refine lv_i2l hx hb dX8_item_91 rfl ?_
              refine lv_goto (tgt := 116) hx hb dX8_item_92 (by decide) ?_
              obtain ⟨hg116, hm⟩ := gd_e hm
              refine k_last (D := (dC, dI)) hx hb hK hP hD hS 18 2 rfl rfl (k := ((60 * x1) + x2).toNatClampNeg) rfl hg116 dX8_item_116 (fun H locs hP hD hS => ?_)
              have hP : va_P (dC, dI) vwCl (fl [wdX8 kc m_o m_now m_mind m_then m_text m_rules m_sizes m_read m_names m_letters m_begins m_words m_drifts m_above m_bodies m_trace m_sorts m_lengths m_items m_moved mnow mmind mthen mkept mtext mtexted mrules msizes mruled mread msize mat mwell mwithin msum mbear mnames mletters mbegins mwords mdrifts mabove mbodies mtrace mran msorts mlengths (vp_updL mitems (((60 * x1) + x2).toNatClampNeg) x3.toInt32.toInt64) mmoved]) H := hP
              have hD : va_D A (fl [wdX8 kc m_o m_now m_mind m_then m_text m_rules m_sizes m_read m_names m_letters m_begins m_words m_drifts m_above m_bodies m_trace m_sorts m_lengths m_items m_moved mnow mmind mthen mkept mtext mtexted mrules msizes mruled mread msize mat mwell mwithin msum mbear mnames mletters mbegins mwords mdrifts mabove mbodies mtrace mran msorts mlengths (vp_updL mitems (((60 * x1) + x2).toNatClampNeg) x3.toInt32.toInt64) mmoved]) := hD
              refine lv_iconst (v := 1) hx hb dX8_item_117 (by decide) ?_
              cases hm
              exact k_iret hx hb hr hlocks hP hS dX8_item_118
          · replace hm := it_t c73 hm
            refine lv_lload_n hx hb dX8_item_76 rfl (lv_at hl 4 rfl) ?_
            refine lv_l2i hx hb dX8_item_77 rfl ?_
            refine lv_i2s hx hb dX8_item_78 rfl ?_
            refine lv_i2l hx hb dX8_item_79 rfl ?_
            refine lv_goto (tgt := 116) hx hb dX8_item_80 (by decide) ?_
            obtain ⟨hg116, hm⟩ := gd_e hm
            refine k_last (D := (dC, dI)) hx hb hK hP hD hS 18 2 rfl rfl (k := ((60 * x1) + x2).toNatClampNeg) rfl hg116 dX8_item_116 (fun H locs hP hD hS => ?_)
            have hP : va_P (dC, dI) vwCl (fl [wdX8 kc m_o m_now m_mind m_then m_text m_rules m_sizes m_read m_names m_letters m_begins m_words m_drifts m_above m_bodies m_trace m_sorts m_lengths m_items m_moved mnow mmind mthen mkept mtext mtexted mrules msizes mruled mread msize mat mwell mwithin msum mbear mnames mletters mbegins mwords mdrifts mabove mbodies mtrace mran msorts mlengths (vp_updL mitems (((60 * x1) + x2).toNatClampNeg) x3.toInt32.toInt16.toInt32.toInt64) mmoved]) H := hP
            have hD : va_D A (fl [wdX8 kc m_o m_now m_mind m_then m_text m_rules m_sizes m_read m_names m_letters m_begins m_words m_drifts m_above m_bodies m_trace m_sorts m_lengths m_items m_moved mnow mmind mthen mkept mtext mtexted mrules msizes mruled mread msize mat mwell mwithin msum mbear mnames mletters mbegins mwords mdrifts mabove mbodies mtrace mran msorts mlengths (vp_updL mitems (((60 * x1) + x2).toNatClampNeg) x3.toInt32.toInt16.toInt32.toInt64) mmoved]) := hD
            refine lv_iconst (v := 1) hx hb dX8_item_117 (by decide) ?_
            cases hm
            exact k_iret hx hb hr hlocks hP hS dX8_item_118
        · replace hm := it_t c60 hm
          refine lv_lload_n hx hb dX8_item_63 rfl (lv_at hl 4 rfl) ?_
          refine lv_l2i hx hb dX8_item_64 rfl ?_
          refine lv_i2b hx hb dX8_item_65 rfl ?_
          refine lv_i2l hx hb dX8_item_66 rfl ?_
          refine lv_goto (tgt := 116) hx hb dX8_item_67 (by decide) ?_
          obtain ⟨hg116, hm⟩ := gd_e hm
          refine k_last (D := (dC, dI)) hx hb hK hP hD hS 18 2 rfl rfl (k := ((60 * x1) + x2).toNatClampNeg) rfl hg116 dX8_item_116 (fun H locs hP hD hS => ?_)
          have hP : va_P (dC, dI) vwCl (fl [wdX8 kc m_o m_now m_mind m_then m_text m_rules m_sizes m_read m_names m_letters m_begins m_words m_drifts m_above m_bodies m_trace m_sorts m_lengths m_items m_moved mnow mmind mthen mkept mtext mtexted mrules msizes mruled mread msize mat mwell mwithin msum mbear mnames mletters mbegins mwords mdrifts mabove mbodies mtrace mran msorts mlengths (vp_updL mitems (((60 * x1) + x2).toNatClampNeg) x3.toInt32.toInt8.toInt32.toInt64) mmoved]) H := hP
          have hD : va_D A (fl [wdX8 kc m_o m_now m_mind m_then m_text m_rules m_sizes m_read m_names m_letters m_begins m_words m_drifts m_above m_bodies m_trace m_sorts m_lengths m_items m_moved mnow mmind mthen mkept mtext mtexted mrules msizes mruled mread msize mat mwell mwithin msum mbear mnames mletters mbegins mwords mdrifts mabove mbodies mtrace mran msorts mlengths (vp_updL mitems (((60 * x1) + x2).toNatClampNeg) x3.toInt32.toInt8.toInt32.toInt64) mmoved]) := hD
          refine lv_iconst (v := 1) hx hb dX8_item_117 (by decide) ?_
          cases hm
          exact k_iret hx hb hr hlocks hP hS dX8_item_118
      · replace hm := it_t c34 hm
        refine lv_bipush (v := (-13)) hx hb dX8_item_37 (by decide) ?_
        cases hm
        exact k_iret hx hb hr hlocks hP hS dX8_item_39
    · replace hm := it_f c15 hm
      refine lv_bipush (v := (-11)) hx hb dX8_item_18 (by decide) ?_
      cases hm
      exact k_iret hx hb hr hlocks hP hS dX8_item_20
  · replace hm := it_t c4 hm
    refine lv_iconst (v := (-1)) hx hb dX8_item_7 (by decide) ?_
    cases hm
    exact k_iret hx hb hr hlocks hP hS dX8_item_8
def fX8_read (mlengths : Nat → Int32) (mitems : Nat → Int64) (x1 : Int32) (x2 : Int32) : Option Int64 := bd1 (fX8_isTape x1) (fun r1 => if r1 = 0 then (some ((-9223372036854775808) : Int64)) else (gd (inb x1 6) (bd1 (fX8_isIn x2 0 ((mlengths (x1.toNatClampNeg)) - 1)) (fun r17 => if r17 = 0 then (some ((-9223372036854775808) : Int64)) else (gd (inb ((60 * x1) + x2) 360) (some (mitems (((60 * x1) + x2).toNatClampNeg))))))))
theorem hinX8_read_X8 : ∀ w ∈ u_ws RX8 TX8 29, w ∈ wsX8_read := fun _ h => List.mem_cons_of_mem _ (List.mem_append_right _ h)
abbrev rmX8_read : Room := { frames := 2, cells := 0, slots := 0, locals := 54 }
set_option maxHeartbeats 4000000 in
set_option maxRecDepth 100000 in
theorem ctX8_read {l : Launch} {dC : Nat → ClassId} {dI : Nat → Nat → Nat} {kc : Nat → ClassId} {m_o m_now m_mind m_then m_text m_rules m_sizes m_read m_names m_letters m_begins m_words m_drifts m_above m_bodies m_trace m_sorts m_lengths m_items m_moved : Nat} {mnow : Nat → Int32} {mmind : Nat → Int32} {mthen : Nat → Int32} {mkept : Int32} {mtext : Nat → Int32} {mtexted : Int32} {mrules : Nat → Int32} {msizes : Nat → Int32} {mruled : Int32} {mread : Nat → Int32} {msize : Int32} {mat : Int32} {mwell : Int32} {mwithin : Int32} {msum : Int32} {mbear : Int32} {mnames : Nat → Int32} {mletters : Nat → Int32} {mbegins : Nat → Int32} {mwords : Nat → Int32} {mdrifts : Nat → Int32} {mabove : Nat → Int32} {mbodies : Nat → Int32} {mtrace : Nat → Int32} {mran : Int32} {msorts : Nat → Int32} {mlengths : Nat → Int32} {mitems : Nat → Int64} {mmoved : Nat → Int64} {x1 : Int32} {x2 : Int32} {r : Int64} (hm : fX8_read mlengths mitems x1 x2 = some r) : ∀ sz : Nat, Met l yX8_read wsX8_read rmX8_read (kPc dC dI kc [.ref m_o, .int x1, .int x2] (fl [wdX8 kc m_o m_now m_mind m_then m_text m_rules m_sizes m_read m_names m_letters m_begins m_words m_drifts m_above m_bodies m_trace m_sorts m_lengths m_items m_moved mnow mmind mthen mkept mtext mtexted mrules msizes mruled mread msize mat mwell mwithin msum mbear mnames mletters mbegins mwords mdrifts mabove mbodies mtrace mran msorts mlengths mitems mmoved]) sz) (kQl dC dI r (fl [wdX8 kc m_o m_now m_mind m_then m_text m_rules m_sizes m_read m_names m_letters m_begins m_words m_drifts m_above m_bodies m_trace m_sorts m_lengths m_items m_moved mnow mmind mthen mkept mtext mtexted mrules msizes mruled mread msize mat mwell mwithin msum mbear mnames mletters mbegins mwords mdrifts mabove mbodies mtrace mran msorts mlengths mitems mmoved]) (va_A (fl [wdX8 kc m_o m_now m_mind m_then m_text m_rules m_sizes m_read m_names m_letters m_begins m_words m_drifts m_above m_bodies m_trace m_sorts m_lengths m_items m_moved mnow mmind mthen mkept mtext mtexted mrules msizes mruled mread msize mat mwell mwithin msum mbear mnames mletters mbegins mwords mdrifts mabove mbodies mtrace mran msorts mlengths mitems mmoved]) sz)) 0 0 (va_A (fl [wdX8 kc m_o m_now m_mind m_then m_text m_rules m_sizes m_read m_names m_letters m_begins m_words m_drifts m_above m_bodies m_trace m_sorts m_lengths m_items m_moved mnow mmind mthen mkept mtext mtexted mrules msizes mruled mread msize mat mwell mwithin msum mbear mnames mletters mbegins mwords mdrifts mabove mbodies mtrace mran msorts mlengths mitems mmoved]) sz) := by
  intro sz
  refine kMet (cc := cX8_read) (maxL := 3) (ret := (some .long)) (Qf := fun A => kQl dC dI r (fl [wdX8 kc m_o m_now m_mind m_then m_text m_rules m_sizes m_read m_names m_letters m_begins m_words m_drifts m_above m_bodies m_trace m_sorts m_lengths m_items m_moved mnow mmind mthen mkept mtext mtexted mrules msizes mruled mread msize mat mwell mwithin msum mbear mnames mletters mbegins mwords mdrifts mabove mbodies mtrace mran msorts mlengths mitems mmoved]) A) (by decide) rfl (Nat.le_of_ble_eq_true rfl) ?_
  intro p e s m below meth c A ls hx hb hr hml hts hown hlocks hname hsz hA hP hK hD hl
  have hS : va_S A s.heap s.heap [] := va_S.rf
  have hl : lv_has ls 3 [(0, .ref m_o), (1, .int x1), (2, .int x2)] := hl
  unfold fX8_read at hm
  refine lv_iload_n hx hb dX8_read_0 rfl (lv_at hl 1 rfl) ?_
  obtain ⟨r1, hc1, hm⟩ := bd1_e hm
  refine k_callGSi (dC := dC) (dI := dI) (kc := kc) (As := [.int x1]) (rest := []) (Gs' := [wdX8 kc m_o m_now m_mind m_then m_text m_rules m_sizes m_read m_names m_letters m_begins m_words m_drifts m_above m_bodies m_trace m_sorts m_lengths m_items m_moved mnow mmind mthen mkept mtext mtexted mrules msizes mruled mread msize mat mwell mwithin msum mbear mnames mletters mbegins mwords mdrifts mabove mbodies mtrace mran msorts mlengths mitems mmoved]) hx hb hml hown hts hK hP hD hS hA (ctX8_isTape (x1 := x1) hc1) (va_cwS 1 hts gX8_read_X8_isTape rfl rfl rfl (by decide +kernel) ⟨Nat.le_of_ble_eq_true rfl, Nat.le_of_ble_eq_true rfl⟩) [] rfl (by decide) rfl hl rfl (Nat.le_of_ble_eq_true rfl) dX8_read_1 ⟨Nat.zero_le _, Nat.zero_le _⟩ rfl rfl rfl (fun H locs hP hD hS => ?_)
  refine lv_if_eq (tgt := 37) hx hb dX8_read_4 (by decide) (fun c4 => ?_) (fun c4 => ?_)
  · replace hm := it_t c4 hm
    refine lv_ldc2 hx hb hown (hts _ (List.mem_of_getElem? (i := 3) rfl)) dX8_read_37 ?_
    cases hm
    exact k_lret hx hb hr hlocks hP hS dX8_read_40
  · replace hm := it_f c4 hm
    refine lv_iload_n hx hb dX8_read_7 rfl (lv_at hl 2 rfl) ?_
    refine lv_iconst (v := 0) hx hb dX8_read_8 (by decide) ?_
    refine lv_aload_n hx hb dX8_read_9 rfl (lv_at hl 0 rfl) ?_
    refine va_get (D := (dC, dI)) (ci := 8) (v := .ref m_lengths) (C := RX8) (T := TX8) (N := 29) hx hb hts hinX8_read_X8 hown hK hP 0 rfl rfl 26 (by decide) (hts _ (List.mem_of_getElem? (i := 1) rfl)) (fun _ h9 => h9) rfl dX8_read_10 ?_
    refine lv_iload_n hx hb dX8_read_13 rfl (lv_at hl 1 rfl) ?_
    obtain ⟨hg14, hm⟩ := gd_e hm
    refine k_iald (D := (dC, dI)) hx hb hK hP 17 1 rfl rfl (k := x1.toNatClampNeg) rfl hg14 dX8_read_14 ?_
    refine lv_iconst (v := 1) hx hb dX8_read_15 (by decide) ?_
    refine lv_isub hx hb dX8_read_16 ?_
    obtain ⟨r17, hc17, hm⟩ := bd1_e hm
    refine k_callGSi (dC := dC) (dI := dI) (kc := kc) (As := [.int x2, .int 0, .int ((mlengths (x1.toNatClampNeg)) - 1)]) (rest := []) (Gs' := [wdX8 kc m_o m_now m_mind m_then m_text m_rules m_sizes m_read m_names m_letters m_begins m_words m_drifts m_above m_bodies m_trace m_sorts m_lengths m_items m_moved mnow mmind mthen mkept mtext mtexted mrules msizes mruled mread msize mat mwell mwithin msum mbear mnames mletters mbegins mwords mdrifts mabove mbodies mtrace mran msorts mlengths mitems mmoved]) hx hb hml hown hts hK hP hD hS hA (ctX8_isIn (x1 := x2) (x2 := 0) (x3 := (mlengths (x1.toNatClampNeg)) - 1) hc17) (va_cwS 3 hts gX8_read_X8_isIn rfl rfl rfl (by decide +kernel) ⟨Nat.le_of_ble_eq_true rfl, Nat.le_of_ble_eq_true rfl⟩) [] rfl (by decide) rfl hl rfl (Nat.le_of_ble_eq_true rfl) dX8_read_17 ⟨Nat.zero_le _, Nat.zero_le _⟩ rfl rfl rfl (fun H locs hP hD hS => ?_)
    refine lv_if_eq (tgt := 37) hx hb dX8_read_20 (by decide) (fun c20 => ?_) (fun c20 => ?_)
    · replace hm := it_t c20 hm
      refine lv_ldc2 hx hb hown (hts _ (List.mem_of_getElem? (i := 3) rfl)) dX8_read_37 ?_
      cases hm
      exact k_lret hx hb hr hlocks hP hS dX8_read_40
    · replace hm := it_f c20 hm
      refine lv_aload_n hx hb dX8_read_23 rfl (lv_at hl 0 rfl) ?_
      refine va_get (D := (dC, dI)) (ci := 8) (v := .ref m_items) (C := RX8) (T := TX8) (N := 29) hx hb hts hinX8_read_X8 hown hK hP 0 rfl rfl 27 (by decide) (hts _ (List.mem_of_getElem? (i := 2) rfl)) (fun _ h9 => h9) rfl dX8_read_24 ?_
      refine lv_bipush (v := 60) hx hb dX8_read_27 (by decide) ?_
      refine lv_iload_n hx hb dX8_read_29 rfl (lv_at hl 1 rfl) ?_
      refine lv_imul hx hb dX8_read_30 ?_
      refine lv_iload_n hx hb dX8_read_31 rfl (lv_at hl 2 rfl) ?_
      refine lv_iadd hx hb dX8_read_32 ?_
      obtain ⟨hg33, hm⟩ := gd_e hm
      refine k_lald (D := (dC, dI)) hx hb hK hP 18 2 rfl rfl (k := ((60 * x1) + x2).toNatClampNeg) rfl hg33 dX8_read_33 ?_
      refine lv_goto (tgt := 40) hx hb dX8_read_34 (by decide) ?_
      cases hm
      exact k_lret hx hb hr hlocks hP hS dX8_read_40
def LX8_shift_139 (x3 : Int32) (x4 : Int32) (x5 : Int32) (mmoved_102 : Nat → Int64) : Nat → Int32 → (Nat → Int64) → Option (Int32 × (Nat → Int64) × (Nat → Int64))
  | 0, _, _ => none
  | n139 + 1, l6_139, mitems_139 => if x5 ≤ l6_139 then (some (x5, mitems_139, mmoved_102)) else (gd (inb l6_139 60) (gd (inb (((60 * x3) + x4) + l6_139) 360) (LX8_shift_139 x3 x4 x5 mmoved_102 n139 (l6_139 + 1) (vp_updL mitems_139 ((((60 * x3) + x4) + l6_139).toNatClampNeg) (mmoved_102 (l6_139.toNatClampNeg))))))
def LX8_shift_102 (fu : Nat) (mitems : Nat → Int64) (x1 : Int32) (x2 : Int32) (x3 : Int32) (x4 : Int32) (x5 : Int32) : Nat → Int32 → (Nat → Int64) → Option (Int32 × (Nat → Int64) × (Nat → Int64))
  | 0, _, _ => none
  | n102 + 1, l6_102, mmoved_102 => if x5 ≤ l6_102 then (LX8_shift_139 x3 x4 x5 mmoved_102 fu 0 mitems) else (gd (inb (((60 * x1) + x2) + l6_102) 360) (gd (inb l6_102 60) (LX8_shift_102 fu mitems x1 x2 x3 x4 x5 n102 (l6_102 + 1) (vp_updL mmoved_102 (l6_102.toNatClampNeg) (mitems ((((60 * x1) + x2) + l6_102).toNatClampNeg))))))
def fX8_shift (fu : Nat) (msorts : Nat → Int32) (mlengths : Nat → Int32) (mitems : Nat → Int64) (mmoved : Nat → Int64) (x1 : Int32) (x2 : Int32) (x3 : Int32) (x4 : Int32) (x5 : Int32) : Option (Int32 × (Nat → Int64) × (Nat → Int64)) := bd1 (fX8_isTape x1) (fun r1 => if r1 = 0 then (some (((-1) : Int32), mitems, mmoved)) else (bd1 (fX8_isTape x3) (fun r8 => if r8 = 0 then (some (((-1) : Int32), mitems, mmoved)) else (gd (inb x1 6) (if (msorts (x1.toNatClampNeg)) < 0 then (some (((-11) : Int32), mitems, mmoved)) else (gd (inb x3 6) (if 0 ≤ (msorts (x3.toNatClampNeg)) then (gd (inb x1 6) (gd (inb x3 6) (if (msorts (x1.toNatClampNeg)) = (msorts (x3.toNatClampNeg)) then (if x5 < 0 then (some (((-13) : Int32), mitems, mmoved)) else (if x2 < 0 then (some (((-13) : Int32), mitems, mmoved)) else (if x4 < 0 then (some (((-13) : Int32), mitems, mmoved)) else (gd (inb x1 6) (if ((mlengths (x1.toNatClampNeg)) - x2) < x5 then (some (((-13) : Int32), mitems, mmoved)) else (gd (inb x3 6) (if x5 ≤ ((mlengths (x3.toNatClampNeg)) - x4) then (LX8_shift_102 fu mitems x1 x2 x3 x4 x5 fu 0 mmoved) else (some (((-13) : Int32), mitems, mmoved))))))))) else (some (((-12) : Int32), mitems, mmoved))))) else (some (((-11) : Int32), mitems, mmoved)))))))))
theorem hinX8_shift_X8 : ∀ w ∈ u_ws RX8 TX8 29, w ∈ wsX8_shift := fun _ h => List.mem_cons_of_mem _ (List.mem_append_right _ h)
abbrev rmX8_shift : Room := { frames := 2, cells := 0, slots := 0, locals := 54 }
set_option maxHeartbeats 4000000 in
set_option maxRecDepth 100000 in
theorem ctX8_shift {l : Launch} {dC : Nat → ClassId} {dI : Nat → Nat → Nat} {kc : Nat → ClassId} {m_o m_now m_mind m_then m_text m_rules m_sizes m_read m_names m_letters m_begins m_words m_drifts m_above m_bodies m_trace m_sorts m_lengths m_items m_moved : Nat} {mnow : Nat → Int32} {mmind : Nat → Int32} {mthen : Nat → Int32} {mkept : Int32} {mtext : Nat → Int32} {mtexted : Int32} {mrules : Nat → Int32} {msizes : Nat → Int32} {mruled : Int32} {mread : Nat → Int32} {msize : Int32} {mat : Int32} {mwell : Int32} {mwithin : Int32} {msum : Int32} {mbear : Int32} {mnames : Nat → Int32} {mletters : Nat → Int32} {mbegins : Nat → Int32} {mwords : Nat → Int32} {mdrifts : Nat → Int32} {mabove : Nat → Int32} {mbodies : Nat → Int32} {mtrace : Nat → Int32} {mran : Int32} {msorts : Nat → Int32} {mlengths : Nat → Int32} {mitems : Nat → Int64} {mmoved : Nat → Int64} {x1 : Int32} {x2 : Int32} {x3 : Int32} {x4 : Int32} {x5 : Int32} {fu : Nat} {r : Int32} {mitems' : Nat → Int64} {mmoved' : Nat → Int64} (hm : fX8_shift fu msorts mlengths mitems mmoved x1 x2 x3 x4 x5 = some (r, mitems', mmoved')) : ∀ sz : Nat, Met l yX8_shift wsX8_shift rmX8_shift (kPc dC dI kc [.ref m_o, .int x1, .int x2, .int x3, .int x4, .int x5] (fl [wdX8 kc m_o m_now m_mind m_then m_text m_rules m_sizes m_read m_names m_letters m_begins m_words m_drifts m_above m_bodies m_trace m_sorts m_lengths m_items m_moved mnow mmind mthen mkept mtext mtexted mrules msizes mruled mread msize mat mwell mwithin msum mbear mnames mletters mbegins mwords mdrifts mabove mbodies mtrace mran msorts mlengths mitems mmoved]) sz) (kQi dC dI r (fl [wdX8 kc m_o m_now m_mind m_then m_text m_rules m_sizes m_read m_names m_letters m_begins m_words m_drifts m_above m_bodies m_trace m_sorts m_lengths m_items m_moved mnow mmind mthen mkept mtext mtexted mrules msizes mruled mread msize mat mwell mwithin msum mbear mnames mletters mbegins mwords mdrifts mabove mbodies mtrace mran msorts mlengths mitems' mmoved']) (va_A (fl [wdX8 kc m_o m_now m_mind m_then m_text m_rules m_sizes m_read m_names m_letters m_begins m_words m_drifts m_above m_bodies m_trace m_sorts m_lengths m_items m_moved mnow mmind mthen mkept mtext mtexted mrules msizes mruled mread msize mat mwell mwithin msum mbear mnames mletters mbegins mwords mdrifts mabove mbodies mtrace mran msorts mlengths mitems mmoved]) sz)) 0 0 (va_A (fl [wdX8 kc m_o m_now m_mind m_then m_text m_rules m_sizes m_read m_names m_letters m_begins m_words m_drifts m_above m_bodies m_trace m_sorts m_lengths m_items m_moved mnow mmind mthen mkept mtext mtexted mrules msizes mruled mread msize mat mwell mwithin msum mbear mnames mletters mbegins mwords mdrifts mabove mbodies mtrace mran msorts mlengths mitems mmoved]) sz) := by
  intro sz
  refine kMet (cc := cX8_shift) (maxL := 7) (ret := (some .int)) (Qf := fun A => kQi dC dI r (fl [wdX8 kc m_o m_now m_mind m_then m_text m_rules m_sizes m_read m_names m_letters m_begins m_words m_drifts m_above m_bodies m_trace m_sorts m_lengths m_items m_moved mnow mmind mthen mkept mtext mtexted mrules msizes mruled mread msize mat mwell mwithin msum mbear mnames mletters mbegins mwords mdrifts mabove mbodies mtrace mran msorts mlengths mitems' mmoved']) A) (by decide) rfl (Nat.le_of_ble_eq_true rfl) ?_
  intro p e s m below meth c A ls hx hb hr hml hts hown hlocks hname hsz hA hP hK hD hl
  have hS : va_S A s.heap s.heap [] := va_S.rf
  have hl : lv_has ls 7 [(0, .ref m_o), (1, .int x1), (2, .int x2), (3, .int x3), (4, .int x4), (5, .int x5)] := hl
  unfold fX8_shift at hm
  refine lv_iload_n hx hb dX8_shift_0 rfl (lv_at hl 1 rfl) ?_
  obtain ⟨r1, hc1, hm⟩ := bd1_e hm
  refine k_callGSi (dC := dC) (dI := dI) (kc := kc) (As := [.int x1]) (rest := []) (Gs' := [wdX8 kc m_o m_now m_mind m_then m_text m_rules m_sizes m_read m_names m_letters m_begins m_words m_drifts m_above m_bodies m_trace m_sorts m_lengths m_items m_moved mnow mmind mthen mkept mtext mtexted mrules msizes mruled mread msize mat mwell mwithin msum mbear mnames mletters mbegins mwords mdrifts mabove mbodies mtrace mran msorts mlengths mitems mmoved]) hx hb hml hown hts hK hP hD hS hA (ctX8_isTape (x1 := x1) hc1) (va_cwS 1 hts gX8_shift_X8_isTape rfl rfl rfl (by decide +kernel) ⟨Nat.le_of_ble_eq_true rfl, Nat.le_of_ble_eq_true rfl⟩) [] rfl (by decide) rfl hl rfl (Nat.le_of_ble_eq_true rfl) dX8_shift_1 ⟨Nat.zero_le _, Nat.zero_le _⟩ rfl rfl rfl (fun H locs hP hD hS => ?_)
  refine lv_if_eq (tgt := 14) hx hb dX8_shift_4 (by decide) (fun c4 => ?_) (fun c4 => ?_)
  · replace hm := it_t c4 hm
    refine lv_iconst (v := (-1)) hx hb dX8_shift_14 (by decide) ?_
    cases hm
    exact k_iret hx hb hr hlocks hP hS dX8_shift_15
  · replace hm := it_f c4 hm
    refine lv_iload_n hx hb dX8_shift_7 rfl (lv_at hl 3 rfl) ?_
    obtain ⟨r8, hc8, hm⟩ := bd1_e hm
    refine k_callGSi (dC := dC) (dI := dI) (kc := kc) (As := [.int x3]) (rest := []) (Gs' := [wdX8 kc m_o m_now m_mind m_then m_text m_rules m_sizes m_read m_names m_letters m_begins m_words m_drifts m_above m_bodies m_trace m_sorts m_lengths m_items m_moved mnow mmind mthen mkept mtext mtexted mrules msizes mruled mread msize mat mwell mwithin msum mbear mnames mletters mbegins mwords mdrifts mabove mbodies mtrace mran msorts mlengths mitems mmoved]) hx hb hml hown hts hK hP hD hS hA (ctX8_isTape (x1 := x3) hc8) (va_cwS 1 hts gX8_shift_X8_isTape rfl rfl rfl (by decide +kernel) ⟨Nat.le_of_ble_eq_true rfl, Nat.le_of_ble_eq_true rfl⟩) [] rfl (by decide) rfl hl rfl (Nat.le_of_ble_eq_true rfl) dX8_shift_8 ⟨Nat.zero_le _, Nat.zero_le _⟩ rfl rfl rfl (fun H locs hP hD hS => ?_)
    refine lv_if_ne (tgt := 16) hx hb dX8_shift_11 (by decide) (fun c11 => ?_) (fun c11 => ?_)
    · replace hm := it_f c11 hm
      refine lv_aload_n hx hb dX8_shift_16 rfl (lv_at hl 0 rfl) ?_
      refine va_get (D := (dC, dI)) (ci := 8) (v := .ref m_sorts) (C := RX8) (T := TX8) (N := 29) hx hb hts hinX8_shift_X8 hown hK hP 0 rfl rfl 25 (by decide) (hts _ (List.mem_of_getElem? (i := 1) rfl)) (fun _ h9 => h9) rfl dX8_shift_17 ?_
      refine lv_iload_n hx hb dX8_shift_20 rfl (lv_at hl 1 rfl) ?_
      obtain ⟨hg21, hm⟩ := gd_e hm
      refine k_iald (D := (dC, dI)) hx hb hK hP 16 1 rfl rfl (k := x1.toNatClampNeg) rfl hg21 dX8_shift_21 ?_
      refine lv_if_lt (tgt := 34) hx hb dX8_shift_22 (by decide) (fun c22 => ?_) (fun c22 => ?_)
      · replace hm := it_t c22 hm
        refine lv_bipush (v := (-11)) hx hb dX8_shift_34 (by decide) ?_
        cases hm
        exact k_iret hx hb hr hlocks hP hS dX8_shift_36
      · replace hm := it_f c22 hm
        refine lv_aload_n hx hb dX8_shift_25 rfl (lv_at hl 0 rfl) ?_
        refine va_get (D := (dC, dI)) (ci := 8) (v := .ref m_sorts) (C := RX8) (T := TX8) (N := 29) hx hb hts hinX8_shift_X8 hown hK hP 0 rfl rfl 25 (by decide) (hts _ (List.mem_of_getElem? (i := 1) rfl)) (fun _ h9 => h9) rfl dX8_shift_26 ?_
        refine lv_iload_n hx hb dX8_shift_29 rfl (lv_at hl 3 rfl) ?_
        obtain ⟨hg30, hm⟩ := gd_e hm
        refine k_iald (D := (dC, dI)) hx hb hK hP 16 1 rfl rfl (k := x3.toNatClampNeg) rfl hg30 dX8_shift_30 ?_
        refine lv_if_ge (tgt := 37) hx hb dX8_shift_31 (by decide) (fun c31 => ?_) (fun c31 => ?_)
        · replace hm := it_t c31 hm
          refine lv_aload_n hx hb dX8_shift_37 rfl (lv_at hl 0 rfl) ?_
          refine va_get (D := (dC, dI)) (ci := 8) (v := .ref m_sorts) (C := RX8) (T := TX8) (N := 29) hx hb hts hinX8_shift_X8 hown hK hP 0 rfl rfl 25 (by decide) (hts _ (List.mem_of_getElem? (i := 1) rfl)) (fun _ h9 => h9) rfl dX8_shift_38 ?_
          refine lv_iload_n hx hb dX8_shift_41 rfl (lv_at hl 1 rfl) ?_
          obtain ⟨hg42, hm⟩ := gd_e hm
          refine k_iald (D := (dC, dI)) hx hb hK hP 16 1 rfl rfl (k := x1.toNatClampNeg) rfl hg42 dX8_shift_42 ?_
          refine lv_aload_n hx hb dX8_shift_43 rfl (lv_at hl 0 rfl) ?_
          refine va_get (D := (dC, dI)) (ci := 8) (v := .ref m_sorts) (C := RX8) (T := TX8) (N := 29) hx hb hts hinX8_shift_X8 hown hK hP 0 rfl rfl 25 (by decide) (hts _ (List.mem_of_getElem? (i := 1) rfl)) (fun _ h9 => h9) rfl dX8_shift_44 ?_
          refine lv_iload_n hx hb dX8_shift_47 rfl (lv_at hl 3 rfl) ?_
          obtain ⟨hg48, hm⟩ := gd_e hm
          refine k_iald (D := (dC, dI)) hx hb hK hP 16 1 rfl rfl (k := x3.toNatClampNeg) rfl hg48 dX8_shift_48 ?_
          refine lv_icmp_eq (tgt := 55) hx hb dX8_shift_49 (by decide) (fun c49 => ?_) (fun c49 => ?_)
          · replace hm := it_t c49 hm
            refine lv_iload hx hb dX8_shift_55 (lv_at hl 5 rfl) ?_
            refine lv_if_lt (tgt := 96) hx hb dX8_shift_57 (by decide) (fun c57 => ?_) (fun c57 => ?_)
            · replace hm := it_t c57 hm
              refine lv_bipush (v := (-13)) hx hb dX8_shift_96 (by decide) ?_
              cases hm
              exact k_iret hx hb hr hlocks hP hS dX8_shift_98
            · replace hm := it_f c57 hm
              refine lv_iload_n hx hb dX8_shift_60 rfl (lv_at hl 2 rfl) ?_
              refine lv_if_lt (tgt := 96) hx hb dX8_shift_61 (by decide) (fun c61 => ?_) (fun c61 => ?_)
              · replace hm := it_t c61 hm
                refine lv_bipush (v := (-13)) hx hb dX8_shift_96 (by decide) ?_
                cases hm
                exact k_iret hx hb hr hlocks hP hS dX8_shift_98
              · replace hm := it_f c61 hm
                refine lv_iload hx hb dX8_shift_64 (lv_at hl 4 rfl) ?_
                refine lv_if_lt (tgt := 96) hx hb dX8_shift_66 (by decide) (fun c66 => ?_) (fun c66 => ?_)
                · replace hm := it_t c66 hm
                  refine lv_bipush (v := (-13)) hx hb dX8_shift_96 (by decide) ?_
                  cases hm
                  exact k_iret hx hb hr hlocks hP hS dX8_shift_98
                · replace hm := it_f c66 hm
                  refine lv_iload hx hb dX8_shift_69 (lv_at hl 5 rfl) ?_
                  refine lv_aload_n hx hb dX8_shift_71 rfl (lv_at hl 0 rfl) ?_
                  refine va_get (D := (dC, dI)) (ci := 8) (v := .ref m_lengths) (C := RX8) (T := TX8) (N := 29) hx hb hts hinX8_shift_X8 hown hK hP 0 rfl rfl 26 (by decide) (hts _ (List.mem_of_getElem? (i := 2) rfl)) (fun _ h9 => h9) rfl dX8_shift_72 ?_
                  refine lv_iload_n hx hb dX8_shift_75 rfl (lv_at hl 1 rfl) ?_
                  obtain ⟨hg76, hm⟩ := gd_e hm
                  refine k_iald (D := (dC, dI)) hx hb hK hP 17 1 rfl rfl (k := x1.toNatClampNeg) rfl hg76 dX8_shift_76 ?_
                  refine lv_iload_n hx hb dX8_shift_77 rfl (lv_at hl 2 rfl) ?_
                  refine lv_isub hx hb dX8_shift_78 ?_
                  refine lv_icmp_gt (tgt := 96) hx hb dX8_shift_79 (by decide) (fun c79 => ?_) (fun c79 => ?_)
                  · replace hm := it_t c79 hm
                    refine lv_bipush (v := (-13)) hx hb dX8_shift_96 (by decide) ?_
                    cases hm
                    exact k_iret hx hb hr hlocks hP hS dX8_shift_98
                  · replace hm := it_f c79 hm
                    refine lv_iload hx hb dX8_shift_82 (lv_at hl 5 rfl) ?_
                    refine lv_aload_n hx hb dX8_shift_84 rfl (lv_at hl 0 rfl) ?_
                    refine va_get (D := (dC, dI)) (ci := 8) (v := .ref m_lengths) (C := RX8) (T := TX8) (N := 29) hx hb hts hinX8_shift_X8 hown hK hP 0 rfl rfl 26 (by decide) (hts _ (List.mem_of_getElem? (i := 2) rfl)) (fun _ h9 => h9) rfl dX8_shift_85 ?_
                    refine lv_iload_n hx hb dX8_shift_88 rfl (lv_at hl 3 rfl) ?_
                    obtain ⟨hg89, hm⟩ := gd_e hm
                    refine k_iald (D := (dC, dI)) hx hb hK hP 17 1 rfl rfl (k := x3.toNatClampNeg) rfl hg89 dX8_shift_89 ?_
                    refine lv_iload hx hb dX8_shift_90 (lv_at hl 4 rfl) ?_
                    refine lv_isub hx hb dX8_shift_92 ?_
                    refine lv_icmp_le (tgt := 99) hx hb dX8_shift_93 (by decide) (fun c93 => ?_) (fun c93 => ?_)
                    · replace hm := it_t c93 hm
                      refine lv_iconst (v := 0) hx hb dX8_shift_99 (by decide) ?_
                      refine lv_istore (lv' := [(6, .int 0), (0, .ref m_o), (1, .int x1), (2, .int x2), (3, .int x3), (4, .int x4), (5, .int x5)]) hx hb dX8_shift_100 hl (by decide) rfl (fun ls hl => ?_)
                      have hL102 : ∀ (fn : Nat) (l6_102 : Int32) (mmoved_102 : Nat → Int64), LX8_shift_102 fu mitems x1 x2 x3 x4 x5 fn l6_102 mmoved_102 = some (r, mitems', mmoved') → ∀ (H : Heap) (locs : List Loc), va_P (dC, dI) vwCl (fl [wdX8 kc m_o m_now m_mind m_then m_text m_rules m_sizes m_read m_names m_letters m_begins m_words m_drifts m_above m_bodies m_trace m_sorts m_lengths m_items m_moved mnow mmind mthen mkept mtext mtexted mrules msizes mruled mread msize mat mwell mwithin msum mbear mnames mletters mbegins mwords mdrifts mabove mbodies mtrace mran msorts mlengths mitems mmoved_102]) H → va_D A (fl [wdX8 kc m_o m_now m_mind m_then m_text m_rules m_sizes m_read m_names m_letters m_begins m_words m_drifts m_above m_bodies m_trace m_sorts m_lengths m_items m_moved mnow mmind mthen mkept mtext mtexted mrules msizes mruled mread msize mat mwell mwithin msum mbear mnames mletters mbegins mwords mdrifts mabove mbodies mtrace mran msorts mlengths mitems mmoved_102]) → va_S A s.heap H locs → ∀ ls : Array Slot, lv_has ls 7 [(0, .ref m_o), (1, .int x1), (2, .int x2), (3, .int x3), (4, .int x4), (5, .int x5), (6, .int l6_102)] → W p l e (headSpec wsX8_shift rmX8_shift).room s m [.ref m_o, .int x1, .int x2, .int x3, .int x4, .int x5].toArray below meth c H locs 0 0 (MQ below (kQi dC dI r (fl [wdX8 kc m_o m_now m_mind m_then m_text m_rules m_sizes m_read m_names m_letters m_begins m_words m_drifts m_above m_bodies m_trace m_sorts m_lengths m_items m_moved mnow mmind mthen mkept mtext mtexted mrules msizes mruled mread msize mat mwell mwithin msum mbear mnames mletters mbegins mwords mdrifts mabove mbodies mtrace mran msorts mlengths mitems' mmoved']) A) [.ref m_o, .int x1, .int x2, .int x3, .int x4, .int x5].toArray s 0 0 A) (F0 m 102 ls []) := by
                        clear hm hP hD hS hl
                        intro n102
                        induction n102 with
                        | zero => intro l6_102 mmoved_102 hm; rw [LX8_shift_102] at hm; cases hm
                        | succ n102 ih102 =>
                          intro l6_102 mmoved_102 hm H locs hP hD hS ls hl
                          rw [LX8_shift_102] at hm
                          refine lv_iload hx hb dX8_shift_102 (lv_at hl 6 rfl) ?_
                          refine lv_iload hx hb dX8_shift_104 (lv_at hl 5 rfl) ?_
                          refine lv_icmp_ge (tgt := 136) hx hb dX8_shift_106 (by decide) (fun c106 => ?_) (fun c106 => ?_)
                          · replace hm := it_t c106 hm
                            refine lv_iconst (v := 0) hx hb dX8_shift_136 (by decide) ?_
                            refine lv_istore (lv' := [(6, .int 0), (0, .ref m_o), (1, .int x1), (2, .int x2), (3, .int x3), (4, .int x4), (5, .int x5)]) hx hb dX8_shift_137 hl (by decide) rfl (fun ls hl => ?_)
                            have hL139 : ∀ (fn : Nat) (l6_139 : Int32) (mitems_139 : Nat → Int64), LX8_shift_139 x3 x4 x5 mmoved_102 fn l6_139 mitems_139 = some (r, mitems', mmoved') → ∀ (H : Heap) (locs : List Loc), va_P (dC, dI) vwCl (fl [wdX8 kc m_o m_now m_mind m_then m_text m_rules m_sizes m_read m_names m_letters m_begins m_words m_drifts m_above m_bodies m_trace m_sorts m_lengths m_items m_moved mnow mmind mthen mkept mtext mtexted mrules msizes mruled mread msize mat mwell mwithin msum mbear mnames mletters mbegins mwords mdrifts mabove mbodies mtrace mran msorts mlengths mitems_139 mmoved_102]) H → va_D A (fl [wdX8 kc m_o m_now m_mind m_then m_text m_rules m_sizes m_read m_names m_letters m_begins m_words m_drifts m_above m_bodies m_trace m_sorts m_lengths m_items m_moved mnow mmind mthen mkept mtext mtexted mrules msizes mruled mread msize mat mwell mwithin msum mbear mnames mletters mbegins mwords mdrifts mabove mbodies mtrace mran msorts mlengths mitems_139 mmoved_102]) → va_S A s.heap H locs → ∀ ls : Array Slot, lv_has ls 7 [(0, .ref m_o), (3, .int x3), (4, .int x4), (5, .int x5), (6, .int l6_139)] → W p l e (headSpec wsX8_shift rmX8_shift).room s m [.ref m_o, .int x1, .int x2, .int x3, .int x4, .int x5].toArray below meth c H locs 0 0 (MQ below (kQi dC dI r (fl [wdX8 kc m_o m_now m_mind m_then m_text m_rules m_sizes m_read m_names m_letters m_begins m_words m_drifts m_above m_bodies m_trace m_sorts m_lengths m_items m_moved mnow mmind mthen mkept mtext mtexted mrules msizes mruled mread msize mat mwell mwithin msum mbear mnames mletters mbegins mwords mdrifts mabove mbodies mtrace mran msorts mlengths mitems' mmoved']) A) [.ref m_o, .int x1, .int x2, .int x3, .int x4, .int x5].toArray s 0 0 A) (F0 m 139 ls []) := by
                              clear hm hP hD hS hl
                              intro n139
                              induction n139 with
                              | zero => intro l6_139 mitems_139 hm; rw [LX8_shift_139] at hm; cases hm
                              | succ n139 ih139 =>
                                intro l6_139 mitems_139 hm H locs hP hD hS ls hl
                                rw [LX8_shift_139] at hm
                                refine lv_iload hx hb dX8_shift_139 (lv_at hl 4 rfl) ?_
                                refine lv_iload hx hb dX8_shift_141 (lv_at hl 3 rfl) ?_
                                refine lv_icmp_ge (tgt := 174) hx hb dX8_shift_143 (by decide) (fun c143 => ?_) (fun c143 => ?_)
                                · replace hm := it_t c143 hm
                                  refine lv_iload hx hb dX8_shift_174 (lv_at hl 3 rfl) ?_
                                  cases hm
                                  exact k_iret hx hb hr hlocks hP hS dX8_shift_176
                                · replace hm := it_f c143 hm
                                  refine lv_aload_n hx hb dX8_shift_146 rfl (lv_at hl 0 rfl) ?_
                                  refine va_get (D := (dC, dI)) (ci := 8) (v := .ref m_items) (C := RX8) (T := TX8) (N := 29) hx hb hts hinX8_shift_X8 hown hK hP 0 rfl rfl 27 (by decide) (hts _ (List.mem_of_getElem? (i := 4) rfl)) (fun _ h9 => h9) rfl dX8_shift_147 ?_
                                  refine lv_bipush (v := 60) hx hb dX8_shift_150 (by decide) ?_
                                  refine lv_iload_n hx hb dX8_shift_152 rfl (lv_at hl 1 rfl) ?_
                                  refine lv_imul hx hb dX8_shift_153 ?_
                                  refine lv_iload hx hb dX8_shift_154 (lv_at hl 2 rfl) ?_
                                  refine lv_iadd hx hb dX8_shift_156 ?_
                                  refine lv_iload hx hb dX8_shift_157 (lv_at hl 4 rfl) ?_
                                  refine lv_iadd hx hb dX8_shift_159 ?_
                                  refine lv_aload_n hx hb dX8_shift_160 rfl (lv_at hl 0 rfl) ?_
                                  refine va_get (D := (dC, dI)) (ci := 8) (v := .ref m_moved) (C := RX8) (T := TX8) (N := 29) hx hb hts hinX8_shift_X8 hown hK hP 0 rfl rfl 28 (by decide) (hts _ (List.mem_of_getElem? (i := 3) rfl)) (fun _ h9 => h9) rfl dX8_shift_161 ?_
                                  refine lv_iload hx hb dX8_shift_164 (lv_at hl 4 rfl) ?_
                                  obtain ⟨hg166, hm⟩ := gd_e hm
                                  refine k_lald (D := (dC, dI)) hx hb hK hP 19 2 rfl rfl (k := l6_139.toNatClampNeg) rfl hg166 dX8_shift_166 ?_
                                  obtain ⟨hg167, hm⟩ := gd_e hm
                                  refine k_last (D := (dC, dI)) hx hb hK hP hD hS 18 2 rfl rfl (k := (((60 * x3) + x4) + l6_139).toNatClampNeg) rfl hg167 dX8_shift_167 (fun H locs hP hD hS => ?_)
                                  have hP : va_P (dC, dI) vwCl (fl [wdX8 kc m_o m_now m_mind m_then m_text m_rules m_sizes m_read m_names m_letters m_begins m_words m_drifts m_above m_bodies m_trace m_sorts m_lengths m_items m_moved mnow mmind mthen mkept mtext mtexted mrules msizes mruled mread msize mat mwell mwithin msum mbear mnames mletters mbegins mwords mdrifts mabove mbodies mtrace mran msorts mlengths (vp_updL mitems_139 ((((60 * x3) + x4) + l6_139).toNatClampNeg) (mmoved_102 (l6_139.toNatClampNeg))) mmoved_102]) H := hP
                                  have hD : va_D A (fl [wdX8 kc m_o m_now m_mind m_then m_text m_rules m_sizes m_read m_names m_letters m_begins m_words m_drifts m_above m_bodies m_trace m_sorts m_lengths m_items m_moved mnow mmind mthen mkept mtext mtexted mrules msizes mruled mread msize mat mwell mwithin msum mbear mnames mletters mbegins mwords mdrifts mabove mbodies mtrace mran msorts mlengths (vp_updL mitems_139 ((((60 * x3) + x4) + l6_139).toNatClampNeg) (mmoved_102 (l6_139.toNatClampNeg))) mmoved_102]) := hD
                                  refine lv_iinc (v := l6_139 + 1) (lv' := [(6, .int (l6_139 + 1)), (0, .ref m_o), (3, .int x3), (4, .int x4), (5, .int x5)]) hx hb dX8_shift_168 hl (k := 4) rfl rfl (by decide) rfl (fun ls hl => ?_)
                                  refine lv_goto (tgt := 139) hx hb dX8_shift_171 (by decide) ?_
                                  exact ih139 (l6_139 + 1) (vp_updL mitems_139 ((((60 * x3) + x4) + l6_139).toNatClampNeg) (mmoved_102 (l6_139.toNatClampNeg))) hm _ _ hP hD hS _ (lv_sub hl [1, 2, 3, 4, 0] rfl)
                            exact hL139 _ _ _ hm _ _ hP hD hS _ (lv_sub hl [1, 4, 5, 6, 0] rfl)
                          · replace hm := it_f c106 hm
                            refine lv_aload_n hx hb dX8_shift_109 rfl (lv_at hl 0 rfl) ?_
                            refine va_get (D := (dC, dI)) (ci := 8) (v := .ref m_moved) (C := RX8) (T := TX8) (N := 29) hx hb hts hinX8_shift_X8 hown hK hP 0 rfl rfl 28 (by decide) (hts _ (List.mem_of_getElem? (i := 3) rfl)) (fun _ h9 => h9) rfl dX8_shift_110 ?_
                            refine lv_iload hx hb dX8_shift_113 (lv_at hl 6 rfl) ?_
                            refine lv_aload_n hx hb dX8_shift_115 rfl (lv_at hl 0 rfl) ?_
                            refine va_get (D := (dC, dI)) (ci := 8) (v := .ref m_items) (C := RX8) (T := TX8) (N := 29) hx hb hts hinX8_shift_X8 hown hK hP 0 rfl rfl 27 (by decide) (hts _ (List.mem_of_getElem? (i := 4) rfl)) (fun _ h9 => h9) rfl dX8_shift_116 ?_
                            refine lv_bipush (v := 60) hx hb dX8_shift_119 (by decide) ?_
                            refine lv_iload_n hx hb dX8_shift_121 rfl (lv_at hl 1 rfl) ?_
                            refine lv_imul hx hb dX8_shift_122 ?_
                            refine lv_iload_n hx hb dX8_shift_123 rfl (lv_at hl 2 rfl) ?_
                            refine lv_iadd hx hb dX8_shift_124 ?_
                            refine lv_iload hx hb dX8_shift_125 (lv_at hl 6 rfl) ?_
                            refine lv_iadd hx hb dX8_shift_127 ?_
                            obtain ⟨hg128, hm⟩ := gd_e hm
                            refine k_lald (D := (dC, dI)) hx hb hK hP 18 2 rfl rfl (k := (((60 * x1) + x2) + l6_102).toNatClampNeg) rfl hg128 dX8_shift_128 ?_
                            obtain ⟨hg129, hm⟩ := gd_e hm
                            refine k_last (D := (dC, dI)) hx hb hK hP hD hS 19 2 rfl rfl (k := l6_102.toNatClampNeg) rfl hg129 dX8_shift_129 (fun H locs hP hD hS => ?_)
                            have hP : va_P (dC, dI) vwCl (fl [wdX8 kc m_o m_now m_mind m_then m_text m_rules m_sizes m_read m_names m_letters m_begins m_words m_drifts m_above m_bodies m_trace m_sorts m_lengths m_items m_moved mnow mmind mthen mkept mtext mtexted mrules msizes mruled mread msize mat mwell mwithin msum mbear mnames mletters mbegins mwords mdrifts mabove mbodies mtrace mran msorts mlengths mitems (vp_updL mmoved_102 (l6_102.toNatClampNeg) (mitems ((((60 * x1) + x2) + l6_102).toNatClampNeg)))]) H := hP
                            have hD : va_D A (fl [wdX8 kc m_o m_now m_mind m_then m_text m_rules m_sizes m_read m_names m_letters m_begins m_words m_drifts m_above m_bodies m_trace m_sorts m_lengths m_items m_moved mnow mmind mthen mkept mtext mtexted mrules msizes mruled mread msize mat mwell mwithin msum mbear mnames mletters mbegins mwords mdrifts mabove mbodies mtrace mran msorts mlengths mitems (vp_updL mmoved_102 (l6_102.toNatClampNeg) (mitems ((((60 * x1) + x2) + l6_102).toNatClampNeg)))]) := hD
                            refine lv_iinc (v := l6_102 + 1) (lv' := [(6, .int (l6_102 + 1)), (0, .ref m_o), (1, .int x1), (2, .int x2), (3, .int x3), (4, .int x4), (5, .int x5)]) hx hb dX8_shift_130 hl (k := 6) rfl rfl (by decide) rfl (fun ls hl => ?_)
                            refine lv_goto (tgt := 102) hx hb dX8_shift_133 (by decide) ?_
                            exact ih102 (l6_102 + 1) (vp_updL mmoved_102 (l6_102.toNatClampNeg) (mitems ((((60 * x1) + x2) + l6_102).toNatClampNeg))) hm _ _ hP hD hS _ (lv_sub hl [1, 2, 3, 4, 5, 6, 0] rfl)
                      exact hL102 _ _ _ hm _ _ hP hD hS _ (lv_sub hl [1, 2, 3, 4, 5, 6, 0] rfl)
                    · replace hm := it_f c93 hm
                      refine lv_bipush (v := (-13)) hx hb dX8_shift_96 (by decide) ?_
                      cases hm
                      exact k_iret hx hb hr hlocks hP hS dX8_shift_98
          · replace hm := it_f c49 hm
            refine lv_bipush (v := (-12)) hx hb dX8_shift_52 (by decide) ?_
            cases hm
            exact k_iret hx hb hr hlocks hP hS dX8_shift_54
        · replace hm := it_f c31 hm
          refine lv_bipush (v := (-11)) hx hb dX8_shift_34 (by decide) ?_
          cases hm
          exact k_iret hx hb hr hlocks hP hS dX8_shift_36
    · replace hm := it_t c11 hm
      refine lv_iconst (v := (-1)) hx hb dX8_shift_14 (by decide) ?_
      cases hm
      exact k_iret hx hb hr hlocks hP hS dX8_shift_15
def LX8_judge_23 (mnow : Nat → Int32) (mlengths : Nat → Int32) (mitems : Nat → Int64) (x1 : Int32) (x2 : Int32) : Nat → Int32 → Option Int32
  | 0, _ => none
  | n23 + 1, l3_23 => if (mnow 54) ≤ l3_23 then (some ((-5) : Int32)) else (if x2 < 0 then (some (100 + l3_23)) else (gd (inb x1 6) (if (lg_cmp (x2.toInt64 + l3_23.toInt64) ((mlengths (x1.toNatClampNeg)).toInt64)) < 0 then (gd (inb ((60 * x1) + ((x2.toInt64 + l3_23.toInt64).toInt32)) 360) (bd1 (fX8_number mnow l3_23 2) (fun r79 => if (lg_cmp (mitems (((60 * x1) + ((x2.toInt64 + l3_23.toInt64).toInt32)).toNatClampNeg)) r79.toInt64) = 0 then (LX8_judge_23 mnow mlengths mitems x1 x2 n23 (l3_23 + 1)) else (some l3_23)))) else (some (100 + l3_23)))))
def fX8_judge (fu : Nat) (mnow : Nat → Int32) (msorts : Nat → Int32) (mlengths : Nat → Int32) (mitems : Nat → Int64) (x1 : Int32) (x2 : Int32) : Option Int32 := bd1 (fX8_isTape x1) (fun r1 => if r1 = 0 then (some ((-1) : Int32)) else (gd (inb x1 6) (if (msorts (x1.toNatClampNeg)) ≤ 0 then (LX8_judge_23 mnow mlengths mitems x1 x2 fu 0) else (some ((-12) : Int32)))))
theorem hinX8_judge_X8 : ∀ w ∈ u_ws RX8 TX8 29, w ∈ wsX8_judge := fun _ h => List.mem_cons_of_mem _ (List.mem_append_right _ h)
abbrev rmX8_judge : Room := { frames := 2, cells := 0, slots := 0, locals := 54 }
set_option maxHeartbeats 4000000 in
set_option maxRecDepth 100000 in
theorem ctX8_judge {l : Launch} {dC : Nat → ClassId} {dI : Nat → Nat → Nat} {kc : Nat → ClassId} {m_o m_now m_mind m_then m_text m_rules m_sizes m_read m_names m_letters m_begins m_words m_drifts m_above m_bodies m_trace m_sorts m_lengths m_items m_moved : Nat} {mnow : Nat → Int32} {mmind : Nat → Int32} {mthen : Nat → Int32} {mkept : Int32} {mtext : Nat → Int32} {mtexted : Int32} {mrules : Nat → Int32} {msizes : Nat → Int32} {mruled : Int32} {mread : Nat → Int32} {msize : Int32} {mat : Int32} {mwell : Int32} {mwithin : Int32} {msum : Int32} {mbear : Int32} {mnames : Nat → Int32} {mletters : Nat → Int32} {mbegins : Nat → Int32} {mwords : Nat → Int32} {mdrifts : Nat → Int32} {mabove : Nat → Int32} {mbodies : Nat → Int32} {mtrace : Nat → Int32} {mran : Int32} {msorts : Nat → Int32} {mlengths : Nat → Int32} {mitems : Nat → Int64} {mmoved : Nat → Int64} {x1 : Int32} {x2 : Int32} {fu : Nat} {r : Int32} (hm : fX8_judge fu mnow msorts mlengths mitems x1 x2 = some r) : ∀ sz : Nat, Met l yX8_judge wsX8_judge rmX8_judge (kPc dC dI kc [.ref m_o, .int x1, .int x2] (fl [wdX8 kc m_o m_now m_mind m_then m_text m_rules m_sizes m_read m_names m_letters m_begins m_words m_drifts m_above m_bodies m_trace m_sorts m_lengths m_items m_moved mnow mmind mthen mkept mtext mtexted mrules msizes mruled mread msize mat mwell mwithin msum mbear mnames mletters mbegins mwords mdrifts mabove mbodies mtrace mran msorts mlengths mitems mmoved]) sz) (kQi dC dI r (fl [wdX8 kc m_o m_now m_mind m_then m_text m_rules m_sizes m_read m_names m_letters m_begins m_words m_drifts m_above m_bodies m_trace m_sorts m_lengths m_items m_moved mnow mmind mthen mkept mtext mtexted mrules msizes mruled mread msize mat mwell mwithin msum mbear mnames mletters mbegins mwords mdrifts mabove mbodies mtrace mran msorts mlengths mitems mmoved]) (va_A (fl [wdX8 kc m_o m_now m_mind m_then m_text m_rules m_sizes m_read m_names m_letters m_begins m_words m_drifts m_above m_bodies m_trace m_sorts m_lengths m_items m_moved mnow mmind mthen mkept mtext mtexted mrules msizes mruled mread msize mat mwell mwithin msum mbear mnames mletters mbegins mwords mdrifts mabove mbodies mtrace mran msorts mlengths mitems mmoved]) sz)) 0 0 (va_A (fl [wdX8 kc m_o m_now m_mind m_then m_text m_rules m_sizes m_read m_names m_letters m_begins m_words m_drifts m_above m_bodies m_trace m_sorts m_lengths m_items m_moved mnow mmind mthen mkept mtext mtexted mrules msizes mruled mread msize mat mwell mwithin msum mbear mnames mletters mbegins mwords mdrifts mabove mbodies mtrace mran msorts mlengths mitems mmoved]) sz) := by
  intro sz
  refine kMet (cc := cX8_judge) (maxL := 6) (ret := (some .int)) (Qf := fun A => kQi dC dI r (fl [wdX8 kc m_o m_now m_mind m_then m_text m_rules m_sizes m_read m_names m_letters m_begins m_words m_drifts m_above m_bodies m_trace m_sorts m_lengths m_items m_moved mnow mmind mthen mkept mtext mtexted mrules msizes mruled mread msize mat mwell mwithin msum mbear mnames mletters mbegins mwords mdrifts mabove mbodies mtrace mran msorts mlengths mitems mmoved]) A) (by decide) rfl (Nat.le_of_ble_eq_true rfl) ?_
  intro p e s m below meth c A ls hx hb hr hml hts hown hlocks hname hsz hA hP hK hD hl
  have hS : va_S A s.heap s.heap [] := va_S.rf
  have hl : lv_has ls 6 [(0, .ref m_o), (1, .int x1), (2, .int x2)] := hl
  unfold fX8_judge at hm
  refine lv_iload_n hx hb dX8_judge_0 rfl (lv_at hl 1 rfl) ?_
  obtain ⟨r1, hc1, hm⟩ := bd1_e hm
  refine k_callGSi (dC := dC) (dI := dI) (kc := kc) (As := [.int x1]) (rest := []) (Gs' := [wdX8 kc m_o m_now m_mind m_then m_text m_rules m_sizes m_read m_names m_letters m_begins m_words m_drifts m_above m_bodies m_trace m_sorts m_lengths m_items m_moved mnow mmind mthen mkept mtext mtexted mrules msizes mruled mread msize mat mwell mwithin msum mbear mnames mletters mbegins mwords mdrifts mabove mbodies mtrace mran msorts mlengths mitems mmoved]) hx hb hml hown hts hK hP hD hS hA (ctX8_isTape (x1 := x1) hc1) (va_cwS 1 hts gX8_judge_X8_isTape rfl rfl rfl (by decide +kernel) ⟨Nat.le_of_ble_eq_true rfl, Nat.le_of_ble_eq_true rfl⟩) [] rfl (by decide) rfl hl rfl (Nat.le_of_ble_eq_true rfl) dX8_judge_1 ⟨Nat.zero_le _, Nat.zero_le _⟩ rfl rfl rfl (fun H locs hP hD hS => ?_)
  refine lv_if_ne (tgt := 9) hx hb dX8_judge_4 (by decide) (fun c4 => ?_) (fun c4 => ?_)
  · replace hm := it_f c4 hm
    refine lv_aload_n hx hb dX8_judge_9 rfl (lv_at hl 0 rfl) ?_
    refine va_get (D := (dC, dI)) (ci := 8) (v := .ref m_sorts) (C := RX8) (T := TX8) (N := 29) hx hb hts hinX8_judge_X8 hown hK hP 0 rfl rfl 25 (by decide) (hts _ (List.mem_of_getElem? (i := 1) rfl)) (fun _ h9 => h9) rfl dX8_judge_10 ?_
    refine lv_iload_n hx hb dX8_judge_13 rfl (lv_at hl 1 rfl) ?_
    obtain ⟨hg14, hm⟩ := gd_e hm
    refine k_iald (D := (dC, dI)) hx hb hK hP 16 1 rfl rfl (k := x1.toNatClampNeg) rfl hg14 dX8_judge_14 ?_
    refine lv_if_le (tgt := 21) hx hb dX8_judge_15 (by decide) (fun c15 => ?_) (fun c15 => ?_)
    · replace hm := it_t c15 hm
      refine lv_iconst (v := 0) hx hb dX8_judge_21 (by decide) ?_
      refine lv_istore_n (lv' := [(3, .int 0), (0, .ref m_o), (1, .int x1), (2, .int x2)]) hx hb dX8_judge_22 rfl hl (by decide) rfl (fun ls hl => ?_)
      have hL23 : ∀ (fn : Nat) (l3_23 : Int32), LX8_judge_23 mnow mlengths mitems x1 x2 fn l3_23 = some r → ∀ (H : Heap) (locs : List Loc), va_P (dC, dI) vwCl (fl [wdX8 kc m_o m_now m_mind m_then m_text m_rules m_sizes m_read m_names m_letters m_begins m_words m_drifts m_above m_bodies m_trace m_sorts m_lengths m_items m_moved mnow mmind mthen mkept mtext mtexted mrules msizes mruled mread msize mat mwell mwithin msum mbear mnames mletters mbegins mwords mdrifts mabove mbodies mtrace mran msorts mlengths mitems mmoved]) H → va_D A (fl [wdX8 kc m_o m_now m_mind m_then m_text m_rules m_sizes m_read m_names m_letters m_begins m_words m_drifts m_above m_bodies m_trace m_sorts m_lengths m_items m_moved mnow mmind mthen mkept mtext mtexted mrules msizes mruled mread msize mat mwell mwithin msum mbear mnames mletters mbegins mwords mdrifts mabove mbodies mtrace mran msorts mlengths mitems mmoved]) → va_S A s.heap H locs → ∀ ls : Array Slot, lv_has ls 6 [(0, .ref m_o), (1, .int x1), (2, .int x2), (3, .int l3_23)] → W p l e (headSpec wsX8_judge rmX8_judge).room s m [.ref m_o, .int x1, .int x2].toArray below meth c H locs 0 0 (MQ below (kQi dC dI r (fl [wdX8 kc m_o m_now m_mind m_then m_text m_rules m_sizes m_read m_names m_letters m_begins m_words m_drifts m_above m_bodies m_trace m_sorts m_lengths m_items m_moved mnow mmind mthen mkept mtext mtexted mrules msizes mruled mread msize mat mwell mwithin msum mbear mnames mletters mbegins mwords mdrifts mabove mbodies mtrace mran msorts mlengths mitems mmoved]) A) [.ref m_o, .int x1, .int x2].toArray s 0 0 A) (F0 m 23 ls []) := by
        clear hm hP hD hS hl
        intro n23
        induction n23 with
        | zero => intro l3_23 hm; rw [LX8_judge_23] at hm; cases hm
        | succ n23 ih23 =>
          intro l3_23 hm H locs hP hD hS ls hl
          rw [LX8_judge_23] at hm
          refine lv_iload_n hx hb dX8_judge_23 rfl (lv_at hl 3 rfl) ?_
          refine lv_aload_n hx hb dX8_judge_24 rfl (lv_at hl 0 rfl) ?_
          refine va_get (D := (dC, dI)) (ci := 8) (v := .ref m_now) (C := RX8) (T := TX8) (N := 29) hx hb hts hinX8_judge_X8 hown hK hP 0 rfl rfl 0 (by decide) (hts _ (List.mem_of_getElem? (i := 2) rfl)) (fun _ h9 => h9) rfl dX8_judge_25 ?_
          refine lv_bipush (v := 54) hx hb dX8_judge_28 (by decide) ?_
          refine k_iald (D := (dC, dI)) hx hb hK hP 1 1 rfl rfl (k := 54) (by decide) (show ¬ ((54 : Int32) < 0 ∨ 113 ≤ (54 : Int32).toNatClampNeg) from by decide) dX8_judge_30 ?_
          refine lv_icmp_ge (tgt := 95) hx hb dX8_judge_31 (by decide) (fun c31 => ?_) (fun c31 => ?_)
          · replace hm := it_t c31 hm
            refine lv_bipush (v := (-5)) hx hb dX8_judge_95 (by decide) ?_
            cases hm
            exact k_iret hx hb hr hlocks hP hS dX8_judge_97
          · replace hm := it_f c31 hm
            refine lv_iload_n hx hb dX8_judge_34 rfl (lv_at hl 2 rfl) ?_
            refine lv_i2l hx hb dX8_judge_35 rfl ?_
            refine lv_iload_n hx hb dX8_judge_36 rfl (lv_at hl 3 rfl) ?_
            refine lv_i2l hx hb dX8_judge_37 rfl ?_
            refine lv_ladd hx hb dX8_judge_38 ?_
            refine lv_lstore (lv' := [(4, .long (x2.toInt64 + l3_23.toInt64)), (0, .ref m_o), (1, .int x1), (2, .int x2), (3, .int l3_23)]) hx hb dX8_judge_39 hl (by decide) rfl (fun ls hl => ?_)
            refine lv_iload_n hx hb dX8_judge_41 rfl (lv_at hl 3 rfl) ?_
            refine lv_if_lt (tgt := 58) hx hb dX8_judge_42 (by decide) (fun c42 => ?_) (fun c42 => ?_)
            · replace hm := it_t c42 hm
              refine lv_bipush (v := 100) hx hb dX8_judge_58 (by decide) ?_
              refine lv_iload_n hx hb dX8_judge_60 rfl (lv_at hl 4 rfl) ?_
              refine lv_iadd hx hb dX8_judge_61 ?_
              cases hm
              exact k_iret hx hb hr hlocks hP hS dX8_judge_62
            · replace hm := it_f c42 hm
              refine lv_lload hx hb dX8_judge_45 (lv_at hl 0 rfl) ?_
              refine lv_aload_n hx hb dX8_judge_47 rfl (lv_at hl 1 rfl) ?_
              refine va_get (D := (dC, dI)) (ci := 8) (v := .ref m_lengths) (C := RX8) (T := TX8) (N := 29) hx hb hts hinX8_judge_X8 hown hK hP 0 rfl rfl 26 (by decide) (hts _ (List.mem_of_getElem? (i := 3) rfl)) (fun _ h9 => h9) rfl dX8_judge_48 ?_
              refine lv_iload_n hx hb dX8_judge_51 rfl (lv_at hl 2 rfl) ?_
              obtain ⟨hg52, hm⟩ := gd_e hm
              refine k_iald (D := (dC, dI)) hx hb hK hP 17 1 rfl rfl (k := x1.toNatClampNeg) rfl hg52 dX8_judge_52 ?_
              refine lv_i2l hx hb dX8_judge_53 rfl ?_
              refine W.lcmp hx hb dX8_judge_54 ?_
              refine lv_if_lt (tgt := 63) hx hb dX8_judge_55 (by decide) (fun c55 => ?_) (fun c55 => ?_)
              · replace hm := it_t c55 hm
                refine lv_aload_n hx hb dX8_judge_63 rfl (lv_at hl 1 rfl) ?_
                refine va_get (D := (dC, dI)) (ci := 8) (v := .ref m_items) (C := RX8) (T := TX8) (N := 29) hx hb hts hinX8_judge_X8 hown hK hP 0 rfl rfl 27 (by decide) (hts _ (List.mem_of_getElem? (i := 4) rfl)) (fun _ h9 => h9) rfl dX8_judge_64 ?_
                refine lv_bipush (v := 60) hx hb dX8_judge_67 (by decide) ?_
                refine lv_iload_n hx hb dX8_judge_69 rfl (lv_at hl 2 rfl) ?_
                refine lv_imul hx hb dX8_judge_70 ?_
                refine lv_lload hx hb dX8_judge_71 (lv_at hl 0 rfl) ?_
                refine lv_l2i hx hb dX8_judge_73 rfl ?_
                refine lv_iadd hx hb dX8_judge_74 ?_
                obtain ⟨hg75, hm⟩ := gd_e hm
                refine k_lald (D := (dC, dI)) hx hb hK hP 18 2 rfl rfl (k := ((60 * x1) + ((x2.toInt64 + l3_23.toInt64).toInt32)).toNatClampNeg) rfl hg75 dX8_judge_75 ?_
                refine lv_aload_n hx hb dX8_judge_76 rfl (lv_at hl 1 rfl) ?_
                refine lv_iload_n hx hb dX8_judge_77 rfl (lv_at hl 4 rfl) ?_
                refine lv_iconst (v := 2) hx hb dX8_judge_78 (by decide) ?_
                obtain ⟨r79, hc79, hm⟩ := bd1_e hm
                refine k_callGVi (dC := dC) (dI := dI) (kc := kc) (As := [.int l3_23, .int 2]) (rest := [.long (mitems (((60 * x1) + ((x2.toInt64 + l3_23.toInt64).toInt32)).toNatClampNeg))]) (Gs' := [wdX8 kc m_o m_now m_mind m_then m_text m_rules m_sizes m_read m_names m_letters m_begins m_words m_drifts m_above m_bodies m_trace m_sorts m_lengths m_items m_moved mnow mmind mthen mkept mtext mtexted mrules msizes mruled mread msize mat mwell mwithin msum mbear mnames mletters mbegins mwords mdrifts mabove mbodies mtrace mran msorts mlengths mitems mmoved]) hx hb hml hown hts hK hP hD hS hA (ctX8_number (m_o := m_o) (m_now := m_now) (m_mind := m_mind) (m_then := m_then) (m_text := m_text) (m_rules := m_rules) (m_sizes := m_sizes) (m_read := m_read) (m_names := m_names) (m_letters := m_letters) (m_begins := m_begins) (m_words := m_words) (m_drifts := m_drifts) (m_above := m_above) (m_bodies := m_bodies) (m_trace := m_trace) (m_sorts := m_sorts) (m_lengths := m_lengths) (m_items := m_items) (m_moved := m_moved) (mnow := mnow) (mmind := mmind) (mthen := mthen) (mkept := mkept) (mtext := mtext) (mtexted := mtexted) (mrules := mrules) (msizes := msizes) (mruled := mruled) (mread := mread) (msize := msize) (mat := mat) (mwell := mwell) (mwithin := mwithin) (msum := msum) (mbear := mbear) (mnames := mnames) (mletters := mletters) (mbegins := mbegins) (mwords := mwords) (mdrifts := mdrifts) (mabove := mabove) (mbodies := mbodies) (mtrace := mtrace) (mran := mran) (msorts := msorts) (mlengths := mlengths) (mitems := mitems) (mmoved := mmoved) (x1 := l3_23) (x2 := 2) hc79) (cwV 2 hts gX8_judge_X8_number rfl rfl rfl (by decide +kernel) ⟨Nat.le_of_ble_eq_true rfl, Nat.le_of_ble_eq_true rfl⟩) [0] rfl (by decide) 8 rfl rfl rfl rfl hl rfl (Nat.le_of_ble_eq_true rfl) dX8_judge_79 ⟨Nat.zero_le _, Nat.zero_le _⟩ rfl rfl rfl (fun H locs hP hD hS => ?_)
                refine lv_i2l hx hb dX8_judge_82 rfl ?_
                refine W.lcmp hx hb dX8_judge_83 ?_
                refine lv_if_eq (tgt := 89) hx hb dX8_judge_84 (by decide) (fun c84 => ?_) (fun c84 => ?_)
                · replace hm := it_t c84 hm
                  refine lv_iinc (v := l3_23 + 1) (lv' := [(3, .int (l3_23 + 1)), (4, .long (x2.toInt64 + l3_23.toInt64)), (0, .ref m_o), (1, .int x1), (2, .int x2)]) hx hb dX8_judge_89 hl (k := 4) rfl rfl (by decide) rfl (fun ls hl => ?_)
                  refine lv_goto (tgt := 23) hx hb dX8_judge_92 (by decide) ?_
                  exact ih23 (l3_23 + 1) hm _ _ hP hD hS _ (lv_sub hl [2, 3, 4, 0] rfl)
                · replace hm := it_f c84 hm
                  refine lv_iload_n hx hb dX8_judge_87 rfl (lv_at hl 4 rfl) ?_
                  cases hm
                  exact k_iret hx hb hr hlocks hP hS dX8_judge_88
              · replace hm := it_f c55 hm
                refine lv_bipush (v := 100) hx hb dX8_judge_58 (by decide) ?_
                refine lv_iload_n hx hb dX8_judge_60 rfl (lv_at hl 4 rfl) ?_
                refine lv_iadd hx hb dX8_judge_61 ?_
                cases hm
                exact k_iret hx hb hr hlocks hP hS dX8_judge_62
      exact hL23 _ _ hm _ _ hP hD hS _ (lv_sub hl [1, 2, 3, 0] rfl)
    · replace hm := it_f c15 hm
      refine lv_bipush (v := (-12)) hx hb dX8_judge_18 (by decide) ?_
      cases hm
      exact k_iret hx hb hr hlocks hP hS dX8_judge_20
  · replace hm := it_t c4 hm
    refine lv_iconst (v := (-1)) hx hb dX8_judge_7 (by decide) ?_
    cases hm
    exact k_iret hx hb hr hlocks hP hS dX8_judge_8
