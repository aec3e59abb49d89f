def LX8_many_4 (x1 : Int32) : Nat → Int32 → Int32 → Option Int32
  | 0, _, _ => none
  | n4 + 1, l1_4, l2_4 => if 4 ≤ l2_4 then (some l1_4) else (LX8_many_4 x1 n4 (l1_4 + ((x1 >>> (l2_4 &&& 31)) &&& 1)) (l2_4 + 1))
def fX8_many (fu : Nat) (x1 : Int32) : Option Int32 := LX8_many_4 x1 fu 0 0
abbrev rmX8_many : Room := { frames := 0, cells := 0, slots := 0, locals := 12 }
set_option maxHeartbeats 4000000 in
set_option maxRecDepth 100000 in
theorem ctX8_many {l : Launch} {dC : Nat → ClassId} {dI : Nat → Nat → Nat} {kc : Nat → ClassId} {x1 : Int32} {fu : Nat} {r : Int32} (hm : fX8_many fu x1 = some r) : ∀ sz : Nat, Met l yX8_many wsX8_many rmX8_many (kPc dC dI kc [.int x1] (fl []) sz) (kQi dC dI r (fl []) (va_A (fl []) sz)) 0 0 (va_A (fl []) sz) := by
  intro sz
  refine kMet (cc := cX8_many) (maxL := 3) (ret := (some .int)) (Qf := fun A => kQi dC dI r (fl []) A) (by decide) rfl (Nat.le_of_ble_eq_true rfl) ?_
  intro p e s m below meth c A ls hx hb hr hml hts hown hlocks hname hsz hA hP hK hD hl
  have hS : va_S A s.heap s.heap [] := va_S.rf
  have hl : lv_has ls 3 [(0, .int x1)] := hl
  unfold fX8_many at hm
  refine lv_iconst (v := 0) hx hb dX8_many_0 (by decide) ?_
  refine lv_istore_n (lv' := [(1, .int 0), (0, .int x1)]) hx hb dX8_many_1 rfl hl (by decide) rfl (fun ls hl => ?_)
  refine lv_iconst (v := 0) hx hb dX8_many_2 (by decide) ?_
  refine lv_istore_n (lv' := [(2, .int 0), (1, .int 0), (0, .int x1)]) hx hb dX8_many_3 rfl hl (by decide) rfl (fun ls hl => ?_)
  have hL4 : ∀ (fn : Nat) (l1_4 : Int32) (l2_4 : Int32), LX8_many_4 x1 fn l1_4 l2_4 = some r → ∀ (H : Heap) (locs : List Loc), va_P (dC, dI) vwCl (fl []) H → va_D A (fl []) → va_S A s.heap H locs → ∀ ls : Array Slot, lv_has ls 3 [(0, .int x1), (1, .int l1_4), (2, .int l2_4)] → W p l e (headSpec wsX8_many rmX8_many).room s m [.int x1].toArray below meth c H locs 0 0 (MQ below (kQi dC dI r (fl []) A) [.int x1].toArray s 0 0 A) (F0 m 4 ls []) := by
    clear hm hP hD hS hl
    intro n4
    induction n4 with
    | zero => intro l1_4 l2_4 hm; rw [LX8_many_4] at hm; cases hm
    | succ n4 ih4 =>
      intro l1_4 l2_4 hm H locs hP hD hS ls hl
      rw [LX8_many_4] at hm
      refine lv_iload_n hx hb dX8_many_4 rfl (lv_at hl 2 rfl) ?_
      refine lv_iconst (v := 4) hx hb dX8_many_5 (by decide) ?_
      refine lv_icmp_ge (tgt := 23) hx hb dX8_many_6 (by decide) (fun c6 => ?_) (fun c6 => ?_)
      · replace hm := it_t c6 hm
        refine lv_iload_n hx hb dX8_many_23 rfl (lv_at hl 1 rfl) ?_
        cases hm
        exact k_iret hx hb hr hlocks hP hS dX8_many_24
      · replace hm := it_f c6 hm
        refine lv_iload_n hx hb dX8_many_9 rfl (lv_at hl 1 rfl) ?_
        refine lv_iload_n hx hb dX8_many_10 rfl (lv_at hl 0 rfl) ?_
        refine lv_iload_n hx hb dX8_many_11 rfl (lv_at hl 2 rfl) ?_
        refine lv_ishr hx hb dX8_many_12 ?_
        refine lv_iconst (v := 1) hx hb dX8_many_13 (by decide) ?_
        refine lv_iand hx hb dX8_many_14 ?_
        refine lv_iadd hx hb dX8_many_15 ?_
        refine lv_istore_n (lv' := [(1, .int (l1_4 + ((x1 >>> (l2_4 &&& 31)) &&& 1))), (0, .int x1), (2, .int l2_4)]) hx hb dX8_many_16 rfl hl (by decide) rfl (fun ls hl => ?_)
        refine lv_iinc (v := l2_4 + 1) (lv' := [(2, .int (l2_4 + 1)), (1, .int (l1_4 + ((x1 >>> (l2_4 &&& 31)) &&& 1))), (0, .int x1)]) hx hb dX8_many_17 hl (k := 2) rfl rfl (by decide) rfl (fun ls hl => ?_)
        refine lv_goto (tgt := 4) hx hb dX8_many_20 (by decide) ?_
        exact ih4 (l1_4 + ((x1 >>> (l2_4 &&& 31)) &&& 1)) (l2_4 + 1) hm _ _ hP hD hS _ (lv_sub hl [2, 1, 0] rfl)
  exact hL4 _ _ _ hm _ _ hP hD hS _ (lv_sub hl [2, 1, 0] rfl)
def LX8_spare_59 (k : Int32 → (Nat → Int32) → Option (Int32 × (Nat → Int32) × (Nat → Int32) × (Nat → Int32) × Int32 × Int32 × Int32 × Int32 × Int32 × Int32 × (Nat → Int32) × (Nat → Int32))) (l4_11 : Int32) : Nat → Int32 → (Nat → Int32) → Option (Int32 × (Nat → Int32) × (Nat → Int32) × (Nat → Int32) × Int32 × Int32 × Int32 × Int32 × Int32 × Int32 × (Nat → Int32) × (Nat → Int32))
  | 0, _, _ => none
  | n59 + 1, l5_59, mnow_59 => if (mnow_59 55) ≤ l5_59 then (k l5_59 mnow_59) else (if ((l4_11 >>> (l5_59 &&& 31)) &&& 1) = 0 then (bd1 (fX8_holds mnow_59 l5_59 (-1) (-1)) (fun mnow_86 => LX8_spare_59 k l4_11 n59 (l5_59 + 1) mnow_86)) else (LX8_spare_59 k l4_11 n59 (l5_59 + 1) mnow_59))
def LX8_spare_11 (fu : Nat) (mrules : Nat → Int32) (msizes : Nat → Int32) (mletters : Nat → Int32) (mbegins : Nat → Int32) (mwords : Nat → Int32) (x1 : Int32) (r1 : Int32) : Nat → Int32 → Int32 → (Nat → Int32) → (Nat → Int32) → (Nat → Int32) → Int32 → Int32 → Int32 → Int32 → Int32 → Int32 → (Nat → Int32) → (Nat → Int32) → Option (Int32 × (Nat → Int32) × (Nat → Int32) × (Nat → Int32) × Int32 × Int32 × Int32 × Int32 × Int32 × Int32 × (Nat → Int32) × (Nat → Int32))
  | 0, _, _, _, _, _, _, _, _, _, _, _, _, _ => none
  | n11 + 1, l3_11, l4_11, mnow_11, mmind_11, mread_11, msize_11, mat_11, mwell_11, mwithin_11, msum_11, mbear_11, mnames_11, mdrifts_11 => if 16 ≤ l4_11 then (some (l3_11, mnow_11, mmind_11, mread_11, msize_11, mat_11, mwell_11, mwithin_11, msum_11, mbear_11, mnames_11, mdrifts_11)) else (if (l4_11 &&& (r1 ^^^ (-1))) = 0 then (if l3_11 = (-5) then (bd1 (fX8_move fu mnow_11 mmind_11) (fun mmind_53 => LX8_spare_59 (fun l5_59 mnow_59 => bd10 (fX8_steps fu mnow_59 mrules msizes mread_11 msize_11 mat_11 mwell_11 mwithin_11 msum_11 mbear_11 mnames_11 mletters mbegins mwords mdrifts_11 x1) (fun mnow_106 mread_106 msize_106 mat_106 mwell_106 mwithin_106 msum_106 mbear_106 mnames_106 mdrifts_106 => if (mnow_106 56) ≤ (mnow_59 56) then (bd1 (fX8_move fu mmind_53 mnow_106) (fun mnow_136 => LX8_spare_11 fu mrules msizes mletters mbegins mwords x1 r1 n11 l3_11 (l4_11 + 1) mnow_136 mmind_53 mread_106 msize_106 mat_106 mwell_106 mwithin_106 msum_106 mbear_106 mnames_106 mdrifts_106)) else (bd1 (fX8_move fu mmind_53 mnow_106) (fun mnow_136 => LX8_spare_11 fu mrules msizes mletters mbegins mwords x1 r1 n11 l4_11 (l4_11 + 1) mnow_136 mmind_53 mread_106 msize_106 mat_106 mwell_106 mwithin_106 msum_106 mbear_106 mnames_106 mdrifts_106)))) l4_11 fu 0 mnow_11)) else (bd1 (fX8_many fu l4_11) (fun r35 => bd1 (fX8_many fu l3_11) (fun r39 => if r39 ≤ r35 then (LX8_spare_11 fu mrules msizes mletters mbegins mwords x1 r1 n11 l3_11 (l4_11 + 1) mnow_11 mmind_11 mread_11 msize_11 mat_11 mwell_11 mwithin_11 msum_11 mbear_11 mnames_11 mdrifts_11) else (bd1 (fX8_move fu mnow_11 mmind_11) (fun mmind_53 => LX8_spare_59 (fun l5_59 mnow_59 => bd10 (fX8_steps fu mnow_59 mrules msizes mread_11 msize_11 mat_11 mwell_11 mwithin_11 msum_11 mbear_11 mnames_11 mletters mbegins mwords mdrifts_11 x1) (fun mnow_106 mread_106 msize_106 mat_106 mwell_106 mwithin_106 msum_106 mbear_106 mnames_106 mdrifts_106 => if (mnow_106 56) ≤ (mnow_59 56) then (bd1 (fX8_move fu mmind_53 mnow_106) (fun mnow_136 => LX8_spare_11 fu mrules msizes mletters mbegins mwords x1 r1 n11 l3_11 (l4_11 + 1) mnow_136 mmind_53 mread_106 msize_106 mat_106 mwell_106 mwithin_106 msum_106 mbear_106 mnames_106 mdrifts_106)) else (bd1 (fX8_move fu mmind_53 mnow_106) (fun mnow_136 => LX8_spare_11 fu mrules msizes mletters mbegins mwords x1 r1 n11 l4_11 (l4_11 + 1) mnow_136 mmind_53 mread_106 msize_106 mat_106 mwell_106 mwithin_106 msum_106 mbear_106 mnames_106 mdrifts_106)))) l4_11 fu 0 mnow_11)))))) else (LX8_spare_11 fu mrules msizes mletters mbegins mwords x1 r1 n11 l3_11 (l4_11 + 1) mnow_11 mmind_11 mread_11 msize_11 mat_11 mwell_11 mwithin_11 msum_11 mbear_11 mnames_11 mdrifts_11))
def fX8_spare (fu : Nat) (mnow : Nat → Int32) (mmind : Nat → Int32) (mrules : Nat → Int32) (msizes : Nat → Int32) (mread : Nat → Int32) (msize : Int32) (mat : Int32) (mwell : Int32) (mwithin : Int32) (msum : Int32) (mbear : Int32) (mnames : Nat → Int32) (mletters : Nat → Int32) (mbegins : Nat → Int32) (mwords : Nat → Int32) (mdrifts : Nat → Int32) (x1 : Int32) : Option (Int32 × (Nat → Int32) × (Nat → Int32) × (Nat → Int32) × Int32 × Int32 × Int32 × Int32 × Int32 × Int32 × (Nat → Int32) × (Nat → Int32)) := bd1 (fX8_helds fu mnow) (fun r1 => LX8_spare_11 fu mrules msizes mletters mbegins mwords x1 r1 fu (-5) 0 mnow mmind mread msize mat mwell mwithin msum mbear mnames mdrifts)
theorem hinX8_spare_X8 : ∀ w ∈ u_ws RX8 TX8 29, w ∈ wsX8_spare := fun _ h => List.mem_cons_of_mem _ (List.mem_append_right _ h)
abbrev rmX8_spare : Room := { frames := 260, cells := 0, slots := 0, locals := 7034 }
set_option maxHeartbeats 4000000 in
set_option maxRecDepth 100000 in
theorem ctX8_spare {l : Launch} {dC : Nat → ClassId} {dI : Nat → Nat → Nat} {kc : Nat → ClassId} {m_o m_now m_mind m_then m_text m_rules m_sizes m_read m_names m_letters m_begins m_words m_drifts m_above m_bodies m_trace m_sorts m_lengths m_items m_moved : Nat} {mnow : Nat → Int32} {mmind : Nat → Int32} {mthen : Nat → Int32} {mkept : Int32} {mtext : Nat → Int32} {mtexted : Int32} {mrules : Nat → Int32} {msizes : Nat → Int32} {mruled : Int32} {mread : Nat → Int32} {msize : Int32} {mat : Int32} {mwell : Int32} {mwithin : Int32} {msum : Int32} {mbear : Int32} {mnames : Nat → Int32} {mletters : Nat → Int32} {mbegins : Nat → Int32} {mwords : Nat → Int32} {mdrifts : Nat → Int32} {mabove : Nat → Int32} {mbodies : Nat → Int32} {mtrace : Nat → Int32} {mran : Int32} {msorts : Nat → Int32} {mlengths : Nat → Int32} {mitems : Nat → Int64} {mmoved : Nat → Int64} {x1 : Int32} {fu : Nat} {r : Int32} {mnow' : Nat → Int32} {mmind' : Nat → Int32} {mread' : Nat → Int32} {msize' : Int32} {mat' : Int32} {mwell' : Int32} {mwithin' : Int32} {msum' : Int32} {mbear' : Int32} {mnames' : Nat → Int32} {mdrifts' : Nat → Int32} (hm : fX8_spare fu mnow mmind mrules msizes mread msize mat mwell mwithin msum mbear mnames mletters mbegins mwords mdrifts x1 = some (r, mnow', mmind', mread', msize', mat', mwell', mwithin', msum', mbear', mnames', mdrifts')) : ∀ sz : Nat, Met l yX8_spare wsX8_spare rmX8_spare (kPc dC dI kc [.ref m_o, .int x1] (fl [wdX8 kc m_o m_now m_mind m_then m_text m_rules m_sizes m_read m_names m_letters m_begins m_words m_drifts m_above m_bodies m_trace m_sorts m_lengths m_items m_moved mnow mmind mthen mkept mtext mtexted mrules msizes mruled mread msize mat mwell mwithin msum mbear mnames mletters mbegins mwords mdrifts mabove mbodies mtrace mran msorts mlengths mitems mmoved]) sz) (kQi dC dI r (fl [wdX8 kc m_o m_now m_mind m_then m_text m_rules m_sizes m_read m_names m_letters m_begins m_words m_drifts m_above m_bodies m_trace m_sorts m_lengths m_items m_moved mnow' mmind' mthen mkept mtext mtexted mrules msizes mruled mread' msize' mat' mwell' mwithin' msum' mbear' mnames' mletters mbegins mwords mdrifts' mabove mbodies mtrace mran msorts mlengths mitems mmoved]) (va_A (fl [wdX8 kc m_o m_now m_mind m_then m_text m_rules m_sizes m_read m_names m_letters m_begins m_words m_drifts m_above m_bodies m_trace m_sorts m_lengths m_items m_moved mnow mmind mthen mkept mtext mtexted mrules msizes mruled mread msize mat mwell mwithin msum mbear mnames mletters mbegins mwords mdrifts mabove mbodies mtrace mran msorts mlengths mitems mmoved]) sz)) 0 0 (va_A (fl [wdX8 kc m_o m_now m_mind m_then m_text m_rules m_sizes m_read m_names m_letters m_begins m_words m_drifts m_above m_bodies m_trace m_sorts m_lengths m_items m_moved mnow mmind mthen mkept mtext mtexted mrules msizes mruled mread msize mat mwell mwithin msum mbear mnames mletters mbegins mwords mdrifts mabove mbodies mtrace mran msorts mlengths mitems mmoved]) sz) := by
  intro sz
  refine kMet (cc := cX8_spare) (maxL := 6) (ret := (some .int)) (Qf := fun A => kQi dC dI r (fl [wdX8 kc m_o m_now m_mind m_then m_text m_rules m_sizes m_read m_names m_letters m_begins m_words m_drifts m_above m_bodies m_trace m_sorts m_lengths m_items m_moved mnow' mmind' mthen mkept mtext mtexted mrules msizes mruled mread' msize' mat' mwell' mwithin' msum' mbear' mnames' mletters mbegins mwords mdrifts' mabove mbodies mtrace mran msorts mlengths mitems mmoved]) A) (by decide) rfl (Nat.le_of_ble_eq_true rfl) ?_
  intro p e s m below meth c A ls hx hb hr hml hts hown hlocks hname hsz hA hP hK hD hl
  have hS : va_S A s.heap s.heap [] := va_S.rf
  have hl : lv_has ls 6 [(0, .ref m_o), (1, .int x1)] := hl
  unfold fX8_spare at hm
  refine lv_aload_n hx hb dX8_spare_0 rfl (lv_at hl 0 rfl) ?_
  obtain ⟨r1, hc1, hm⟩ := bd1_e hm
  refine k_callGVi (dC := dC) (dI := dI) (kc := kc) (As := []) (rest := []) (Gs' := [wdX8 kc m_o m_now m_mind m_then m_text m_rules m_sizes m_read m_names m_letters m_begins m_words m_drifts m_above m_bodies m_trace m_sorts m_lengths m_items m_moved mnow mmind mthen mkept mtext mtexted mrules msizes mruled mread msize mat mwell mwithin msum mbear mnames mletters mbegins mwords mdrifts mabove mbodies mtrace mran msorts mlengths mitems mmoved]) hx hb hml hown hts hK hP hD hS hA (ctX8_helds (m_o := m_o) (m_now := m_now) (m_mind := m_mind) (m_then := m_then) (m_text := m_text) (m_rules := m_rules) (m_sizes := m_sizes) (m_read := m_read) (m_names := m_names) (m_letters := m_letters) (m_begins := m_begins) (m_words := m_words) (m_drifts := m_drifts) (m_above := m_above) (m_bodies := m_bodies) (m_trace := m_trace) (m_sorts := m_sorts) (m_lengths := m_lengths) (m_items := m_items) (m_moved := m_moved) (mnow := mnow) (mmind := mmind) (mthen := mthen) (mkept := mkept) (mtext := mtext) (mtexted := mtexted) (mrules := mrules) (msizes := msizes) (mruled := mruled) (mread := mread) (msize := msize) (mat := mat) (mwell := mwell) (mwithin := mwithin) (msum := msum) (mbear := mbear) (mnames := mnames) (mletters := mletters) (mbegins := mbegins) (mwords := mwords) (mdrifts := mdrifts) (mabove := mabove) (mbodies := mbodies) (mtrace := mtrace) (mran := mran) (msorts := msorts) (mlengths := mlengths) (mitems := mitems) (mmoved := mmoved) hc1) (cwV 0 hts gX8_spare_X8_helds rfl rfl rfl (by decide +kernel) ⟨Nat.le_of_ble_eq_true rfl, Nat.le_of_ble_eq_true rfl⟩) [0] rfl (by decide) 8 rfl rfl rfl rfl hl rfl (Nat.le_of_ble_eq_true rfl) dX8_spare_1 ⟨Nat.zero_le _, Nat.zero_le _⟩ rfl rfl rfl (fun H locs hP hD hS => ?_)
  refine lv_istore_n (lv' := [(2, .int r1), (0, .ref m_o), (1, .int x1)]) hx hb dX8_spare_4 rfl hl (by decide) rfl (fun ls hl => ?_)
  refine lv_bipush (v := (-5)) hx hb dX8_spare_5 (by decide) ?_
  refine lv_istore_n (lv' := [(3, .int (-5)), (2, .int r1), (0, .ref m_o), (1, .int x1)]) hx hb dX8_spare_7 rfl hl (by decide) rfl (fun ls hl => ?_)
  refine lv_iconst (v := 0) hx hb dX8_spare_8 (by decide) ?_
  refine lv_istore (lv' := [(4, .int 0), (3, .int (-5)), (2, .int r1), (0, .ref m_o), (1, .int x1)]) hx hb dX8_spare_9 hl (by decide) rfl (fun ls hl => ?_)
  have hL11 : ∀ (fn : Nat) (l3_11 : Int32) (l4_11 : Int32) (mnow_11 : Nat → Int32) (mmind_11 : Nat → Int32) (mread_11 : Nat → Int32) (msize_11 : Int32) (mat_11 : Int32) (mwell_11 : Int32) (mwithin_11 : Int32) (msum_11 : Int32) (mbear_11 : Int32) (mnames_11 : Nat → Int32) (mdrifts_11 : Nat → Int32), LX8_spare_11 fu mrules msizes mletters mbegins mwords x1 r1 fn l3_11 l4_11 mnow_11 mmind_11 mread_11 msize_11 mat_11 mwell_11 mwithin_11 msum_11 mbear_11 mnames_11 mdrifts_11 = some (r, mnow', mmind', mread', msize', mat', mwell', mwithin', msum', mbear', mnames', mdrifts') → ∀ (H : Heap) (locs : List Loc), va_P (dC, dI) vwCl (fl [wdX8 kc m_o m_now m_mind m_then m_text m_rules m_sizes m_read m_names m_letters m_begins m_words m_drifts m_above m_bodies m_trace m_sorts m_lengths m_items m_moved mnow_11 mmind_11 mthen mkept mtext mtexted mrules msizes mruled mread_11 msize_11 mat_11 mwell_11 mwithin_11 msum_11 mbear_11 mnames_11 mletters mbegins mwords mdrifts_11 mabove mbodies mtrace mran msorts mlengths mitems mmoved]) H → va_D A (fl [wdX8 kc m_o m_now m_mind m_then m_text m_rules m_sizes m_read m_names m_letters m_begins m_words m_drifts m_above m_bodies m_trace m_sorts m_lengths m_items m_moved mnow_11 mmind_11 mthen mkept mtext mtexted mrules msizes mruled mread_11 msize_11 mat_11 mwell_11 mwithin_11 msum_11 mbear_11 mnames_11 mletters mbegins mwords mdrifts_11 mabove mbodies mtrace mran msorts mlengths mitems mmoved]) → va_S A s.heap H locs → ∀ ls : Array Slot, lv_has ls 6 [(0, .ref m_o), (1, .int x1), (2, .int r1), (3, .int l3_11), (4, .int l4_11)] → W p l e (headSpec wsX8_spare rmX8_spare).room s m [.ref m_o, .int x1].toArray below meth c H locs 0 0 (MQ below (kQi dC dI r (fl [wdX8 kc m_o m_now m_mind m_then m_text m_rules m_sizes m_read m_names m_letters m_begins m_words m_drifts m_above m_bodies m_trace m_sorts m_lengths m_items m_moved mnow' mmind' mthen mkept mtext mtexted mrules msizes mruled mread' msize' mat' mwell' mwithin' msum' mbear' mnames' mletters mbegins mwords mdrifts' mabove mbodies mtrace mran msorts mlengths mitems mmoved]) A) [.ref m_o, .int x1].toArray s 0 0 A) (F0 m 11 ls []) := by
    clear hm hP hD hS hl
    intro n11
    induction n11 with
    | zero => intro l3_11 l4_11 mnow_11 mmind_11 mread_11 msize_11 mat_11 mwell_11 mwithin_11 msum_11 mbear_11 mnames_11 mdrifts_11 hm; rw [LX8_spare_11] at hm; cases hm
    | succ n11 ih11 =>
      intro l3_11 l4_11 mnow_11 mmind_11 mread_11 msize_11 mat_11 mwell_11 mwithin_11 msum_11 mbear_11 mnames_11 mdrifts_11 hm H locs hP hD hS ls hl
      rw [LX8_spare_11] at hm
      refine lv_iload hx hb dX8_spare_11 (lv_at hl 4 rfl) ?_
      refine lv_bipush (v := 16) hx hb dX8_spare_13 (by decide) ?_
      refine lv_icmp_ge (tgt := 145) hx hb dX8_spare_15 (by decide) (fun c15 => ?_) (fun c15 => ?_)
      · replace hm := it_t c15 hm
        refine lv_iload_n hx hb dX8_spare_145 rfl (lv_at hl 3 rfl) ?_
        cases hm
        exact k_iret hx hb hr hlocks hP hS dX8_spare_146
      · replace hm := it_f c15 hm
        refine lv_iload hx hb dX8_spare_18 (lv_at hl 4 rfl) ?_
        refine lv_iload_n hx hb dX8_spare_20 rfl (lv_at hl 2 rfl) ?_
        refine lv_iconst (v := (-1)) hx hb dX8_spare_21 (by decide) ?_
        refine lv_ixor hx hb dX8_spare_22 ?_
        refine lv_iand hx hb dX8_spare_23 ?_
        refine lv_if_ne (tgt := 139) hx hb dX8_spare_24 (by decide) (fun c24 => ?_) (fun c24 => ?_)
        · replace hm := it_f c24 hm
          refine lv_iinc (v := l4_11 + 1) (lv' := [(4, .int (l4_11 + 1)), (0, .ref m_o), (1, .int x1), (2, .int r1), (3, .int l3_11)]) hx hb dX8_spare_139 hl (k := 4) rfl rfl (by decide) rfl (fun ls hl => ?_)
          refine lv_goto (tgt := 11) hx hb dX8_spare_142 (by decide) ?_
          exact ih11 l3_11 (l4_11 + 1) mnow_11 mmind_11 mread_11 msize_11 mat_11 mwell_11 mwithin_11 msum_11 mbear_11 mnames_11 mdrifts_11 hm _ _ hP hD hS _ (lv_sub hl [1, 2, 3, 4, 0] rfl)
        · replace hm := it_t c24 hm
          refine lv_iload_n hx hb dX8_spare_27 rfl (lv_at hl 3 rfl) ?_
          refine lv_bipush (v := (-5)) hx hb dX8_spare_28 (by decide) ?_
          refine lv_icmp_eq (tgt := 45) hx hb dX8_spare_30 (by decide) (fun c30 => ?_) (fun c30 => ?_)
          · replace hm := it_t c30 hm
            refine lv_aload_n hx hb dX8_spare_45 rfl (lv_at hl 0 rfl) ?_
            refine va_get (D := (dC, dI)) (ci := 8) (v := .ref m_now) (C := RX8) (T := TX8) (N := 29) hx hb hts hinX8_spare_X8 hown hK hP 0 rfl rfl 0 (by decide) (hts _ (List.mem_of_getElem? (i := 1) rfl)) (fun _ h9 => h9) rfl dX8_spare_46 ?_
            refine lv_aload_n hx hb dX8_spare_49 rfl (lv_at hl 0 rfl) ?_
            refine va_get (D := (dC, dI)) (ci := 8) (v := .ref m_mind) (C := RX8) (T := TX8) (N := 29) hx hb hts hinX8_spare_X8 hown hK hP 0 rfl rfl 1 (by decide) (hts _ (List.mem_of_getElem? (i := 2) rfl)) (fun _ h9 => h9) rfl dX8_spare_50 ?_
            obtain ⟨mmind_53, hc53, hm⟩ := bd1_e hm
            refine k_callSv (dC := dC) (dI := dI) (kc := kc) (As := [.ref m_now, .ref m_mind]) (rest := []) (ws' := fl [wdX8 kc m_o m_now m_mind m_then m_text m_rules m_sizes m_read m_names m_letters m_begins m_words m_drifts m_above m_bodies m_trace m_sorts m_lengths m_items m_moved mnow_11 mmind_53 mthen mkept mtext mtexted mrules msizes mruled mread_11 msize_11 mat_11 mwell_11 mwithin_11 msum_11 mbear_11 mnames_11 mletters mbegins mwords mdrifts_11 mabove mbodies mtrace mran msorts mlengths mitems mmoved]) hx hb hml hown hts hK hP hD hS hA (ctX8_move (q_o := m_now) (z_o := m_mind) (qarr := mnow_11) (zarr := mmind_11) hc53) (va_cwS 2 hts gX8_spare_X8_move rfl rfl rfl (by decide +kernel) ⟨Nat.le_of_ble_eq_true rfl, Nat.le_of_ble_eq_true rfl⟩) [1, 2] rfl (by decide) rfl hl rfl (Nat.le_of_ble_eq_true rfl) dX8_spare_53 ⟨Nat.zero_le _, Nat.zero_le _⟩ rfl rfl rfl (fun H locs hP hD hS => ?_)
            refine lv_iconst (v := 0) hx hb dX8_spare_56 (by decide) ?_
            refine lv_istore (lv' := [(5, .int 0), (0, .ref m_o), (1, .int x1), (2, .int r1), (3, .int l3_11), (4, .int l4_11)]) hx hb dX8_spare_57 hl (by decide) rfl (fun ls hl => ?_)
            have hL59 : ∀ (fn : Nat) (l5_59 : Int32) (mnow_59 : Nat → Int32), LX8_spare_59 (fun l5_59 mnow_59 => bd10 (fX8_steps fu mnow_59 mrules msizes mread_11 msize_11 mat_11 mwell_11 mwithin_11 msum_11 mbear_11 mnames_11 mletters mbegins mwords mdrifts_11 x1) (fun mnow_106 mread_106 msize_106 mat_106 mwell_106 mwithin_106 msum_106 mbear_106 mnames_106 mdrifts_106 => if (mnow_106 56) ≤ (mnow_59 56) then (bd1 (fX8_move fu mmind_53 mnow_106) (fun mnow_136 => LX8_spare_11 fu mrules msizes mletters mbegins mwords x1 r1 n11 l3_11 (l4_11 + 1) mnow_136 mmind_53 mread_106 msize_106 mat_106 mwell_106 mwithin_106 msum_106 mbear_106 mnames_106 mdrifts_106)) else (bd1 (fX8_move fu mmind_53 mnow_106) (fun mnow_136 => LX8_spare_11 fu mrules msizes mletters mbegins mwords x1 r1 n11 l4_11 (l4_11 + 1) mnow_136 mmind_53 mread_106 msize_106 mat_106 mwell_106 mwithin_106 msum_106 mbear_106 mnames_106 mdrifts_106)))) l4_11 fn l5_59 mnow_59 = some (r, mnow', mmind', mread', msize', mat', mwell', mwithin', msum', mbear', mnames', mdrifts') → ∀ (H : Heap) (locs : List Loc), va_P (dC, dI) vwCl (fl [wdX8 kc m_o m_now m_mind m_then m_text m_rules m_sizes m_read m_names m_letters m_begins m_words m_drifts m_above m_bodies m_trace m_sorts m_lengths m_items m_moved mnow_59 mmind_53 mthen mkept mtext mtexted mrules msizes mruled mread_11 msize_11 mat_11 mwell_11 mwithin_11 msum_11 mbear_11 mnames_11 mletters mbegins mwords mdrifts_11 mabove mbodies mtrace mran msorts mlengths mitems mmoved]) H → va_D A (fl [wdX8 kc m_o m_now m_mind m_then m_text m_rules m_sizes m_read m_names m_letters m_begins m_words m_drifts m_above m_bodies m_trace m_sorts m_lengths m_items m_moved mnow_59 mmind_53 mthen mkept mtext mtexted mrules msizes mruled mread_11 msize_11 mat_11 mwell_11 mwithin_11 msum_11 mbear_11 mnames_11 mletters mbegins mwords mdrifts_11 mabove mbodies mtrace mran msorts mlengths mitems mmoved]) → va_S A s.heap H locs → ∀ ls : Array Slot, lv_has ls 6 [(0, .ref m_o), (1, .int x1), (2, .int r1), (3, .int l3_11), (4, .int l4_11), (5, .int l5_59)] → W p l e (headSpec wsX8_spare rmX8_spare).room s m [.ref m_o, .int x1].toArray below meth c H locs 0 0 (MQ below (kQi dC dI r (fl [wdX8 kc m_o m_now m_mind m_then m_text m_rules m_sizes m_read m_names m_letters m_begins m_words m_drifts m_above m_bodies m_trace m_sorts m_lengths m_items m_moved mnow' mmind' mthen mkept mtext mtexted mrules msizes mruled mread' msize' mat' mwell' mwithin' msum' mbear' mnames' mletters mbegins mwords mdrifts' mabove mbodies mtrace mran msorts mlengths mitems mmoved]) A) [.ref m_o, .int x1].toArray s 0 0 A) (F0 m 59 ls []) := by
              clear hm hP hD hS hl
              intro n59
              induction n59 with
              | zero => intro l5_59 mnow_59 hm; rw [LX8_spare_59] at hm; cases hm
              | succ n59 ih59 =>
                intro l5_59 mnow_59 hm H locs hP hD hS ls hl
                rw [LX8_spare_59] at hm
                refine lv_iload hx hb dX8_spare_59 (lv_at hl 5 rfl) ?_
                refine lv_aload_n hx hb dX8_spare_61 rfl (lv_at hl 0 rfl) ?_
                refine va_get (D := (dC, dI)) (ci := 8) (v := .ref m_now) (C := RX8) (T := TX8) (N := 29) hx hb hts hinX8_spare_X8 hown hK hP 0 rfl rfl 0 (by decide) (hts _ (List.mem_of_getElem? (i := 1) rfl)) (fun _ h9 => h9) rfl dX8_spare_62 ?_
                refine lv_bipush (v := 55) hx hb dX8_spare_65 (by decide) ?_
                refine k_iald (D := (dC, dI)) hx hb hK hP 1 1 rfl rfl (k := 55) (by decide) (show ¬ ((55 : Int32) < 0 ∨ 113 ≤ (55 : Int32).toNatClampNeg) from by decide) dX8_spare_67 ?_
                refine lv_icmp_ge (tgt := 95) hx hb dX8_spare_68 (by decide) (fun c68 => ?_) (fun c68 => ?_)
                · replace hm := it_t c68 hm
                  try dsimp only at hm
                  refine lv_aload_n hx hb dX8_spare_95 rfl (lv_at hl 0 rfl) ?_
                  refine va_get (D := (dC, dI)) (ci := 8) (v := .ref m_now) (C := RX8) (T := TX8) (N := 29) hx hb hts hinX8_spare_X8 hown hK hP 0 rfl rfl 0 (by decide) (hts _ (List.mem_of_getElem? (i := 1) rfl)) (fun _ h9 => h9) rfl dX8_spare_96 ?_
                  refine lv_bipush (v := 56) hx hb dX8_spare_99 (by decide) ?_
                  refine k_iald (D := (dC, dI)) hx hb hK hP 1 1 rfl rfl (k := 56) (by decide) (show ¬ ((56 : Int32) < 0 ∨ 113 ≤ (56 : Int32).toNatClampNeg) from by decide) dX8_spare_101 ?_
                  refine lv_istore (lv' := [(5, .int (mnow_59 56)), (0, .ref m_o), (1, .int x1), (2, .int r1), (3, .int l3_11), (4, .int l4_11)]) hx hb dX8_spare_102 hl (by decide) rfl (fun ls hl => ?_)
                  refine lv_aload_n hx hb dX8_spare_104 rfl (lv_at hl 1 rfl) ?_
                  refine lv_iload_n hx hb dX8_spare_105 rfl (lv_at hl 2 rfl) ?_
                  obtain ⟨mnow_106, mread_106, msize_106, mat_106, mwell_106, mwithin_106, msum_106, mbear_106, mnames_106, mdrifts_106, hc106, hm⟩ := bd10_e hm
                  refine k_callGVv (dC := dC) (dI := dI) (kc := kc) (As := [.int x1]) (rest := []) (Gs' := [wdX8 kc m_o m_now m_mind m_then m_text m_rules m_sizes m_read m_names m_letters m_begins m_words m_drifts m_above m_bodies m_trace m_sorts m_lengths m_items m_moved mnow_106 mmind_53 mthen mkept mtext mtexted mrules msizes mruled mread_106 msize_106 mat_106 mwell_106 mwithin_106 msum_106 mbear_106 mnames_106 mletters mbegins mwords mdrifts_106 mabove mbodies mtrace mran msorts mlengths mitems mmoved]) hx hb hml hown hts hK hP hD hS hA (ctX8_steps (m_o := m_o) (m_now := m_now) (m_mind := m_mind) (m_then := m_then) (m_text := m_text) (m_rules := m_rules) (m_sizes := m_sizes) (m_read := m_read) (m_names := m_names) (m_letters := m_letters) (m_begins := m_begins) (m_words := m_words) (m_drifts := m_drifts) (m_above := m_above) (m_bodies := m_bodies) (m_trace := m_trace) (m_sorts := m_sorts) (m_lengths := m_lengths) (m_items := m_items) (m_moved := m_moved) (mnow := mnow_59) (mmind := mmind_53) (mthen := mthen) (mkept := mkept) (mtext := mtext) (mtexted := mtexted) (mrules := mrules) (msizes := msizes) (mruled := mruled) (mread := mread_11) (msize := msize_11) (mat := mat_11) (mwell := mwell_11) (mwithin := mwithin_11) (msum := msum_11) (mbear := mbear_11) (mnames := mnames_11) (mletters := mletters) (mbegins := mbegins) (mwords := mwords) (mdrifts := mdrifts_11) (mabove := mabove) (mbodies := mbodies) (mtrace := mtrace) (mran := mran) (msorts := msorts) (mlengths := mlengths) (mitems := mitems) (mmoved := mmoved) (x1 := x1) hc106) (cwV 1 hts gX8_spare_X8_steps rfl rfl rfl (by decide +kernel) ⟨Nat.le_of_ble_eq_true rfl, Nat.le_of_ble_eq_true rfl⟩) [0] rfl (by decide) 8 rfl rfl rfl rfl hl rfl (Nat.le_of_ble_eq_true rfl) dX8_spare_106 ⟨Nat.zero_le _, Nat.zero_le _⟩ rfl rfl rfl (fun H locs hP hD hS => ?_)
                  refine lv_aload_n hx hb dX8_spare_109 rfl (lv_at hl 1 rfl) ?_
                  refine va_get (D := (dC, dI)) (ci := 8) (v := .ref m_now) (C := RX8) (T := TX8) (N := 29) hx hb hts hinX8_spare_X8 hown hK hP 0 rfl rfl 0 (by decide) (hts _ (List.mem_of_getElem? (i := 1) rfl)) (fun _ h9 => h9) rfl dX8_spare_110 ?_
                  refine lv_bipush (v := 56) hx hb dX8_spare_113 (by decide) ?_
                  refine k_iald (D := (dC, dI)) hx hb hK hP 1 1 rfl rfl (k := 56) (by decide) (show ¬ ((56 : Int32) < 0 ∨ 113 ≤ (56 : Int32).toNatClampNeg) from by decide) dX8_spare_115 ?_
                  refine lv_iload hx hb dX8_spare_116 (lv_at hl 0 rfl) ?_
                  refine lv_icmp_le (tgt := 126) hx hb dX8_spare_118 (by decide) (fun c118 => ?_) (fun c118 => ?_)
                  · replace hm := it_t c118 hm
                    refine lv_iload_n hx hb dX8_spare_126 rfl (lv_at hl 4 rfl) ?_
                    refine lv_istore_n (lv' := [(3, .int l3_11), (5, .int (mnow_59 56)), (0, .ref m_o), (1, .int x1), (2, .int r1), (4, .int l4_11)]) hx hb dX8_spare_127 rfl hl (by decide) rfl (fun ls hl => ?_)
                    refine lv_aload_n hx hb dX8_spare_128 rfl (lv_at hl 2 rfl) ?_
                    refine va_get (D := (dC, dI)) (ci := 8) (v := .ref m_mind) (C := RX8) (T := TX8) (N := 29) hx hb hts hinX8_spare_X8 hown hK hP 0 rfl rfl 1 (by decide) (hts _ (List.mem_of_getElem? (i := 2) rfl)) (fun _ h9 => h9) rfl dX8_spare_129 ?_
                    refine lv_aload_n hx hb dX8_spare_132 rfl (lv_at hl 2 rfl) ?_
                    refine va_get (D := (dC, dI)) (ci := 8) (v := .ref m_now) (C := RX8) (T := TX8) (N := 29) hx hb hts hinX8_spare_X8 hown hK hP 0 rfl rfl 0 (by decide) (hts _ (List.mem_of_getElem? (i := 1) rfl)) (fun _ h9 => h9) rfl dX8_spare_133 ?_
                    obtain ⟨mnow_136, hc136, hm⟩ := bd1_e hm
                    refine k_callSv (dC := dC) (dI := dI) (kc := kc) (As := [.ref m_mind, .ref m_now]) (rest := []) (ws' := fl [wdX8 kc m_o m_now m_mind m_then m_text m_rules m_sizes m_read m_names m_letters m_begins m_words m_drifts m_above m_bodies m_trace m_sorts m_lengths m_items m_moved mnow_136 mmind_53 mthen mkept mtext mtexted mrules msizes mruled mread_106 msize_106 mat_106 mwell_106 mwithin_106 msum_106 mbear_106 mnames_106 mletters mbegins mwords mdrifts_106 mabove mbodies mtrace mran msorts mlengths mitems mmoved]) hx hb hml hown hts hK hP hD hS hA (ctX8_move (q_o := m_mind) (z_o := m_now) (qarr := mmind_53) (zarr := mnow_106) hc136) (va_cwS 2 hts gX8_spare_X8_move rfl rfl rfl (by decide +kernel) ⟨Nat.le_of_ble_eq_true rfl, Nat.le_of_ble_eq_true rfl⟩) [2, 1] rfl (by decide) rfl hl rfl (Nat.le_of_ble_eq_true rfl) dX8_spare_136 ⟨Nat.zero_le _, Nat.zero_le _⟩ rfl rfl rfl (fun H locs hP hD hS => ?_)
                    refine lv_iinc (v := l4_11 + 1) (lv' := [(4, .int (l4_11 + 1)), (3, .int l3_11), (5, .int (mnow_59 56)), (0, .ref m_o), (1, .int x1), (2, .int r1)]) hx hb dX8_spare_139 hl (k := 5) rfl rfl (by decide) rfl (fun ls hl => ?_)
                    refine lv_goto (tgt := 11) hx hb dX8_spare_142 (by decide) ?_
                    exact ih11 l3_11 (l4_11 + 1) mnow_136 mmind_53 mread_106 msize_106 mat_106 mwell_106 mwithin_106 msum_106 mbear_106 mnames_106 mdrifts_106 hm _ _ hP hD hS _ (lv_sub hl [3, 4, 5, 1, 0] rfl)
                  · replace hm := it_f c118 hm
                    refine lv_iload hx hb dX8_spare_121 (lv_at hl 5 rfl) ?_
                    refine lv_goto (tgt := 127) hx hb dX8_spare_123 (by decide) ?_
                    refine lv_istore_n (lv' := [(3, .int l4_11), (5, .int (mnow_59 56)), (0, .ref m_o), (1, .int x1), (2, .int r1), (4, .int l4_11)]) hx hb dX8_spare_127 rfl hl (by decide) rfl (fun ls hl => ?_)
                    refine lv_aload_n hx hb dX8_spare_128 rfl (lv_at hl 2 rfl) ?_
                    refine va_get (D := (dC, dI)) (ci := 8) (v := .ref m_mind) (C := RX8) (T := TX8) (N := 29) hx hb hts hinX8_spare_X8 hown hK hP 0 rfl rfl 1 (by decide) (hts _ (List.mem_of_getElem? (i := 2) rfl)) (fun _ h9 => h9) rfl dX8_spare_129 ?_
                    refine lv_aload_n hx hb dX8_spare_132 rfl (lv_at hl 2 rfl) ?_
                    refine va_get (D := (dC, dI)) (ci := 8) (v := .ref m_now) (C := RX8) (T := TX8) (N := 29) hx hb hts hinX8_spare_X8 hown hK hP 0 rfl rfl 0 (by decide) (hts _ (List.mem_of_getElem? (i := 1) rfl)) (fun _ h9 => h9) rfl dX8_spare_133 ?_
                    obtain ⟨mnow_136, hc136, hm⟩ := bd1_e hm
                    refine k_callSv (dC := dC) (dI := dI) (kc := kc) (As := [.ref m_mind, .ref m_now]) (rest := []) (ws' := fl [wdX8 kc m_o m_now m_mind m_then m_text m_rules m_sizes m_read m_names m_letters m_begins m_words m_drifts m_above m_bodies m_trace m_sorts m_lengths m_items m_moved mnow_136 mmind_53 mthen mkept mtext mtexted mrules msizes mruled mread_106 msize_106 mat_106 mwell_106 mwithin_106 msum_106 mbear_106 mnames_106 mletters mbegins mwords mdrifts_106 mabove mbodies mtrace mran msorts mlengths mitems mmoved]) hx hb hml hown hts hK hP hD hS hA (ctX8_move (q_o := m_mind) (z_o := m_now) (qarr := mmind_53) (zarr := mnow_106) hc136) (va_cwS 2 hts gX8_spare_X8_move rfl rfl rfl (by decide +kernel) ⟨Nat.le_of_ble_eq_true rfl, Nat.le_of_ble_eq_true rfl⟩) [2, 1] rfl (by decide) rfl hl rfl (Nat.le_of_ble_eq_true rfl) dX8_spare_136 ⟨Nat.zero_le _, Nat.zero_le _⟩ rfl rfl rfl (fun H locs hP hD hS => ?_)
                    refine lv_iinc (v := l4_11 + 1) (lv' := [(4, .int (l4_11 + 1)), (3, .int l4_11), (5, .int (mnow_59 56)), (0, .ref m_o), (1, .int x1), (2, .int r1)]) hx hb dX8_spare_139 hl (k := 5) rfl rfl (by decide) rfl (fun ls hl => ?_)
                    refine lv_goto (tgt := 11) hx hb dX8_spare_142 (by decide) ?_
                    exact ih11 l4_11 (l4_11 + 1) mnow_136 mmind_53 mread_106 msize_106 mat_106 mwell_106 mwithin_106 msum_106 mbear_106 mnames_106 mdrifts_106 hm _ _ hP hD hS _ (lv_sub hl [3, 4, 5, 1, 0] rfl)
                · replace hm := it_f c68 hm
                  refine lv_iload hx hb dX8_spare_71 (lv_at hl 4 rfl) ?_
                  refine lv_iload hx hb dX8_spare_73 (lv_at hl 5 rfl) ?_
                  refine lv_ishr hx hb dX8_spare_75 ?_
                  refine lv_iconst (v := 1) hx hb dX8_spare_76 (by decide) ?_
                  refine lv_iand hx hb dX8_spare_77 ?_
                  refine lv_if_ne (tgt := 89) hx hb dX8_spare_78 (by decide) (fun c78 => ?_) (fun c78 => ?_)
                  · replace hm := it_f c78 hm
                    refine lv_iinc (v := l5_59 + 1) (lv' := [(5, .int (l5_59 + 1)), (0, .ref m_o), (1, .int x1), (2, .int r1), (3, .int l3_11), (4, .int l4_11)]) hx hb dX8_spare_89 hl (k := 5) rfl rfl (by decide) rfl (fun ls hl => ?_)
                    refine lv_goto (tgt := 59) hx hb dX8_spare_92 (by decide) ?_
                    exact ih59 (l5_59 + 1) mnow_59 hm _ _ hP hD hS _ (lv_sub hl [1, 2, 3, 4, 5, 0] rfl)
                  · replace hm := it_t c78 hm
                    refine lv_aload_n hx hb dX8_spare_81 rfl (lv_at hl 0 rfl) ?_
                    refine lv_iload hx hb dX8_spare_82 (lv_at hl 5 rfl) ?_
                    refine lv_iconst (v := (-1)) hx hb dX8_spare_84 (by decide) ?_
                    refine lv_iconst (v := (-1)) hx hb dX8_spare_85 (by decide) ?_
                    obtain ⟨mnow_86, hc86, hm⟩ := bd1_e hm
                    refine k_callGVv (dC := dC) (dI := dI) (kc := kc) (As := [.int l5_59, .int (-1), .int (-1)]) (rest := []) (Gs' := [wdX8 kc m_o m_now m_mind m_then m_text m_rules m_sizes m_read m_names m_letters m_begins m_words m_drifts m_above m_bodies m_trace m_sorts m_lengths m_items m_moved mnow_86 mmind_53 mthen mkept mtext mtexted mrules msizes mruled mread_11 msize_11 mat_11 mwell_11 mwithin_11 msum_11 mbear_11 mnames_11 mletters mbegins mwords mdrifts_11 mabove mbodies mtrace mran msorts mlengths mitems mmoved]) hx hb hml hown hts hK hP hD hS hA (ctX8_holds (m_o := m_o) (m_now := m_now) (m_mind := m_mind) (m_then := m_then) (m_text := m_text) (m_rules := m_rules) (m_sizes := m_sizes) (m_read := m_read) (m_names := m_names) (m_letters := m_letters) (m_begins := m_begins) (m_words := m_words) (m_drifts := m_drifts) (m_above := m_above) (m_bodies := m_bodies) (m_trace := m_trace) (m_sorts := m_sorts) (m_lengths := m_lengths) (m_items := m_items) (m_moved := m_moved) (mnow := mnow_59) (mmind := mmind_53) (mthen := mthen) (mkept := mkept) (mtext := mtext) (mtexted := mtexted) (mrules := mrules) (msizes := msizes) (mruled := mruled) (mread := mread_11) (msize := msize_11) (mat := mat_11) (mwell := mwell_11) (mwithin := mwithin_11) (msum := msum_11) (mbear := mbear_11) (mnames := mnames_11) (mletters := mletters) (mbegins := mbegins) (mwords := mwords) (mdrifts := mdrifts_11) (mabove := mabove) (mbodies := mbodies) (mtrace := mtrace) (mran := mran) (msorts := msorts) (mlengths := mlengths) (mitems := mitems) (mmoved := mmoved) (x1 := l5_59) (x2 := (-1)) (x3 := (-1)) hc86) (cwV 3 hts gX8_spare_X8_holds rfl rfl rfl (by decide +kernel) ⟨Nat.le_of_ble_eq_true rfl, Nat.le_of_ble_eq_true rfl⟩) [0] rfl (by decide) 8 rfl rfl rfl rfl hl rfl (Nat.le_of_ble_eq_true rfl) dX8_spare_86 ⟨Nat.zero_le _, Nat.zero_le _⟩ rfl rfl rfl (fun H locs hP hD hS => ?_)
                    refine lv_iinc (v := l5_59 + 1) (lv' := [(5, .int (l5_59 + 1)), (0, .ref m_o), (1, .int x1), (2, .int r1), (3, .int l3_11), (4, .int l4_11)]) hx hb dX8_spare_89 hl (k := 5) rfl rfl (by decide) rfl (fun ls hl => ?_)
                    refine lv_goto (tgt := 59) hx hb dX8_spare_92 (by decide) ?_
                    exact ih59 (l5_59 + 1) mnow_86 hm _ _ hP hD hS _ (lv_sub hl [1, 2, 3, 4, 5, 0] rfl)
            exact hL59 _ _ _ hm _ _ hP hD hS _ (lv_sub hl [1, 2, 3, 4, 5, 0] rfl)
          · replace hm := it_f c30 hm
            refine lv_iload hx hb dX8_spare_33 (lv_at hl 4 rfl) ?_
            obtain ⟨r35, hc35, hm⟩ := bd1_e hm
            refine k_callGSi (dC := dC) (dI := dI) (kc := kc) (As := [.int l4_11]) (rest := []) (Gs' := [wdX8 kc m_o m_now m_mind m_then m_text m_rules m_sizes m_read m_names m_letters m_begins m_words m_drifts m_above m_bodies m_trace m_sorts m_lengths m_items m_moved mnow_11 mmind_11 mthen mkept mtext mtexted mrules msizes mruled mread_11 msize_11 mat_11 mwell_11 mwithin_11 msum_11 mbear_11 mnames_11 mletters mbegins mwords mdrifts_11 mabove mbodies mtrace mran msorts mlengths mitems mmoved]) hx hb hml hown hts hK hP hD hS hA (ctX8_many (x1 := l4_11) hc35) (va_cwS 1 hts gX8_spare_X8_many rfl rfl rfl (by decide +kernel) ⟨Nat.le_of_ble_eq_true rfl, Nat.le_of_ble_eq_true rfl⟩) [] rfl (by decide) rfl hl rfl (Nat.le_of_ble_eq_true rfl) dX8_spare_35 ⟨Nat.zero_le _, Nat.zero_le _⟩ rfl rfl rfl (fun H locs hP hD hS => ?_)
            refine lv_iload_n hx hb dX8_spare_38 rfl (lv_at hl 3 rfl) ?_
            obtain ⟨r39, hc39, hm⟩ := bd1_e hm
            refine k_callGSi (dC := dC) (dI := dI) (kc := kc) (As := [.int l3_11]) (rest := [.int r35]) (Gs' := [wdX8 kc m_o m_now m_mind m_then m_text m_rules m_sizes m_read m_names m_letters m_begins m_words m_drifts m_above m_bodies m_trace m_sorts m_lengths m_items m_moved mnow_11 mmind_11 mthen mkept mtext mtexted mrules msizes mruled mread_11 msize_11 mat_11 mwell_11 mwithin_11 msum_11 mbear_11 mnames_11 mletters mbegins mwords mdrifts_11 mabove mbodies mtrace mran msorts mlengths mitems mmoved]) hx hb hml hown hts hK hP hD hS hA (ctX8_many (x1 := l3_11) hc39) (va_cwS 1 hts gX8_spare_X8_many rfl rfl rfl (by decide +kernel) ⟨Nat.le_of_ble_eq_true rfl, Nat.le_of_ble_eq_true rfl⟩) [] rfl (by decide) rfl hl rfl (Nat.le_of_ble_eq_true rfl) dX8_spare_39 ⟨Nat.zero_le _, Nat.zero_le _⟩ rfl rfl rfl (fun H locs hP hD hS => ?_)
            refine lv_icmp_ge (tgt := 139) hx hb dX8_spare_42 (by decide) (fun c42 => ?_) (fun c42 => ?_)
            · replace hm := it_t c42 hm
              refine lv_iinc (v := l4_11 + 1) (lv' := [(4, .int (l4_11 + 1)), (0, .ref m_o), (1, .int x1), (2, .int r1), (3, .int l3_11)]) hx hb dX8_spare_139 hl (k := 4) rfl rfl (by decide) rfl (fun ls hl => ?_)
              refine lv_goto (tgt := 11) hx hb dX8_spare_142 (by decide) ?_
              exact ih11 l3_11 (l4_11 + 1) mnow_11 mmind_11 mread_11 msize_11 mat_11 mwell_11 mwithin_11 msum_11 mbear_11 mnames_11 mdrifts_11 hm _ _ hP hD hS _ (lv_sub hl [1, 2, 3, 4, 0] rfl)
            · replace hm := it_f c42 hm
              refine lv_aload_n hx hb dX8_spare_45 rfl (lv_at hl 0 rfl) ?_
              refine va_get (D := (dC, dI)) (ci := 8) (v := .ref m_now) (C := RX8) (T := TX8) (N := 29) hx hb hts hinX8_spare_X8 hown hK hP 0 rfl rfl 0 (by decide) (hts _ (List.mem_of_getElem? (i := 1) rfl)) (fun _ h9 => h9) rfl dX8_spare_46 ?_
              refine lv_aload_n hx hb dX8_spare_49 rfl (lv_at hl 0 rfl) ?_
              refine va_get (D := (dC, dI)) (ci := 8) (v := .ref m_mind) (C := RX8) (T := TX8) (N := 29) hx hb hts hinX8_spare_X8 hown hK hP 0 rfl rfl 1 (by decide) (hts _ (List.mem_of_getElem? (i := 2) rfl)) (fun _ h9 => h9) rfl dX8_spare_50 ?_
              obtain ⟨mmind_53, hc53, hm⟩ := bd1_e hm
              refine k_callSv (dC := dC) (dI := dI) (kc := kc) (As := [.ref m_now, .ref m_mind]) (rest := []) (ws' := fl [wdX8 kc m_o m_now m_mind m_then m_text m_rules m_sizes m_read m_names m_letters m_begins m_words m_drifts m_above m_bodies m_trace m_sorts m_lengths m_items m_moved mnow_11 mmind_53 mthen mkept mtext mtexted mrules msizes mruled mread_11 msize_11 mat_11 mwell_11 mwithin_11 msum_11 mbear_11 mnames_11 mletters mbegins mwords mdrifts_11 mabove mbodies mtrace mran msorts mlengths mitems mmoved]) hx hb hml hown hts hK hP hD hS hA (ctX8_move (q_o := m_now) (z_o := m_mind) (qarr := mnow_11) (zarr := mmind_11) hc53) (va_cwS 2 hts gX8_spare_X8_move rfl rfl rfl (by decide +kernel) ⟨Nat.le_of_ble_eq_true rfl, Nat.le_of_ble_eq_true rfl⟩) [1, 2] rfl (by decide) rfl hl rfl (Nat.le_of_ble_eq_true rfl) dX8_spare_53 ⟨Nat.zero_le _, Nat.zero_le _⟩ rfl rfl rfl (fun H locs hP hD hS => ?_)
              refine lv_iconst (v := 0) hx hb dX8_spare_56 (by decide) ?_
              refine lv_istore (lv' := [(5, .int 0), (0, .ref m_o), (1, .int x1), (2, .int r1), (3, .int l3_11), (4, .int l4_11)]) hx hb dX8_spare_57 hl (by decide) rfl (fun ls hl => ?_)
              have hL59 : ∀ (fn : Nat) (l5_59 : Int32) (mnow_59 : Nat → Int32), LX8_spare_59 (fun l5_59 mnow_59 => bd10 (fX8_steps fu mnow_59 mrules msizes mread_11 msize_11 mat_11 mwell_11 mwithin_11 msum_11 mbear_11 mnames_11 mletters mbegins mwords mdrifts_11 x1) (fun mnow_106 mread_106 msize_106 mat_106 mwell_106 mwithin_106 msum_106 mbear_106 mnames_106 mdrifts_106 => if (mnow_106 56) ≤ (mnow_59 56) then (bd1 (fX8_move fu mmind_53 mnow_106) (fun mnow_136 => LX8_spare_11 fu mrules msizes mletters mbegins mwords x1 r1 n11 l3_11 (l4_11 + 1) mnow_136 mmind_53 mread_106 msize_106 mat_106 mwell_106 mwithin_106 msum_106 mbear_106 mnames_106 mdrifts_106)) else (bd1 (fX8_move fu mmind_53 mnow_106) (fun mnow_136 => LX8_spare_11 fu mrules msizes mletters mbegins mwords x1 r1 n11 l4_11 (l4_11 + 1) mnow_136 mmind_53 mread_106 msize_106 mat_106 mwell_106 mwithin_106 msum_106 mbear_106 mnames_106 mdrifts_106)))) l4_11 fn l5_59 mnow_59 = some (r, mnow', mmind', mread', msize', mat', mwell', mwithin', msum', mbear', mnames', mdrifts') → ∀ (H : Heap) (locs : List Loc), va_P (dC, dI) vwCl (fl [wdX8 kc m_o m_now m_mind m_then m_text m_rules m_sizes m_read m_names m_letters m_begins m_words m_drifts m_above m_bodies m_trace m_sorts m_lengths m_items m_moved mnow_59 mmind_53 mthen mkept mtext mtexted mrules msizes mruled mread_11 msize_11 mat_11 mwell_11 mwithin_11 msum_11 mbear_11 mnames_11 mletters mbegins mwords mdrifts_11 mabove mbodies mtrace mran msorts mlengths mitems mmoved]) H → va_D A (fl [wdX8 kc m_o m_now m_mind m_then m_text m_rules m_sizes m_read m_names m_letters m_begins m_words m_drifts m_above m_bodies m_trace m_sorts m_lengths m_items m_moved mnow_59 mmind_53 mthen mkept mtext mtexted mrules msizes mruled mread_11 msize_11 mat_11 mwell_11 mwithin_11 msum_11 mbear_11 mnames_11 mletters mbegins mwords mdrifts_11 mabove mbodies mtrace mran msorts mlengths mitems mmoved]) → va_S A s.heap H locs → ∀ ls : Array Slot, lv_has ls 6 [(0, .ref m_o), (1, .int x1), (2, .int r1), (3, .int l3_11), (4, .int l4_11), (5, .int l5_59)] → W p l e (headSpec wsX8_spare rmX8_spare).room s m [.ref m_o, .int x1].toArray below meth c H locs 0 0 (MQ below (kQi dC dI r (fl [wdX8 kc m_o m_now m_mind m_then m_text m_rules m_sizes m_read m_names m_letters m_begins m_words m_drifts m_above m_bodies m_trace m_sorts m_lengths m_items m_moved mnow' mmind' mthen mkept mtext mtexted mrules msizes mruled mread' msize' mat' mwell' mwithin' msum' mbear' mnames' mletters mbegins mwords mdrifts' mabove mbodies mtrace mran msorts mlengths mitems mmoved]) A) [.ref m_o, .int x1].toArray s 0 0 A) (F0 m 59 ls []) := by
                clear hm hP hD hS hl
                intro n59
                induction n59 with
                | zero => intro l5_59 mnow_59 hm; rw [LX8_spare_59] at hm; cases hm
                | succ n59 ih59 =>
                  intro l5_59 mnow_59 hm H locs hP hD hS ls hl
                  rw [LX8_spare_59] at hm
                  refine lv_iload hx hb dX8_spare_59 (lv_at hl 5 rfl) ?_
                  refine lv_aload_n hx hb dX8_spare_61 rfl (lv_at hl 0 rfl) ?_
                  refine va_get (D := (dC, dI)) (ci := 8) (v := .ref m_now) (C := RX8) (T := TX8) (N := 29) hx hb hts hinX8_spare_X8 hown hK hP 0 rfl rfl 0 (by decide) (hts _ (List.mem_of_getElem? (i := 1) rfl)) (fun _ h9 => h9) rfl dX8_spare_62 ?_
                  refine lv_bipush (v := 55) hx hb dX8_spare_65 (by decide) ?_
                  refine k_iald (D := (dC, dI)) hx hb hK hP 1 1 rfl rfl (k := 55) (by decide) (show ¬ ((55 : Int32) < 0 ∨ 113 ≤ (55 : Int32).toNatClampNeg) from by decide) dX8_spare_67 ?_
                  refine lv_icmp_ge (tgt := 95) hx hb dX8_spare_68 (by decide) (fun c68 => ?_) (fun c68 => ?_)
                  · replace hm := it_t c68 hm
                    try dsimp only at hm
                    refine lv_aload_n hx hb dX8_spare_95 rfl (lv_at hl 0 rfl) ?_
                    refine va_get (D := (dC, dI)) (ci := 8) (v := .ref m_now) (C := RX8) (T := TX8) (N := 29) hx hb hts hinX8_spare_X8 hown hK hP 0 rfl rfl 0 (by decide) (hts _ (List.mem_of_getElem? (i := 1) rfl)) (fun _ h9 => h9) rfl dX8_spare_96 ?_
                    refine lv_bipush (v := 56) hx hb dX8_spare_99 (by decide) ?_
                    refine k_iald (D := (dC, dI)) hx hb hK hP 1 1 rfl rfl (k := 56) (by decide) (show ¬ ((56 : Int32) < 0 ∨ 113 ≤ (56 : Int32).toNatClampNeg) from by decide) dX8_spare_101 ?_
                    refine lv_istore (lv' := [(5, .int (mnow_59 56)), (0, .ref m_o), (1, .int x1), (2, .int r1), (3, .int l3_11), (4, .int l4_11)]) hx hb dX8_spare_102 hl (by decide) rfl (fun ls hl => ?_)
                    refine lv_aload_n hx hb dX8_spare_104 rfl (lv_at hl 1 rfl) ?_
                    refine lv_iload_n hx hb dX8_spare_105 rfl (lv_at hl 2 rfl) ?_
                    obtain ⟨mnow_106, mread_106, msize_106, mat_106, mwell_106, mwithin_106, msum_106, mbear_106, mnames_106, mdrifts_106, hc106, hm⟩ := bd10_e hm
                    refine k_callGVv (dC := dC) (dI := dI) (kc := kc) (As := [.int x1]) (rest := []) (Gs' := [wdX8 kc m_o m_now m_mind m_then m_text m_rules m_sizes m_read m_names m_letters m_begins m_words m_drifts m_above m_bodies m_trace m_sorts m_lengths m_items m_moved mnow_106 mmind_53 mthen mkept mtext mtexted mrules msizes mruled mread_106 msize_106 mat_106 mwell_106 mwithin_106 msum_106 mbear_106 mnames_106 mletters mbegins mwords mdrifts_106 mabove mbodies mtrace mran msorts mlengths mitems mmoved]) hx hb hml hown hts hK hP hD hS hA (ctX8_steps (m_o := m_o) (m_now := m_now) (m_mind := m_mind) (m_then := m_then) (m_text := m_text) (m_rules := m_rules) (m_sizes := m_sizes) (m_read := m_read) (m_names := m_names) (m_letters := m_letters) (m_begins := m_begins) (m_words := m_words) (m_drifts := m_drifts) (m_above := m_above) (m_bodies := m_bodies) (m_trace := m_trace) (m_sorts := m_sorts) (m_lengths := m_lengths) (m_items := m_items) (m_moved := m_moved) (mnow := mnow_59) (mmind := mmind_53) (mthen := mthen) (mkept := mkept) (mtext := mtext) (mtexted := mtexted) (mrules := mrules) (msizes := msizes) (mruled := mruled) (mread := mread_11) (msize := msize_11) (mat := mat_11) (mwell := mwell_11) (mwithin := mwithin_11) (msum := msum_11) (mbear := mbear_11) (mnames := mnames_11) (mletters := mletters) (mbegins := mbegins) (mwords := mwords) (mdrifts := mdrifts_11) (mabove := mabove) (mbodies := mbodies) (mtrace := mtrace) (mran := mran) (msorts := msorts) (mlengths := mlengths) (mitems := mitems) (mmoved := mmoved) (x1 := x1) hc106) (cwV 1 hts gX8_spare_X8_steps rfl rfl rfl (by decide +kernel) ⟨Nat.le_of_ble_eq_true rfl, Nat.le_of_ble_eq_true rfl⟩) [0] rfl (by decide) 8 rfl rfl rfl rfl hl rfl (Nat.le_of_ble_eq_true rfl) dX8_spare_106 ⟨Nat.zero_le _, Nat.zero_le _⟩ rfl rfl rfl (fun H locs hP hD hS => ?_)
                    refine lv_aload_n hx hb dX8_spare_109 rfl (lv_at hl 1 rfl) ?_
                    refine va_get (D := (dC, dI)) (ci := 8) (v := .ref m_now) (C := RX8) (T := TX8) (N := 29) hx hb hts hinX8_spare_X8 hown hK hP 0 rfl rfl 0 (by decide) (hts _ (List.mem_of_getElem? (i := 1) rfl)) (fun _ h9 => h9) rfl dX8_spare_110 ?_
                    refine lv_bipush (v := 56) hx hb dX8_spare_113 (by decide) ?_
                    refine k_iald (D := (dC, dI)) hx hb hK hP 1 1 rfl rfl (k := 56) (by decide) (show ¬ ((56 : Int32) < 0 ∨ 113 ≤ (56 : Int32).toNatClampNeg) from by decide) dX8_spare_115 ?_
                    refine lv_iload hx hb dX8_spare_116 (lv_at hl 0 rfl) ?_
                    refine lv_icmp_le (tgt := 126) hx hb dX8_spare_118 (by decide) (fun c118 => ?_) (fun c118 => ?_)
                    · replace hm := it_t c118 hm
                      refine lv_iload_n hx hb dX8_spare_126 rfl (lv_at hl 4 rfl) ?_
                      refine lv_istore_n (lv' := [(3, .int l3_11), (5, .int (mnow_59 56)), (0, .ref m_o), (1, .int x1), (2, .int r1), (4, .int l4_11)]) hx hb dX8_spare_127 rfl hl (by decide) rfl (fun ls hl => ?_)
                      refine lv_aload_n hx hb dX8_spare_128 rfl (lv_at hl 2 rfl) ?_
                      refine va_get (D := (dC, dI)) (ci := 8) (v := .ref m_mind) (C := RX8) (T := TX8) (N := 29) hx hb hts hinX8_spare_X8 hown hK hP 0 rfl rfl 1 (by decide) (hts _ (List.mem_of_getElem? (i := 2) rfl)) (fun _ h9 => h9) rfl dX8_spare_129 ?_
                      refine lv_aload_n hx hb dX8_spare_132 rfl (lv_at hl 2 rfl) ?_
                      refine va_get (D := (dC, dI)) (ci := 8) (v := .ref m_now) (C := RX8) (T := TX8) (N := 29) hx hb hts hinX8_spare_X8 hown hK hP 0 rfl rfl 0 (by decide) (hts _ (List.mem_of_getElem? (i := 1) rfl)) (fun _ h9 => h9) rfl dX8_spare_133 ?_
                      obtain ⟨mnow_136, hc136, hm⟩ := bd1_e hm
                      refine k_callSv (dC := dC) (dI := dI) (kc := kc) (As := [.ref m_mind, .ref m_now]) (rest := []) (ws' := fl [wdX8 kc m_o m_now m_mind m_then m_text m_rules m_sizes m_read m_names m_letters m_begins m_words m_drifts m_above m_bodies m_trace m_sorts m_lengths m_items m_moved mnow_136 mmind_53 mthen mkept mtext mtexted mrules msizes mruled mread_106 msize_106 mat_106 mwell_106 mwithin_106 msum_106 mbear_106 mnames_106 mletters mbegins mwords mdrifts_106 mabove mbodies mtrace mran msorts mlengths mitems mmoved]) hx hb hml hown hts hK hP hD hS hA (ctX8_move (q_o := m_mind) (z_o := m_now) (qarr := mmind_53) (zarr := mnow_106) hc136) (va_cwS 2 hts gX8_spare_X8_move rfl rfl rfl (by decide +kernel) ⟨Nat.le_of_ble_eq_true rfl, Nat.le_of_ble_eq_true rfl⟩) [2, 1] rfl (by decide) rfl hl rfl (Nat.le_of_ble_eq_true rfl) dX8_spare_136 ⟨Nat.zero_le _, Nat.zero_le _⟩ rfl rfl rfl (fun H locs hP hD hS => ?_)
                      refine lv_iinc (v := l4_11 + 1) (lv' := [(4, .int (l4_11 + 1)), (3, .int l3_11), (5, .int (mnow_59 56)), (0, .ref m_o), (1, .int x1), (2, .int r1)]) hx hb dX8_spare_139 hl (k := 5) rfl rfl (by decide) rfl (fun ls hl => ?_)
                      refine lv_goto (tgt := 11) hx hb dX8_spare_142 (by decide) ?_
                      exact ih11 l3_11 (l4_11 + 1) mnow_136 mmind_53 mread_106 msize_106 mat_106 mwell_106 mwithin_106 msum_106 mbear_106 mnames_106 mdrifts_106 hm _ _ hP hD hS _ (lv_sub hl [3, 4, 5, 1, 0] rfl)
                    · replace hm := it_f c118 hm
                      refine lv_iload hx hb dX8_spare_121 (lv_at hl 5 rfl) ?_
                      refine lv_goto (tgt := 127) hx hb dX8_spare_123 (by decide) ?_
                      refine lv_istore_n (lv' := [(3, .int l4_11), (5, .int (mnow_59 56)), (0, .ref m_o), (1, .int x1), (2, .int r1), (4, .int l4_11)]) hx hb dX8_spare_127 rfl hl (by decide) rfl (fun ls hl => ?_)
                      refine lv_aload_n hx hb dX8_spare_128 rfl (lv_at hl 2 rfl) ?_
                      refine va_get (D := (dC, dI)) (ci := 8) (v := .ref m_mind) (C := RX8) (T := TX8) (N := 29) hx hb hts hinX8_spare_X8 hown hK hP 0 rfl rfl 1 (by decide) (hts _ (List.mem_of_getElem? (i := 2) rfl)) (fun _ h9 => h9) rfl dX8_spare_129 ?_
                      refine lv_aload_n hx hb dX8_spare_132 rfl (lv_at hl 2 rfl) ?_
                      refine va_get (D := (dC, dI)) (ci := 8) (v := .ref m_now) (C := RX8) (T := TX8) (N := 29) hx hb hts hinX8_spare_X8 hown hK hP 0 rfl rfl 0 (by decide) (hts _ (List.mem_of_getElem? (i := 1) rfl)) (fun _ h9 => h9) rfl dX8_spare_133 ?_
                      obtain ⟨mnow_136, hc136, hm⟩ := bd1_e hm
                      refine k_callSv (dC := dC) (dI := dI) (kc := kc) (As := [.ref m_mind, .ref m_now]) (rest := []) (ws' := fl [wdX8 kc m_o m_now m_mind m_then m_text m_rules m_sizes m_read m_names m_letters m_begins m_words m_drifts m_above m_bodies m_trace m_sorts m_lengths m_items m_moved mnow_136 mmind_53 mthen mkept mtext mtexted mrules msizes mruled mread_106 msize_106 mat_106 mwell_106 mwithin_106 msum_106 mbear_106 mnames_106 mletters mbegins mwords mdrifts_106 mabove mbodies mtrace mran msorts mlengths mitems mmoved]) hx hb hml hown hts hK hP hD hS hA (ctX8_move (q_o := m_mind) (z_o := m_now) (qarr := mmind_53) (zarr := mnow_106) hc136) (va_cwS 2 hts gX8_spare_X8_move rfl rfl rfl (by decide +kernel) ⟨Nat.le_of_ble_eq_true rfl, Nat.le_of_ble_eq_true rfl⟩) [2, 1] rfl (by decide) rfl hl rfl (Nat.le_of_ble_eq_true rfl) dX8_spare_136 ⟨Nat.zero_le _, Nat.zero_le _⟩ rfl rfl rfl (fun H locs hP hD hS => ?_)
                      refine lv_iinc (v := l4_11 + 1) (lv' := [(4, .int (l4_11 + 1)), (3, .int l4_11), (5, .int (mnow_59 56)), (0, .ref m_o), (1, .int x1), (2, .int r1)]) hx hb dX8_spare_139 hl (k := 5) rfl rfl (by decide) rfl (fun ls hl => ?_)
                      refine lv_goto (tgt := 11) hx hb dX8_spare_142 (by decide) ?_
                      exact ih11 l4_11 (l4_11 + 1) mnow_136 mmind_53 mread_106 msize_106 mat_106 mwell_106 mwithin_106 msum_106 mbear_106 mnames_106 mdrifts_106 hm _ _ hP hD hS _ (lv_sub hl [3, 4, 5, 1, 0] rfl)
                  · replace hm := it_f c68 hm
                    refine lv_iload hx hb dX8_spare_71 (lv_at hl 4 rfl) ?_
                    refine lv_iload hx hb dX8_spare_73 (lv_at hl 5 rfl) ?_
                    refine lv_ishr hx hb dX8_spare_75 ?_
                    refine lv_iconst (v := 1) hx hb dX8_spare_76 (by decide) ?_
                    refine lv_iand hx hb dX8_spare_77 ?_
                    refine lv_if_ne (tgt := 89) hx hb dX8_spare_78 (by decide) (fun c78 => ?_) (fun c78 => ?_)
                    · replace hm := it_f c78 hm
                      refine lv_iinc (v := l5_59 + 1) (lv' := [(5, .int (l5_59 + 1)), (0, .ref m_o), (1, .int x1), (2, .int r1), (3, .int l3_11), (4, .int l4_11)]) hx hb dX8_spare_89 hl (k := 5) rfl rfl (by decide) rfl (fun ls hl => ?_)
                      refine lv_goto (tgt := 59) hx hb dX8_spare_92 (by decide) ?_
                      exact ih59 (l5_59 + 1) mnow_59 hm _ _ hP hD hS _ (lv_sub hl [1, 2, 3, 4, 5, 0] rfl)
                    · replace hm := it_t c78 hm
                      refine lv_aload_n hx hb dX8_spare_81 rfl (lv_at hl 0 rfl) ?_
                      refine lv_iload hx hb dX8_spare_82 (lv_at hl 5 rfl) ?_
                      refine lv_iconst (v := (-1)) hx hb dX8_spare_84 (by decide) ?_
                      refine lv_iconst (v := (-1)) hx hb dX8_spare_85 (by decide) ?_
                      obtain ⟨mnow_86, hc86, hm⟩ := bd1_e hm
                      refine k_callGVv (dC := dC) (dI := dI) (kc := kc) (As := [.int l5_59, .int (-1), .int (-1)]) (rest := []) (Gs' := [wdX8 kc m_o m_now m_mind m_then m_text m_rules m_sizes m_read m_names m_letters m_begins m_words m_drifts m_above m_bodies m_trace m_sorts m_lengths m_items m_moved mnow_86 mmind_53 mthen mkept mtext mtexted mrules msizes mruled mread_11 msize_11 mat_11 mwell_11 mwithin_11 msum_11 mbear_11 mnames_11 mletters mbegins mwords mdrifts_11 mabove mbodies mtrace mran msorts mlengths mitems mmoved]) hx hb hml hown hts hK hP hD hS hA (ctX8_holds (m_o := m_o) (m_now := m_now) (m_mind := m_mind) (m_then := m_then) (m_text := m_text) (m_rules := m_rules) (m_sizes := m_sizes) (m_read := m_read) (m_names := m_names) (m_letters := m_letters) (m_begins := m_begins) (m_words := m_words) (m_drifts := m_drifts) (m_above := m_above) (m_bodies := m_bodies) (m_trace := m_trace) (m_sorts := m_sorts) (m_lengths := m_lengths) (m_items := m_items) (m_moved := m_moved) (mnow := mnow_59) (mmind := mmind_53) (mthen := mthen) (mkept := mkept) (mtext := mtext) (mtexted := mtexted) (mrules := mrules) (msizes := msizes) (mruled := mruled) (mread := mread_11) (msize := msize_11) (mat := mat_11) (mwell := mwell_11) (mwithin := mwithin_11) (msum := msum_11) (mbear := mbear_11) (mnames := mnames_11) (mletters := mletters) (mbegins := mbegins) (mwords := mwords) (mdrifts := mdrifts_11) (mabove := mabove) (mbodies := mbodies) (mtrace := mtrace) (mran := mran) (msorts := msorts) (mlengths := mlengths) (mitems := mitems) (mmoved := mmoved) (x1 := l5_59) (x2 := (-1)) (x3 := (-1)) hc86) (cwV 3 hts gX8_spare_X8_holds rfl rfl rfl (by decide +kernel) ⟨Nat.le_of_ble_eq_true rfl, Nat.le_of_ble_eq_true rfl⟩) [0] rfl (by decide) 8 rfl rfl rfl rfl hl rfl (Nat.le_of_ble_eq_true rfl) dX8_spare_86 ⟨Nat.zero_le _, Nat.zero_le _⟩ rfl rfl rfl (fun H locs hP hD hS => ?_)
                      refine lv_iinc (v := l5_59 + 1) (lv' := [(5, .int (l5_59 + 1)), (0, .ref m_o), (1, .int x1), (2, .int r1), (3, .int l3_11), (4, .int l4_11)]) hx hb dX8_spare_89 hl (k := 5) rfl rfl (by decide) rfl (fun ls hl => ?_)
                      refine lv_goto (tgt := 59) hx hb dX8_spare_92 (by decide) ?_
                      exact ih59 (l5_59 + 1) mnow_86 hm _ _ hP hD hS _ (lv_sub hl [1, 2, 3, 4, 5, 0] rfl)
              exact hL59 _ _ _ hm _ _ hP hD hS _ (lv_sub hl [1, 2, 3, 4, 5, 0] rfl)
  exact hL11 _ _ _ _ _ _ _ _ _ _ _ _ _ _ hm _ _ hP hD hS _ (lv_sub hl [3, 4, 2, 1, 0] rfl)
def fX8_best (fu : Nat) (mnow : Nat → Int32) (mmind : Nat → Int32) (mrules : Nat → Int32) (msizes : Nat → Int32) (mread : Nat → Int32) (msize : Int32) (mat : Int32) (mwell : Int32) (mwithin : Int32) (msum : Int32) (mbear : Int32) (mnames : Nat → Int32) (mletters : Nat → Int32) (mbegins : Nat → Int32) (mwords : Nat → Int32) (mdrifts : Nat → Int32) (x1 : Int32) (x2 : Int32) : Option (Int32 × (Nat → Int32) × (Nat → Int32) × (Nat → Int32) × Int32 × Int32 × Int32 × Int32 × Int32 × Int32 × (Nat → Int32) × (Nat → Int32)) := bd1 (fX8_isIn x2 0 1) (fun r3 => if r3 = 0 then (some (((-1) : Int32), mnow, mmind, mread, msize, mat, mwell, mwithin, msum, mbear, mnames, mdrifts)) else (bd1 (fX8_isIn x1 1 20) (fun r15 => if r15 = 0 then (some (((-2) : Int32), mnow, mmind, mread, msize, mat, mwell, mwithin, msum, mbear, mnames, mdrifts)) else (if x2 = 0 then (bd12 (fX8_changeOf fu mnow mmind mrules msizes mread msize mat mwell mwithin msum mbear mnames mletters mbegins mwords mdrifts x1) (fun r30 mnow_30 mmind_30 mread_30 msize_30 mat_30 mwell_30 mwithin_30 msum_30 mbear_30 mnames_30 mdrifts_30 => some (r30, mnow_30, mmind_30, mread_30, msize_30, mat_30, mwell_30, mwithin_30, msum_30, mbear_30, mnames_30, mdrifts_30))) else (bd12 (fX8_spare fu mnow mmind mrules msizes mread msize mat mwell mwithin msum mbear mnames mletters mbegins mwords mdrifts x1) (fun r38 mnow_38 mmind_38 mread_38 msize_38 mat_38 mwell_38 mwithin_38 msum_38 mbear_38 mnames_38 mdrifts_38 => some (r38, mnow_38, mmind_38, mread_38, msize_38, mat_38, mwell_38, mwithin_38, msum_38, mbear_38, mnames_38, mdrifts_38)))))))
abbrev rmX8_best : Room := { frames := 262, cells := 0, slots := 0, locals := 7083 }
set_option maxHeartbeats 4000000 in
set_option maxRecDepth 100000 in
theorem ctX8_best {l : Launch} {dC : Nat → ClassId} {dI : Nat → Nat → Nat} {kc : Nat → ClassId} {m_o m_now m_mind m_then m_text m_rules m_sizes m_read m_names m_letters m_begins m_words m_drifts m_above m_bodies m_trace m_sorts m_lengths m_items m_moved : Nat} {mnow : Nat → Int32} {mmind : Nat → Int32} {mthen : Nat → Int32} {mkept : Int32} {mtext : Nat → Int32} {mtexted : Int32} {mrules : Nat → Int32} {msizes : Nat → Int32} {mruled : Int32} {mread : Nat → Int32} {msize : Int32} {mat : Int32} {mwell : Int32} {mwithin : Int32} {msum : Int32} {mbear : Int32} {mnames : Nat → Int32} {mletters : Nat → Int32} {mbegins : Nat → Int32} {mwords : Nat → Int32} {mdrifts : Nat → Int32} {mabove : Nat → Int32} {mbodies : Nat → Int32} {mtrace : Nat → Int32} {mran : Int32} {msorts : Nat → Int32} {mlengths : Nat → Int32} {mitems : Nat → Int64} {mmoved : Nat → Int64} {x1 : Int32} {x2 : Int32} {fu : Nat} {r : Int32} {mnow' : Nat → Int32} {mmind' : Nat → Int32} {mread' : Nat → Int32} {msize' : Int32} {mat' : Int32} {mwell' : Int32} {mwithin' : Int32} {msum' : Int32} {mbear' : Int32} {mnames' : Nat → Int32} {mdrifts' : Nat → Int32} (hm : fX8_best fu mnow mmind mrules msizes mread msize mat mwell mwithin msum mbear mnames mletters mbegins mwords mdrifts x1 x2 = some (r, mnow', mmind', mread', msize', mat', mwell', mwithin', msum', mbear', mnames', mdrifts')) : ∀ sz : Nat, Met l yX8_best wsX8_best rmX8_best (kPc dC dI kc [.ref m_o, .int x1, .int x2] (fl [wdX8 kc m_o m_now m_mind m_then m_text m_rules m_sizes m_read m_names m_letters m_begins m_words m_drifts m_above m_bodies m_trace m_sorts m_lengths m_items m_moved mnow mmind mthen mkept mtext mtexted mrules msizes mruled mread msize mat mwell mwithin msum mbear mnames mletters mbegins mwords mdrifts mabove mbodies mtrace mran msorts mlengths mitems mmoved]) sz) (kQi dC dI r (fl [wdX8 kc m_o m_now m_mind m_then m_text m_rules m_sizes m_read m_names m_letters m_begins m_words m_drifts m_above m_bodies m_trace m_sorts m_lengths m_items m_moved mnow' mmind' mthen mkept mtext mtexted mrules msizes mruled mread' msize' mat' mwell' mwithin' msum' mbear' mnames' mletters mbegins mwords mdrifts' mabove mbodies mtrace mran msorts mlengths mitems mmoved]) (va_A (fl [wdX8 kc m_o m_now m_mind m_then m_text m_rules m_sizes m_read m_names m_letters m_begins m_words m_drifts m_above m_bodies m_trace m_sorts m_lengths m_items m_moved mnow mmind mthen mkept mtext mtexted mrules msizes mruled mread msize mat mwell mwithin msum mbear mnames mletters mbegins mwords mdrifts mabove mbodies mtrace mran msorts mlengths mitems mmoved]) sz)) 0 0 (va_A (fl [wdX8 kc m_o m_now m_mind m_then m_text m_rules m_sizes m_read m_names m_letters m_begins m_words m_drifts m_above m_bodies m_trace m_sorts m_lengths m_items m_moved mnow mmind mthen mkept mtext mtexted mrules msizes mruled mread msize mat mwell mwithin msum mbear mnames mletters mbegins mwords mdrifts mabove mbodies mtrace mran msorts mlengths mitems mmoved]) sz) := by
  intro sz
  refine kMet (cc := cX8_best) (maxL := 3) (ret := (some .int)) (Qf := fun A => kQi dC dI r (fl [wdX8 kc m_o m_now m_mind m_then m_text m_rules m_sizes m_read m_names m_letters m_begins m_words m_drifts m_above m_bodies m_trace m_sorts m_lengths m_items m_moved mnow' mmind' mthen mkept mtext mtexted mrules msizes mruled mread' msize' mat' mwell' mwithin' msum' mbear' mnames' mletters mbegins mwords mdrifts' mabove mbodies mtrace mran msorts mlengths mitems mmoved]) A) (by decide) rfl (Nat.le_of_ble_eq_true rfl) ?_
  intro p e s m below meth c A ls hx hb hr hml hts hown hlocks hname hsz hA hP hK hD hl
  have hS : va_S A s.heap s.heap [] := va_S.rf
  have hl : lv_has ls 3 [(0, .ref m_o), (1, .int x1), (2, .int x2)] := hl
  unfold fX8_best at hm
  refine lv_iload_n hx hb dX8_best_0 rfl (lv_at hl 2 rfl) ?_
  refine lv_iconst (v := 0) hx hb dX8_best_1 (by decide) ?_
  refine lv_iconst (v := 1) hx hb dX8_best_2 (by decide) ?_
  obtain ⟨r3, hc3, hm⟩ := bd1_e hm
  refine k_callGSi (dC := dC) (dI := dI) (kc := kc) (As := [.int x2, .int 0, .int 1]) (rest := []) (Gs' := [wdX8 kc m_o m_now m_mind m_then m_text m_rules m_sizes m_read m_names m_letters m_begins m_words m_drifts m_above m_bodies m_trace m_sorts m_lengths m_items m_moved mnow mmind mthen mkept mtext mtexted mrules msizes mruled mread msize mat mwell mwithin msum mbear mnames mletters mbegins mwords mdrifts mabove mbodies mtrace mran msorts mlengths mitems mmoved]) hx hb hml hown hts hK hP hD hS hA (ctX8_isIn (x1 := x2) (x2 := 0) (x3 := 1) hc3) (va_cwS 3 hts gX8_best_X8_isIn rfl rfl rfl (by decide +kernel) ⟨Nat.le_of_ble_eq_true rfl, Nat.le_of_ble_eq_true rfl⟩) [] rfl (by decide) rfl hl rfl (Nat.le_of_ble_eq_true rfl) dX8_best_3 ⟨Nat.zero_le _, Nat.zero_le _⟩ rfl rfl rfl (fun H locs hP hD hS => ?_)
  refine lv_if_ne (tgt := 11) hx hb dX8_best_6 (by decide) (fun c6 => ?_) (fun c6 => ?_)
  · replace hm := it_f c6 hm
    refine lv_iload_n hx hb dX8_best_11 rfl (lv_at hl 1 rfl) ?_
    refine lv_iconst (v := 1) hx hb dX8_best_12 (by decide) ?_
    refine lv_bipush (v := 20) hx hb dX8_best_13 (by decide) ?_
    obtain ⟨r15, hc15, hm⟩ := bd1_e hm
    refine k_callGSi (dC := dC) (dI := dI) (kc := kc) (As := [.int x1, .int 1, .int 20]) (rest := []) (Gs' := [wdX8 kc m_o m_now m_mind m_then m_text m_rules m_sizes m_read m_names m_letters m_begins m_words m_drifts m_above m_bodies m_trace m_sorts m_lengths m_items m_moved mnow mmind mthen mkept mtext mtexted mrules msizes mruled mread msize mat mwell mwithin msum mbear mnames mletters mbegins mwords mdrifts mabove mbodies mtrace mran msorts mlengths mitems mmoved]) hx hb hml hown hts hK hP hD hS hA (ctX8_isIn (x1 := x1) (x2 := 1) (x3 := 20) hc15) (va_cwS 3 hts gX8_best_X8_isIn rfl rfl rfl (by decide +kernel) ⟨Nat.le_of_ble_eq_true rfl, Nat.le_of_ble_eq_true rfl⟩) [] rfl (by decide) rfl hl rfl (Nat.le_of_ble_eq_true rfl) dX8_best_15 ⟨Nat.zero_le _, Nat.zero_le _⟩ rfl rfl rfl (fun H locs hP hD hS => ?_)
    refine lv_if_ne (tgt := 24) hx hb dX8_best_18 (by decide) (fun c18 => ?_) (fun c18 => ?_)
    · replace hm := it_f c18 hm
      refine lv_iload_n hx hb dX8_best_24 rfl (lv_at hl 2 rfl) ?_
      refine lv_if_ne (tgt := 36) hx hb dX8_best_25 (by decide) (fun c25 => ?_) (fun c25 => ?_)
      · replace hm := it_f c25 hm
        refine lv_aload_n hx hb dX8_best_36 rfl (lv_at hl 0 rfl) ?_
        refine lv_iload_n hx hb dX8_best_37 rfl (lv_at hl 1 rfl) ?_
        obtain ⟨r38, mnow_38, mmind_38, mread_38, msize_38, mat_38, mwell_38, mwithin_38, msum_38, mbear_38, mnames_38, mdrifts_38, hc38, hm⟩ := bd12_e hm
        refine k_callGVi (dC := dC) (dI := dI) (kc := kc) (As := [.int x1]) (rest := []) (Gs' := [wdX8 kc m_o m_now m_mind m_then m_text m_rules m_sizes m_read m_names m_letters m_begins m_words m_drifts m_above m_bodies m_trace m_sorts m_lengths m_items m_moved mnow_38 mmind_38 mthen mkept mtext mtexted mrules msizes mruled mread_38 msize_38 mat_38 mwell_38 mwithin_38 msum_38 mbear_38 mnames_38 mletters mbegins mwords mdrifts_38 mabove mbodies mtrace mran msorts mlengths mitems mmoved]) hx hb hml hown hts hK hP hD hS hA (ctX8_spare (m_o := m_o) (m_now := m_now) (m_mind := m_mind) (m_then := m_then) (m_text := m_text) (m_rules := m_rules) (m_sizes := m_sizes) (m_read := m_read) (m_names := m_names) (m_letters := m_letters) (m_begins := m_begins) (m_words := m_words) (m_drifts := m_drifts) (m_above := m_above) (m_bodies := m_bodies) (m_trace := m_trace) (m_sorts := m_sorts) (m_lengths := m_lengths) (m_items := m_items) (m_moved := m_moved) (mnow := mnow) (mmind := mmind) (mthen := mthen) (mkept := mkept) (mtext := mtext) (mtexted := mtexted) (mrules := mrules) (msizes := msizes) (mruled := mruled) (mread := mread) (msize := msize) (mat := mat) (mwell := mwell) (mwithin := mwithin) (msum := msum) (mbear := mbear) (mnames := mnames) (mletters := mletters) (mbegins := mbegins) (mwords := mwords) (mdrifts := mdrifts) (mabove := mabove) (mbodies := mbodies) (mtrace := mtrace) (mran := mran) (msorts := msorts) (mlengths := mlengths) (mitems := mitems) (mmoved := mmoved) (x1 := x1) hc38) (cwV 1 hts gX8_best_X8_spare rfl rfl rfl (by decide +kernel) ⟨Nat.le_of_ble_eq_true rfl, Nat.le_of_ble_eq_true rfl⟩) [0] rfl (by decide) 8 rfl rfl rfl rfl hl rfl (Nat.le_of_ble_eq_true rfl) dX8_best_38 ⟨Nat.zero_le _, Nat.zero_le _⟩ rfl rfl rfl (fun H locs hP hD hS => ?_)
        cases hm
        exact k_iret hx hb hr hlocks hP hS dX8_best_41
      · replace hm := it_t c25 hm
        refine lv_aload_n hx hb dX8_best_28 rfl (lv_at hl 0 rfl) ?_
        refine lv_iload_n hx hb dX8_best_29 rfl (lv_at hl 1 rfl) ?_
        obtain ⟨r30, mnow_30, mmind_30, mread_30, msize_30, mat_30, mwell_30, mwithin_30, msum_30, mbear_30, mnames_30, mdrifts_30, hc30, hm⟩ := bd12_e hm
        refine k_callGVi (dC := dC) (dI := dI) (kc := kc) (As := [.int x1]) (rest := []) (Gs' := [wdX8 kc m_o m_now m_mind m_then m_text m_rules m_sizes m_read m_names m_letters m_begins m_words m_drifts m_above m_bodies m_trace m_sorts m_lengths m_items m_moved mnow_30 mmind_30 mthen mkept mtext mtexted mrules msizes mruled mread_30 msize_30 mat_30 mwell_30 mwithin_30 msum_30 mbear_30 mnames_30 mletters mbegins mwords mdrifts_30 mabove mbodies mtrace mran msorts mlengths mitems mmoved]) hx hb hml hown hts hK hP hD hS hA (ctX8_changeOf (m_o := m_o) (m_now := m_now) (m_mind := m_mind) (m_then := m_then) (m_text := m_text) (m_rules := m_rules) (m_sizes := m_sizes) (m_read := m_read) (m_names := m_names) (m_letters := m_letters) (m_begins := m_begins) (m_words := m_words) (m_drifts := m_drifts) (m_above := m_above) (m_bodies := m_bodies) (m_trace := m_trace) (m_sorts := m_sorts) (m_lengths := m_lengths) (m_items := m_items) (m_moved := m_moved) (mnow := mnow) (mmind := mmind) (mthen := mthen) (mkept := mkept) (mtext := mtext) (mtexted := mtexted) (mrules := mrules) (msizes := msizes) (mruled := mruled) (mread := mread) (msize := msize) (mat := mat) (mwell := mwell) (mwithin := mwithin) (msum := msum) (mbear := mbear) (mnames := mnames) (mletters := mletters) (mbegins := mbegins) (mwords := mwords) (mdrifts := mdrifts) (mabove := mabove) (mbodies := mbodies) (mtrace := mtrace) (mran := mran) (msorts := msorts) (mlengths := mlengths) (mitems := mitems) (mmoved := mmoved) (x1 := x1) hc30) (cwV 1 hts gX8_best_X8_changeOf rfl rfl rfl (by decide +kernel) ⟨Nat.le_of_ble_eq_true rfl, Nat.le_of_ble_eq_true rfl⟩) [0] rfl (by decide) 8 rfl rfl rfl rfl hl rfl (Nat.le_of_ble_eq_true rfl) dX8_best_30 ⟨Nat.zero_le _, Nat.zero_le _⟩ rfl rfl rfl (fun H locs hP hD hS => ?_)
        refine lv_goto (tgt := 41) hx hb dX8_best_33 (by decide) ?_
        cases hm
        exact k_iret hx hb hr hlocks hP hS dX8_best_41
    · replace hm := it_t c18 hm
      refine lv_bipush (v := (-2)) hx hb dX8_best_21 (by decide) ?_
      cases hm
      exact k_iret hx hb hr hlocks hP hS dX8_best_23
  · replace hm := it_t c6 hm
    refine lv_iconst (v := (-1)) hx hb dX8_best_9 (by decide) ?_
    cases hm
    exact k_iret hx hb hr hlocks hP hS dX8_best_10
def fX8_see (mnow : Nat → Int32) (x1 : Int32) (x2 : Int32) (x3 : Int32) : Option (Int32 × (Nat → Int32)) := if x1 = (-1) then (some ((0 : Int32), upd mnow 59 0)) else (bd1 (fX8_isLeaf mnow x1) (fun r17 => if r17 = 0 then (some (((-1) : Int32), mnow)) else (bd1 (fX8_isIn x2 0 12) (fun r29 => if r29 = 0 then (some (((-2) : Int32), mnow)) else (if (mnow 59) = 5 then (some (((-4) : Int32), mnow)) else (gd (inb (60 + (3 * (mnow 59))) 113) (gd (inb ((60 + (3 * (mnow 59))) + 1) 113) (if x3 = 0 then (gd (inb ((60 + (3 * (mnow 59))) + 2) 113) (some ((upd (upd (upd (upd mnow ((60 + (3 * (mnow 59))).toNatClampNeg) x1) (((60 + (3 * (mnow 59))) + 1).toNatClampNeg) x2) (((60 + (3 * (mnow 59))) + 2).toNatClampNeg) 0) 59 (((upd (upd (upd mnow ((60 + (3 * (mnow 59))).toNatClampNeg) x1) (((60 + (3 * (mnow 59))) + 1).toNatClampNeg) x2) (((60 + (3 * (mnow 59))) + 2).toNatClampNeg) 0) 59) + 1)) 59, upd (upd (upd (upd mnow ((60 + (3 * (mnow 59))).toNatClampNeg) x1) (((60 + (3 * (mnow 59))) + 1).toNatClampNeg) x2) (((60 + (3 * (mnow 59))) + 2).toNatClampNeg) 0) 59 (((upd (upd (upd mnow ((60 + (3 * (mnow 59))).toNatClampNeg) x1) (((60 + (3 * (mnow 59))) + 1).toNatClampNeg) x2) (((60 + (3 * (mnow 59))) + 2).toNatClampNeg) 0) 59) + 1)))) else (gd (inb ((60 + (3 * (mnow 59))) + 2) 113) (some ((upd (upd (upd (upd mnow ((60 + (3 * (mnow 59))).toNatClampNeg) x1) (((60 + (3 * (mnow 59))) + 1).toNatClampNeg) x2) (((60 + (3 * (mnow 59))) + 2).toNatClampNeg) 1) 59 (((upd (upd (upd mnow ((60 + (3 * (mnow 59))).toNatClampNeg) x1) (((60 + (3 * (mnow 59))) + 1).toNatClampNeg) x2) (((60 + (3 * (mnow 59))) + 2).toNatClampNeg) 1) 59) + 1)) 59, upd (upd (upd (upd mnow ((60 + (3 * (mnow 59))).toNatClampNeg) x1) (((60 + (3 * (mnow 59))) + 1).toNatClampNeg) x2) (((60 + (3 * (mnow 59))) + 2).toNatClampNeg) 1) 59 (((upd (upd (upd mnow ((60 + (3 * (mnow 59))).toNatClampNeg) x1) (((60 + (3 * (mnow 59))) + 1).toNatClampNeg) x2) (((60 + (3 * (mnow 59))) + 2).toNatClampNeg) 1) 59) + 1))))))))))))
theorem hinX8_see_X8 : ∀ w ∈ u_ws RX8 TX8 29, w ∈ wsX8_see := fun _ h => List.mem_cons_of_mem _ (List.mem_append_right _ h)
abbrev rmX8_see : Room := { frames := 2, cells := 0, slots := 0, locals := 55 }
set_option maxHeartbeats 4000000 in
set_option maxRecDepth 100000 in
theorem ctX8_see {l : Launch} {dC : Nat → ClassId} {dI : Nat → Nat → Nat} {kc : Nat → ClassId} {m_o m_now m_mind m_then m_text m_rules m_sizes m_read m_names m_letters m_begins m_words m_drifts m_above m_bodies m_trace m_sorts m_lengths m_items m_moved : Nat} {mnow : Nat → Int32} {mmind : Nat → Int32} {mthen : Nat → Int32} {mkept : Int32} {mtext : Nat → Int32} {mtexted : Int32} {mrules : Nat → Int32} {msizes : Nat → Int32} {mruled : Int32} {mread : Nat → Int32} {msize : Int32} {mat : Int32} {mwell : Int32} {mwithin : Int32} {msum : Int32} {mbear : Int32} {mnames : Nat → Int32} {mletters : Nat → Int32} {mbegins : Nat → Int32} {mwords : Nat → Int32} {mdrifts : Nat → Int32} {mabove : Nat → Int32} {mbodies : Nat → Int32} {mtrace : Nat → Int32} {mran : Int32} {msorts : Nat → Int32} {mlengths : Nat → Int32} {mitems : Nat → Int64} {mmoved : Nat → Int64} {x1 : Int32} {x2 : Int32} {x3 : Int32} {r : Int32} {mnow' : Nat → Int32} (hm : fX8_see mnow x1 x2 x3 = some (r, mnow')) : ∀ sz : Nat, Met l yX8_see wsX8_see rmX8_see (kPc dC dI kc [.ref m_o, .int x1, .int x2, .int x3] (fl [wdX8 kc m_o m_now m_mind m_then m_text m_rules m_sizes m_read m_names m_letters m_begins m_words m_drifts m_above m_bodies m_trace m_sorts m_lengths m_items m_moved mnow mmind mthen mkept mtext mtexted mrules msizes mruled mread msize mat mwell mwithin msum mbear mnames mletters mbegins mwords mdrifts mabove mbodies mtrace mran msorts mlengths mitems mmoved]) sz) (kQi dC dI r (fl [wdX8 kc m_o m_now m_mind m_then m_text m_rules m_sizes m_read m_names m_letters m_begins m_words m_drifts m_above m_bodies m_trace m_sorts m_lengths m_items m_moved mnow' mmind mthen mkept mtext mtexted mrules msizes mruled mread msize mat mwell mwithin msum mbear mnames mletters mbegins mwords mdrifts mabove mbodies mtrace mran msorts mlengths mitems mmoved]) (va_A (fl [wdX8 kc m_o m_now m_mind m_then m_text m_rules m_sizes m_read m_names m_letters m_begins m_words m_drifts m_above m_bodies m_trace m_sorts m_lengths m_items m_moved mnow mmind mthen mkept mtext mtexted mrules msizes mruled mread msize mat mwell mwithin msum mbear mnames mletters mbegins mwords mdrifts mabove mbodies mtrace mran msorts mlengths mitems mmoved]) sz)) 0 0 (va_A (fl [wdX8 kc m_o m_now m_mind m_then m_text m_rules m_sizes m_read m_names m_letters m_begins m_words m_drifts m_above m_bodies m_trace m_sorts m_lengths m_items m_moved mnow mmind mthen mkept mtext mtexted mrules msizes mruled mread msize mat mwell mwithin msum mbear mnames mletters mbegins mwords mdrifts mabove mbodies mtrace mran msorts mlengths mitems mmoved]) sz) := by
  intro sz
  refine kMet (cc := cX8_see) (maxL := 5) (ret := (some .int)) (Qf := fun A => kQi dC dI r (fl [wdX8 kc m_o m_now m_mind m_then m_text m_rules m_sizes m_read m_names m_letters m_begins m_words m_drifts m_above m_bodies m_trace m_sorts m_lengths m_items m_moved mnow' mmind mthen mkept mtext mtexted mrules msizes mruled mread msize mat mwell mwithin msum mbear mnames mletters mbegins mwords mdrifts mabove mbodies mtrace mran msorts mlengths mitems mmoved]) A) (by decide) rfl (Nat.le_of_ble_eq_true rfl) ?_
  intro p e s m below meth c A ls hx hb hr hml hts hown hlocks hname hsz hA hP hK hD hl
  have hS : va_S A s.heap s.heap [] := va_S.rf
  have hl : lv_has ls 5 [(0, .ref m_o), (1, .int x1), (2, .int x2), (3, .int x3)] := hl
  unfold fX8_see at hm
  refine lv_iload_n hx hb dX8_see_0 rfl (lv_at hl 1 rfl) ?_
  refine lv_iconst (v := (-1)) hx hb dX8_see_1 (by decide) ?_
  refine lv_icmp_ne (tgt := 15) hx hb dX8_see_2 (by decide) (fun c2 => ?_) (fun c2 => ?_)
  · replace hm := it_f c2 hm
    refine lv_aload_n hx hb dX8_see_15 rfl (lv_at hl 0 rfl) ?_
    refine lv_iload_n hx hb dX8_see_16 rfl (lv_at hl 1 rfl) ?_
    obtain ⟨r17, hc17, hm⟩ := bd1_e hm
    refine k_callGVi (dC := dC) (dI := dI) (kc := kc) (As := [.int x1]) (rest := []) (Gs' := [wdX8 kc m_o m_now m_mind m_then m_text m_rules m_sizes m_read m_names m_letters m_begins m_words m_drifts m_above m_bodies m_trace m_sorts m_lengths m_items m_moved mnow mmind mthen mkept mtext mtexted mrules msizes mruled mread msize mat mwell mwithin msum mbear mnames mletters mbegins mwords mdrifts mabove mbodies mtrace mran msorts mlengths mitems mmoved]) hx hb hml hown hts hK hP hD hS hA (ctX8_isLeaf (m_o := m_o) (m_now := m_now) (m_mind := m_mind) (m_then := m_then) (m_text := m_text) (m_rules := m_rules) (m_sizes := m_sizes) (m_read := m_read) (m_names := m_names) (m_letters := m_letters) (m_begins := m_begins) (m_words := m_words) (m_drifts := m_drifts) (m_above := m_above) (m_bodies := m_bodies) (m_trace := m_trace) (m_sorts := m_sorts) (m_lengths := m_lengths) (m_items := m_items) (m_moved := m_moved) (mnow := mnow) (mmind := mmind) (mthen := mthen) (mkept := mkept) (mtext := mtext) (mtexted := mtexted) (mrules := mrules) (msizes := msizes) (mruled := mruled) (mread := mread) (msize := msize) (mat := mat) (mwell := mwell) (mwithin := mwithin) (msum := msum) (mbear := mbear) (mnames := mnames) (mletters := mletters) (mbegins := mbegins) (mwords := mwords) (mdrifts := mdrifts) (mabove := mabove) (mbodies := mbodies) (mtrace := mtrace) (mran := mran) (msorts := msorts) (mlengths := mlengths) (mitems := mitems) (mmoved := mmoved) (x1 := x1) hc17) (cwV 1 hts gX8_see_X8_isLeaf rfl rfl rfl (by decide +kernel) ⟨Nat.le_of_ble_eq_true rfl, Nat.le_of_ble_eq_true rfl⟩) [0] rfl (by decide) 8 rfl rfl rfl rfl hl rfl (Nat.le_of_ble_eq_true rfl) dX8_see_17 ⟨Nat.zero_le _, Nat.zero_le _⟩ rfl rfl rfl (fun H locs hP hD hS => ?_)
    refine lv_if_ne (tgt := 25) hx hb dX8_see_20 (by decide) (fun c20 => ?_) (fun c20 => ?_)
    · replace hm := it_f c20 hm
      refine lv_iload_n hx hb dX8_see_25 rfl (lv_at hl 2 rfl) ?_
      refine lv_iconst (v := 0) hx hb dX8_see_26 (by decide) ?_
      refine lv_bipush (v := 12) hx hb dX8_see_27 (by decide) ?_
      obtain ⟨r29, hc29, hm⟩ := bd1_e hm
      refine k_callGSi (dC := dC) (dI := dI) (kc := kc) (As := [.int x2, .int 0, .int 12]) (rest := []) (Gs' := [wdX8 kc m_o m_now m_mind m_then m_text m_rules m_sizes m_read m_names m_letters m_begins m_words m_drifts m_above m_bodies m_trace m_sorts m_lengths m_items m_moved mnow mmind mthen mkept mtext mtexted mrules msizes mruled mread msize mat mwell mwithin msum mbear mnames mletters mbegins mwords mdrifts mabove mbodies mtrace mran msorts mlengths mitems mmoved]) hx hb hml hown hts hK hP hD hS hA (ctX8_isIn (x1 := x2) (x2 := 0) (x3 := 12) hc29) (va_cwS 3 hts gX8_see_X8_isIn rfl rfl rfl (by decide +kernel) ⟨Nat.le_of_ble_eq_true rfl, Nat.le_of_ble_eq_true rfl⟩) [] rfl (by decide) rfl hl rfl (Nat.le_of_ble_eq_true rfl) dX8_see_29 ⟨Nat.zero_le _, Nat.zero_le _⟩ rfl rfl rfl (fun H locs hP hD hS => ?_)
      refine lv_if_ne (tgt := 38) hx hb dX8_see_32 (by decide) (fun c32 => ?_) (fun c32 => ?_)
      · replace hm := it_f c32 hm
        refine lv_aload_n hx hb dX8_see_38 rfl (lv_at hl 0 rfl) ?_
        refine va_get (D := (dC, dI)) (ci := 8) (v := .ref m_now) (C := RX8) (T := TX8) (N := 29) hx hb hts hinX8_see_X8 hown hK hP 0 rfl rfl 0 (by decide) (hts _ (List.mem_of_getElem? (i := 1) rfl)) (fun _ h9 => h9) rfl dX8_see_39 ?_
        refine lv_bipush (v := 59) hx hb dX8_see_42 (by decide) ?_
        refine k_iald (D := (dC, dI)) hx hb hK hP 1 1 rfl rfl (k := 59) (by decide) (show ¬ ((59 : Int32) < 0 ∨ 113 ≤ (59 : Int32).toNatClampNeg) from by decide) dX8_see_44 ?_
        refine lv_iconst (v := 5) hx hb dX8_see_45 (by decide) ?_
        refine lv_icmp_ne (tgt := 52) hx hb dX8_see_46 (by decide) (fun c46 => ?_) (fun c46 => ?_)
        · replace hm := it_f c46 hm
          refine lv_bipush (v := 60) hx hb dX8_see_52 (by decide) ?_
          refine lv_iconst (v := 3) hx hb dX8_see_54 (by decide) ?_
          refine lv_aload_n hx hb dX8_see_55 rfl (lv_at hl 0 rfl) ?_
          refine va_get (D := (dC, dI)) (ci := 8) (v := .ref m_now) (C := RX8) (T := TX8) (N := 29) hx hb hts hinX8_see_X8 hown hK hP 0 rfl rfl 0 (by decide) (hts _ (List.mem_of_getElem? (i := 1) rfl)) (fun _ h9 => h9) rfl dX8_see_56 ?_
          refine lv_bipush (v := 59) hx hb dX8_see_59 (by decide) ?_
          refine k_iald (D := (dC, dI)) hx hb hK hP 1 1 rfl rfl (k := 59) (by decide) (show ¬ ((59 : Int32) < 0 ∨ 113 ≤ (59 : Int32).toNatClampNeg) from by decide) dX8_see_61 ?_
          refine lv_imul hx hb dX8_see_62 ?_
          refine lv_iadd hx hb dX8_see_63 ?_
          refine lv_istore (lv' := [(4, .int (60 + (3 * (mnow 59)))), (0, .ref m_o), (1, .int x1), (2, .int x2), (3, .int x3)]) hx hb dX8_see_64 hl (by decide) rfl (fun ls hl => ?_)
          refine lv_aload_n hx hb dX8_see_66 rfl (lv_at hl 1 rfl) ?_
          refine va_get (D := (dC, dI)) (ci := 8) (v := .ref m_now) (C := RX8) (T := TX8) (N := 29) hx hb hts hinX8_see_X8 hown hK hP 0 rfl rfl 0 (by decide) (hts _ (List.mem_of_getElem? (i := 1) rfl)) (fun _ h9 => h9) rfl dX8_see_67 ?_
          refine lv_iload hx hb dX8_see_70 (lv_at hl 0 rfl) ?_
          refine lv_iload_n hx hb dX8_see_72 rfl (lv_at hl 2 rfl) ?_
          obtain ⟨hg73, hm⟩ := gd_e hm
          refine k_iast (D := (dC, dI)) hx hb hK hP hD hS 1 1 rfl rfl (k := (60 + (3 * (mnow 59))).toNatClampNeg) rfl hg73 dX8_see_73 (fun H locs hP hD hS => ?_)
          have hP : va_P (dC, dI) vwCl (fl [wdX8 kc m_o m_now m_mind m_then m_text m_rules m_sizes m_read m_names m_letters m_begins m_words m_drifts m_above m_bodies m_trace m_sorts m_lengths m_items m_moved (upd mnow ((60 + (3 * (mnow 59))).toNatClampNeg) x1) mmind mthen mkept mtext mtexted mrules msizes mruled mread msize mat mwell mwithin msum mbear mnames mletters mbegins mwords mdrifts mabove mbodies mtrace mran msorts mlengths mitems mmoved]) H := hP
          have hD : va_D A (fl [wdX8 kc m_o m_now m_mind m_then m_text m_rules m_sizes m_read m_names m_letters m_begins m_words m_drifts m_above m_bodies m_trace m_sorts m_lengths m_items m_moved (upd mnow ((60 + (3 * (mnow 59))).toNatClampNeg) x1) mmind mthen mkept mtext mtexted mrules msizes mruled mread msize mat mwell mwithin msum mbear mnames mletters mbegins mwords mdrifts mabove mbodies mtrace mran msorts mlengths mitems mmoved]) := hD
          refine lv_aload_n hx hb dX8_see_74 rfl (lv_at hl 1 rfl) ?_
          refine va_get (D := (dC, dI)) (ci := 8) (v := .ref m_now) (C := RX8) (T := TX8) (N := 29) hx hb hts hinX8_see_X8 hown hK hP 0 rfl rfl 0 (by decide) (hts _ (List.mem_of_getElem? (i := 1) rfl)) (fun _ h9 => h9) rfl dX8_see_75 ?_
          refine lv_iload hx hb dX8_see_78 (lv_at hl 0 rfl) ?_
          refine lv_iconst (v := 1) hx hb dX8_see_80 (by decide) ?_
          refine lv_iadd hx hb dX8_see_81 ?_
          refine lv_iload_n hx hb dX8_see_82 rfl (lv_at hl 3 rfl) ?_
          obtain ⟨hg83, hm⟩ := gd_e hm
          refine k_iast (D := (dC, dI)) hx hb hK hP hD hS 1 1 rfl rfl (k := ((60 + (3 * (mnow 59))) + 1).toNatClampNeg) rfl hg83 dX8_see_83 (fun H locs hP hD hS => ?_)
          have hP : va_P (dC, dI) vwCl (fl [wdX8 kc m_o m_now m_mind m_then m_text m_rules m_sizes m_read m_names m_letters m_begins m_words m_drifts m_above m_bodies m_trace m_sorts m_lengths m_items m_moved (upd (upd mnow ((60 + (3 * (mnow 59))).toNatClampNeg) x1) (((60 + (3 * (mnow 59))) + 1).toNatClampNeg) x2) mmind mthen mkept mtext mtexted mrules msizes mruled mread msize mat mwell mwithin msum mbear mnames mletters mbegins mwords mdrifts mabove mbodies mtrace mran msorts mlengths mitems mmoved]) H := hP
          have hD : va_D A (fl [wdX8 kc m_o m_now m_mind m_then m_text m_rules m_sizes m_read m_names m_letters m_begins m_words m_drifts m_above m_bodies m_trace m_sorts m_lengths m_items m_moved (upd (upd mnow ((60 + (3 * (mnow 59))).toNatClampNeg) x1) (((60 + (3 * (mnow 59))) + 1).toNatClampNeg) x2) mmind mthen mkept mtext mtexted mrules msizes mruled mread msize mat mwell mwithin msum mbear mnames mletters mbegins mwords mdrifts mabove mbodies mtrace mran msorts mlengths mitems mmoved]) := hD
          refine lv_aload_n hx hb dX8_see_84 rfl (lv_at hl 1 rfl) ?_
          refine va_get (D := (dC, dI)) (ci := 8) (v := .ref m_now) (C := RX8) (T := TX8) (N := 29) hx hb hts hinX8_see_X8 hown hK hP 0 rfl rfl 0 (by decide) (hts _ (List.mem_of_getElem? (i := 1) rfl)) (fun _ h9 => h9) rfl dX8_see_85 ?_
          refine lv_iload hx hb dX8_see_88 (lv_at hl 0 rfl) ?_
          refine lv_iconst (v := 2) hx hb dX8_see_90 (by decide) ?_
          refine lv_iadd hx hb dX8_see_91 ?_
          refine lv_iload_n hx hb dX8_see_92 rfl (lv_at hl 4 rfl) ?_
          refine lv_if_eq (tgt := 100) hx hb dX8_see_93 (by decide) (fun c93 => ?_) (fun c93 => ?_)
          · replace hm := it_t c93 hm
            refine lv_iconst (v := 0) hx hb dX8_see_100 (by decide) ?_
            obtain ⟨hg101, hm⟩ := gd_e hm
            refine k_iast (D := (dC, dI)) hx hb hK hP hD hS 1 1 rfl rfl (k := ((60 + (3 * (mnow 59))) + 2).toNatClampNeg) rfl hg101 dX8_see_101 (fun H locs hP hD hS => ?_)
            have hP : va_P (dC, dI) vwCl (fl [wdX8 kc m_o m_now m_mind m_then m_text m_rules m_sizes m_read m_names m_letters m_begins m_words m_drifts m_above m_bodies m_trace m_sorts m_lengths m_items m_moved (upd (upd (upd mnow ((60 + (3 * (mnow 59))).toNatClampNeg) x1) (((60 + (3 * (mnow 59))) + 1).toNatClampNeg) x2) (((60 + (3 * (mnow 59))) + 2).toNatClampNeg) 0) mmind mthen mkept mtext mtexted mrules msizes mruled mread msize mat mwell mwithin msum mbear mnames mletters mbegins mwords mdrifts mabove mbodies mtrace mran msorts mlengths mitems mmoved]) H := hP
            have hD : va_D A (fl [wdX8 kc m_o m_now m_mind m_then m_text m_rules m_sizes m_read m_names m_letters m_begins m_words m_drifts m_above m_bodies m_trace m_sorts m_lengths m_items m_moved (upd (upd (upd mnow ((60 + (3 * (mnow 59))).toNatClampNeg) x1) (((60 + (3 * (mnow 59))) + 1).toNatClampNeg) x2) (((60 + (3 * (mnow 59))) + 2).toNatClampNeg) 0) mmind mthen mkept mtext mtexted mrules msizes mruled mread msize mat mwell mwithin msum mbear mnames mletters mbegins mwords mdrifts mabove mbodies mtrace mran msorts mlengths mitems mmoved]) := hD
            refine lv_aload_n hx hb dX8_see_102 rfl (lv_at hl 1 rfl) ?_
            refine va_get (D := (dC, dI)) (ci := 8) (v := .ref m_now) (C := RX8) (T := TX8) (N := 29) hx hb hts hinX8_see_X8 hown hK hP 0 rfl rfl 0 (by decide) (hts _ (List.mem_of_getElem? (i := 1) rfl)) (fun _ h9 => h9) rfl dX8_see_103 ?_
            refine lv_bipush (v := 59) hx hb dX8_see_106 (by decide) ?_
            refine lv_dup2_11 hx hb dX8_see_108 rfl rfl ?_
            refine k_iald (D := (dC, dI)) hx hb hK hP 1 1 rfl rfl (k := 59) (by decide) (show ¬ ((59 : Int32) < 0 ∨ 113 ≤ (59 : Int32).toNatClampNeg) from by decide) dX8_see_109 ?_
            refine lv_iconst (v := 1) hx hb dX8_see_110 (by decide) ?_
            refine lv_iadd hx hb dX8_see_111 ?_
            refine k_iast (D := (dC, dI)) hx hb hK hP hD hS 1 1 rfl rfl (k := 59) (by decide) (show ¬ ((59 : Int32) < 0 ∨ 113 ≤ (59 : Int32).toNatClampNeg) from by decide) dX8_see_112 (fun H locs hP hD hS => ?_)
            have hP : va_P (dC, dI) vwCl (fl [wdX8 kc m_o m_now m_mind m_then m_text m_rules m_sizes m_read m_names m_letters m_begins m_words m_drifts m_above m_bodies m_trace m_sorts m_lengths m_items m_moved (upd (upd (upd (upd mnow ((60 + (3 * (mnow 59))).toNatClampNeg) x1) (((60 + (3 * (mnow 59))) + 1).toNatClampNeg) x2) (((60 + (3 * (mnow 59))) + 2).toNatClampNeg) 0) 59 (((upd (upd (upd mnow ((60 + (3 * (mnow 59))).toNatClampNeg) x1) (((60 + (3 * (mnow 59))) + 1).toNatClampNeg) x2) (((60 + (3 * (mnow 59))) + 2).toNatClampNeg) 0) 59) + 1)) mmind mthen mkept mtext mtexted mrules msizes mruled mread msize mat mwell mwithin msum mbear mnames mletters mbegins mwords mdrifts mabove mbodies mtrace mran msorts mlengths mitems mmoved]) H := hP
            have hD : va_D A (fl [wdX8 kc m_o m_now m_mind m_then m_text m_rules m_sizes m_read m_names m_letters m_begins m_words m_drifts m_above m_bodies m_trace m_sorts m_lengths m_items m_moved (upd (upd (upd (upd mnow ((60 + (3 * (mnow 59))).toNatClampNeg) x1) (((60 + (3 * (mnow 59))) + 1).toNatClampNeg) x2) (((60 + (3 * (mnow 59))) + 2).toNatClampNeg) 0) 59 (((upd (upd (upd mnow ((60 + (3 * (mnow 59))).toNatClampNeg) x1) (((60 + (3 * (mnow 59))) + 1).toNatClampNeg) x2) (((60 + (3 * (mnow 59))) + 2).toNatClampNeg) 0) 59) + 1)) mmind mthen mkept mtext mtexted mrules msizes mruled mread msize mat mwell mwithin msum mbear mnames mletters mbegins mwords mdrifts mabove mbodies mtrace mran msorts mlengths mitems mmoved]) := hD
            refine lv_aload_n hx hb dX8_see_113 rfl (lv_at hl 1 rfl) ?_
            refine va_get (D := (dC, dI)) (ci := 8) (v := .ref m_now) (C := RX8) (T := TX8) (N := 29) hx hb hts hinX8_see_X8 hown hK hP 0 rfl rfl 0 (by decide) (hts _ (List.mem_of_getElem? (i := 1) rfl)) (fun _ h9 => h9) rfl dX8_see_114 ?_
            refine lv_bipush (v := 59) hx hb dX8_see_117 (by decide) ?_
            refine k_iald (D := (dC, dI)) hx hb hK hP 1 1 rfl rfl (k := 59) (by decide) (show ¬ ((59 : Int32) < 0 ∨ 113 ≤ (59 : Int32).toNatClampNeg) from by decide) dX8_see_119 ?_
            cases hm
            exact k_iret hx hb hr hlocks hP hS dX8_see_120
          · replace hm := it_f c93 hm
            refine lv_iconst (v := 1) hx hb dX8_see_96 (by decide) ?_
            refine lv_goto (tgt := 101) hx hb dX8_see_97 (by decide) ?_
            obtain ⟨hg101, hm⟩ := gd_e hm
            refine k_iast (D := (dC, dI)) hx hb hK hP hD hS 1 1 rfl rfl (k := ((60 + (3 * (mnow 59))) + 2).toNatClampNeg) rfl hg101 dX8_see_101 (fun H locs hP hD hS => ?_)
            have hP : va_P (dC, dI) vwCl (fl [wdX8 kc m_o m_now m_mind m_then m_text m_rules m_sizes m_read m_names m_letters m_begins m_words m_drifts m_above m_bodies m_trace m_sorts m_lengths m_items m_moved (upd (upd (upd mnow ((60 + (3 * (mnow 59))).toNatClampNeg) x1) (((60 + (3 * (mnow 59))) + 1).toNatClampNeg) x2) (((60 + (3 * (mnow 59))) + 2).toNatClampNeg) 1) mmind mthen mkept mtext mtexted mrules msizes mruled mread msize mat mwell mwithin msum mbear mnames mletters mbegins mwords mdrifts mabove mbodies mtrace mran msorts mlengths mitems mmoved]) H := hP
            have hD : va_D A (fl [wdX8 kc m_o m_now m_mind m_then m_text m_rules m_sizes m_read m_names m_letters m_begins m_words m_drifts m_above m_bodies m_trace m_sorts m_lengths m_items m_moved (upd (upd (upd mnow ((60 + (3 * (mnow 59))).toNatClampNeg) x1) (((60 + (3 * (mnow 59))) + 1).toNatClampNeg) x2) (((60 + (3 * (mnow 59))) + 2).toNatClampNeg) 1) mmind mthen mkept mtext mtexted mrules msizes mruled mread msize mat mwell mwithin msum mbear mnames mletters mbegins mwords mdrifts mabove mbodies mtrace mran msorts mlengths mitems mmoved]) := hD
            refine lv_aload_n hx hb dX8_see_102 rfl (lv_at hl 1 rfl) ?_
            refine va_get (D := (dC, dI)) (ci := 8) (v := .ref m_now) (C := RX8) (T := TX8) (N := 29) hx hb hts hinX8_see_X8 hown hK hP 0 rfl rfl 0 (by decide) (hts _ (List.mem_of_getElem? (i := 1) rfl)) (fun _ h9 => h9) rfl dX8_see_103 ?_
            refine lv_bipush (v := 59) hx hb dX8_see_106 (by decide) ?_
            refine lv_dup2_11 hx hb dX8_see_108 rfl rfl ?_
            refine k_iald (D := (dC, dI)) hx hb hK hP 1 1 rfl rfl (k := 59) (by decide) (show ¬ ((59 : Int32) < 0 ∨ 113 ≤ (59 : Int32).toNatClampNeg) from by decide) dX8_see_109 ?_
            refine lv_iconst (v := 1) hx hb dX8_see_110 (by decide) ?_
            refine lv_iadd hx hb dX8_see_111 ?_
            refine k_iast (D := (dC, dI)) hx hb hK hP hD hS 1 1 rfl rfl (k := 59) (by decide) (show ¬ ((59 : Int32) < 0 ∨ 113 ≤ (59 : Int32).toNatClampNeg) from by decide) dX8_see_112 (fun H locs hP hD hS => ?_)
            have hP : va_P (dC, dI) vwCl (fl [wdX8 kc m_o m_now m_mind m_then m_text m_rules m_sizes m_read m_names m_letters m_begins m_words m_drifts m_above m_bodies m_trace m_sorts m_lengths m_items m_moved (upd (upd (upd (upd mnow ((60 + (3 * (mnow 59))).toNatClampNeg) x1) (((60 + (3 * (mnow 59))) + 1).toNatClampNeg) x2) (((60 + (3 * (mnow 59))) + 2).toNatClampNeg) 1) 59 (((upd (upd (upd mnow ((60 + (3 * (mnow 59))).toNatClampNeg) x1) (((60 + (3 * (mnow 59))) + 1).toNatClampNeg) x2) (((60 + (3 * (mnow 59))) + 2).toNatClampNeg) 1) 59) + 1)) mmind mthen mkept mtext mtexted mrules msizes mruled mread msize mat mwell mwithin msum mbear mnames mletters mbegins mwords mdrifts mabove mbodies mtrace mran msorts mlengths mitems mmoved]) H := hP
            have hD : va_D A (fl [wdX8 kc m_o m_now m_mind m_then m_text m_rules m_sizes m_read m_names m_letters m_begins m_words m_drifts m_above m_bodies m_trace m_sorts m_lengths m_items m_moved (upd (upd (upd (upd mnow ((60 + (3 * (mnow 59))).toNatClampNeg) x1) (((60 + (3 * (mnow 59))) + 1).toNatClampNeg) x2) (((60 + (3 * (mnow 59))) + 2).toNatClampNeg) 1) 59 (((upd (upd (upd mnow ((60 + (3 * (mnow 59))).toNatClampNeg) x1) (((60 + (3 * (mnow 59))) + 1).toNatClampNeg) x2) (((60 + (3 * (mnow 59))) + 2).toNatClampNeg) 1) 59) + 1)) mmind mthen mkept mtext mtexted mrules msizes mruled mread msize mat mwell mwithin msum mbear mnames mletters mbegins mwords mdrifts mabove mbodies mtrace mran msorts mlengths mitems mmoved]) := hD
            refine lv_aload_n hx hb dX8_see_113 rfl (lv_at hl 1 rfl) ?_
            refine va_get (D := (dC, dI)) (ci := 8) (v := .ref m_now) (C := RX8) (T := TX8) (N := 29) hx hb hts hinX8_see_X8 hown hK hP 0 rfl rfl 0 (by decide) (hts _ (List.mem_of_getElem? (i := 1) rfl)) (fun _ h9 => h9) rfl dX8_see_114 ?_
            refine lv_bipush (v := 59) hx hb dX8_see_117 (by decide) ?_
            refine k_iald (D := (dC, dI)) hx hb hK hP 1 1 rfl rfl (k := 59) (by decide) (show ¬ ((59 : Int32) < 0 ∨ 113 ≤ (59 : Int32).toNatClampNeg) from by decide) dX8_see_119 ?_
            cases hm
            exact k_iret hx hb hr hlocks hP hS dX8_see_120
        · replace hm := it_t c46 hm
          refine lv_bipush (v := (-4)) hx hb dX8_see_49 (by decide) ?_
          cases hm
          exact k_iret hx hb hr hlocks hP hS dX8_see_51
      · replace hm := it_t c32 hm
        refine lv_bipush (v := (-2)) hx hb dX8_see_35 (by decide) ?_
        cases hm
        exact k_iret hx hb hr hlocks hP hS dX8_see_37
    · replace hm := it_t c20 hm
      refine lv_iconst (v := (-1)) hx hb dX8_see_23 (by decide) ?_
      cases hm
      exact k_iret hx hb hr hlocks hP hS dX8_see_24
  · replace hm := it_t c2 hm
    refine lv_aload_n hx hb dX8_see_5 rfl (lv_at hl 0 rfl) ?_
    refine va_get (D := (dC, dI)) (ci := 8) (v := .ref m_now) (C := RX8) (T := TX8) (N := 29) hx hb hts hinX8_see_X8 hown hK hP 0 rfl rfl 0 (by decide) (hts _ (List.mem_of_getElem? (i := 1) rfl)) (fun _ h9 => h9) rfl dX8_see_6 ?_
    refine lv_bipush (v := 59) hx hb dX8_see_9 (by decide) ?_
    refine lv_iconst (v := 0) hx hb dX8_see_11 (by decide) ?_
    refine k_iast (D := (dC, dI)) hx hb hK hP hD hS 1 1 rfl rfl (k := 59) (by decide) (show ¬ ((59 : Int32) < 0 ∨ 113 ≤ (59 : Int32).toNatClampNeg) from by decide) dX8_see_12 (fun H locs hP hD hS => ?_)
    have hP : va_P (dC, dI) vwCl (fl [wdX8 kc m_o m_now m_mind m_then m_text m_rules m_sizes m_read m_names m_letters m_begins m_words m_drifts m_above m_bodies m_trace m_sorts m_lengths m_items m_moved (upd mnow 59 0) mmind mthen mkept mtext mtexted mrules msizes mruled mread msize mat mwell mwithin msum mbear mnames mletters mbegins mwords mdrifts mabove mbodies mtrace mran msorts mlengths mitems mmoved]) H := hP
    have hD : va_D A (fl [wdX8 kc m_o m_now m_mind m_then m_text m_rules m_sizes m_read m_names m_letters m_begins m_words m_drifts m_above m_bodies m_trace m_sorts m_lengths m_items m_moved (upd mnow 59 0) mmind mthen mkept mtext mtexted mrules msizes mruled mread msize mat mwell mwithin msum mbear mnames mletters mbegins mwords mdrifts mabove mbodies mtrace mran msorts mlengths mitems mmoved]) := hD
    refine lv_iconst (v := 0) hx hb dX8_see_13 (by decide) ?_
    cases hm
    exact k_iret hx hb hr hlocks hP hS dX8_see_14
def fX8_can (fu : Nat) (mnow : Nat → Int32) (mmind : Nat → Int32) (mrules : Nat → Int32) (msizes : Nat → Int32) (mread : Nat → Int32) (msize : Int32) (mat : Int32) (mwell : Int32) (mwithin : Int32) (msum : Int32) (mbear : Int32) (mnames : Nat → Int32) (mletters : Nat → Int32) (mbegins : Nat → Int32) (mwords : Nat → Int32) (mdrifts : Nat → Int32) (x1 : Int32) (x2 : Int32) : Option (Int32 × (Nat → Int32) × (Nat → Int32) × (Nat → Int32) × Int32 × Int32 × Int32 × Int32 × Int32 × Int32 × (Nat → Int32) × (Nat → Int32)) := bd1 (fX8_isOne mnow x1) (fun r2 => if r2 = 0 then (some (((-1) : Int32), mnow, mmind, mread, msize, mat, mwell, mwithin, msum, mbear, mnames, mdrifts)) else (bd1 (fX8_isIn x2 0 1) (fun r11 => if r11 = 0 then (some (((-1) : Int32), mnow, mmind, mread, msize, mat, mwell, mwithin, msum, mbear, mnames, mdrifts)) else (if x2 = 0 then (bd12 (fX8_fits fu mnow mmind mrules msizes mread msize mat mwell mwithin msum mbear mnames mletters mbegins mwords mdrifts ((7 * x1) + 1) 0 9 1) (fun r36 mnow_36 mmind_36 mread_36 msize_36 mat_36 mwell_36 mwithin_36 msum_36 mbear_36 mnames_36 mdrifts_36 => some (r36, mnow_36, mmind_36, mread_36, msize_36, mat_36, mwell_36, mwithin_36, msum_36, mbear_36, mnames_36, mdrifts_36))) else (bd12 (fX8_fits fu mnow mmind mrules msizes mread msize mat mwell mwithin msum mbear mnames mletters mbegins mwords mdrifts ((7 * x1) + 1) 0 9 0) (fun r36 mnow_36 mmind_36 mread_36 msize_36 mat_36 mwell_36 mwithin_36 msum_36 mbear_36 mnames_36 mdrifts_36 => some (r36, mnow_36, mmind_36, mread_36, msize_36, mat_36, mwell_36, mwithin_36, msum_36, mbear_36, mnames_36, mdrifts_36)))))))
abbrev rmX8_can : Room := { frames := 261, cells := 0, slots := 0, locals := 7065 }
set_option maxHeartbeats 4000000 in
set_option maxRecDepth 100000 in
theorem ctX8_can {l : Launch} {dC : Nat → ClassId} {dI : Nat → Nat → Nat} {kc : Nat → ClassId} {m_o m_now m_mind m_then m_text m_rules m_sizes m_read m_names m_letters m_begins m_words m_drifts m_above m_bodies m_trace m_sorts m_lengths m_items m_moved : Nat} {mnow : Nat → Int32} {mmind : Nat → Int32} {mthen : Nat → Int32} {mkept : Int32} {mtext : Nat → Int32} {mtexted : Int32} {mrules : Nat → Int32} {msizes : Nat → Int32} {mruled : Int32} {mread : Nat → Int32} {msize : Int32} {mat : Int32} {mwell : Int32} {mwithin : Int32} {msum : Int32} {mbear : Int32} {mnames : Nat → Int32} {mletters : Nat → Int32} {mbegins : Nat → Int32} {mwords : Nat → Int32} {mdrifts : Nat → Int32} {mabove : Nat → Int32} {mbodies : Nat → Int32} {mtrace : Nat → Int32} {mran : Int32} {msorts : Nat → Int32} {mlengths : Nat → Int32} {mitems : Nat → Int64} {mmoved : Nat → Int64} {x1 : Int32} {x2 : Int32} {fu : Nat} {r : Int32} {mnow' : Nat → Int32} {mmind' : Nat → Int32} {mread' : Nat → Int32} {msize' : Int32} {mat' : Int32} {mwell' : Int32} {mwithin' : Int32} {msum' : Int32} {mbear' : Int32} {mnames' : Nat → Int32} {mdrifts' : Nat → Int32} (hm : fX8_can fu mnow mmind mrules msizes mread msize mat mwell mwithin msum mbear mnames mletters mbegins mwords mdrifts x1 x2 = some (r, mnow', mmind', mread', msize', mat', mwell', mwithin', msum', mbear', mnames', mdrifts')) : ∀ sz : Nat, Met l yX8_can wsX8_can rmX8_can (kPc dC dI kc [.ref m_o, .int x1, .int x2] (fl [wdX8 kc m_o m_now m_mind m_then m_text m_rules m_sizes m_read m_names m_letters m_begins m_words m_drifts m_above m_bodies m_trace m_sorts m_lengths m_items m_moved mnow mmind mthen mkept mtext mtexted mrules msizes mruled mread msize mat mwell mwithin msum mbear mnames mletters mbegins mwords mdrifts mabove mbodies mtrace mran msorts mlengths mitems mmoved]) sz) (kQi dC dI r (fl [wdX8 kc m_o m_now m_mind m_then m_text m_rules m_sizes m_read m_names m_letters m_begins m_words m_drifts m_above m_bodies m_trace m_sorts m_lengths m_items m_moved mnow' mmind' mthen mkept mtext mtexted mrules msizes mruled mread' msize' mat' mwell' mwithin' msum' mbear' mnames' mletters mbegins mwords mdrifts' mabove mbodies mtrace mran msorts mlengths mitems mmoved]) (va_A (fl [wdX8 kc m_o m_now m_mind m_then m_text m_rules m_sizes m_read m_names m_letters m_begins m_words m_drifts m_above m_bodies m_trace m_sorts m_lengths m_items m_moved mnow mmind mthen mkept mtext mtexted mrules msizes mruled mread msize mat mwell mwithin msum mbear mnames mletters mbegins mwords mdrifts mabove mbodies mtrace mran msorts mlengths mitems mmoved]) sz)) 0 0 (va_A (fl [wdX8 kc m_o m_now m_mind m_then m_text m_rules m_sizes m_read m_names m_letters m_begins m_words m_drifts m_above m_bodies m_trace m_sorts m_lengths m_items m_moved mnow mmind mthen mkept mtext mtexted mrules msizes mruled mread msize mat mwell mwithin msum mbear mnames mletters mbegins mwords mdrifts mabove mbodies mtrace mran msorts mlengths mitems mmoved]) sz) := by
  intro sz
  refine kMet (cc := cX8_can) (maxL := 3) (ret := (some .int)) (Qf := fun A => kQi dC dI r (fl [wdX8 kc m_o m_now m_mind m_then m_text m_rules m_sizes m_read m_names m_letters m_begins m_words m_drifts m_above m_bodies m_trace m_sorts m_lengths m_items m_moved mnow' mmind' mthen mkept mtext mtexted mrules msizes mruled mread' msize' mat' mwell' mwithin' msum' mbear' mnames' mletters mbegins mwords mdrifts' mabove mbodies mtrace mran msorts mlengths mitems mmoved]) A) (by decide) rfl (Nat.le_of_ble_eq_true rfl) ?_
  intro p e s m below meth c A ls hx hb hr hml hts hown hlocks hname hsz hA hP hK hD hl
  have hS : va_S A s.heap s.heap [] := va_S.rf
  have hl : lv_has ls 3 [(0, .ref m_o), (1, .int x1), (2, .int x2)] := hl
  unfold fX8_can at hm
  refine lv_aload_n hx hb dX8_can_0 rfl (lv_at hl 0 rfl) ?_
  refine lv_iload_n hx hb dX8_can_1 rfl (lv_at hl 1 rfl) ?_
  obtain ⟨r2, hc2, hm⟩ := bd1_e hm
  refine k_callGVi (dC := dC) (dI := dI) (kc := kc) (As := [.int x1]) (rest := []) (Gs' := [wdX8 kc m_o m_now m_mind m_then m_text m_rules m_sizes m_read m_names m_letters m_begins m_words m_drifts m_above m_bodies m_trace m_sorts m_lengths m_items m_moved mnow mmind mthen mkept mtext mtexted mrules msizes mruled mread msize mat mwell mwithin msum mbear mnames mletters mbegins mwords mdrifts mabove mbodies mtrace mran msorts mlengths mitems mmoved]) hx hb hml hown hts hK hP hD hS hA (ctX8_isOne (m_o := m_o) (m_now := m_now) (m_mind := m_mind) (m_then := m_then) (m_text := m_text) (m_rules := m_rules) (m_sizes := m_sizes) (m_read := m_read) (m_names := m_names) (m_letters := m_letters) (m_begins := m_begins) (m_words := m_words) (m_drifts := m_drifts) (m_above := m_above) (m_bodies := m_bodies) (m_trace := m_trace) (m_sorts := m_sorts) (m_lengths := m_lengths) (m_items := m_items) (m_moved := m_moved) (mnow := mnow) (mmind := mmind) (mthen := mthen) (mkept := mkept) (mtext := mtext) (mtexted := mtexted) (mrules := mrules) (msizes := msizes) (mruled := mruled) (mread := mread) (msize := msize) (mat := mat) (mwell := mwell) (mwithin := mwithin) (msum := msum) (mbear := mbear) (mnames := mnames) (mletters := mletters) (mbegins := mbegins) (mwords := mwords) (mdrifts := mdrifts) (mabove := mabove) (mbodies := mbodies) (mtrace := mtrace) (mran := mran) (msorts := msorts) (mlengths := mlengths) (mitems := mitems) (mmoved := mmoved) (x1 := x1) hc2) (cwV 1 hts gX8_can_X8_isOne rfl rfl rfl (by decide +kernel) ⟨Nat.le_of_ble_eq_true rfl, Nat.le_of_ble_eq_true rfl⟩) [0] rfl (by decide) 8 rfl rfl rfl rfl hl rfl (Nat.le_of_ble_eq_true rfl) dX8_can_2 ⟨Nat.zero_le _, Nat.zero_le _⟩ rfl rfl rfl (fun H locs hP hD hS => ?_)
  refine lv_if_eq (tgt := 42) hx hb dX8_can_5 (by decide) (fun c5 => ?_) (fun c5 => ?_)
  · replace hm := it_t c5 hm
    refine lv_iconst (v := (-1)) hx hb dX8_can_42 (by decide) ?_
    cases hm
    exact k_iret hx hb hr hlocks hP hS dX8_can_43
  · replace hm := it_f c5 hm
    refine lv_iload_n hx hb dX8_can_8 rfl (lv_at hl 2 rfl) ?_
    refine lv_iconst (v := 0) hx hb dX8_can_9 (by decide) ?_
    refine lv_iconst (v := 1) hx hb dX8_can_10 (by decide) ?_
    obtain ⟨r11, hc11, hm⟩ := bd1_e hm
    refine k_callGSi (dC := dC) (dI := dI) (kc := kc) (As := [.int x2, .int 0, .int 1]) (rest := []) (Gs' := [wdX8 kc m_o m_now m_mind m_then m_text m_rules m_sizes m_read m_names m_letters m_begins m_words m_drifts m_above m_bodies m_trace m_sorts m_lengths m_items m_moved mnow mmind mthen mkept mtext mtexted mrules msizes mruled mread msize mat mwell mwithin msum mbear mnames mletters mbegins mwords mdrifts mabove mbodies mtrace mran msorts mlengths mitems mmoved]) hx hb hml hown hts hK hP hD hS hA (ctX8_isIn (x1 := x2) (x2 := 0) (x3 := 1) hc11) (va_cwS 3 hts gX8_can_X8_isIn rfl rfl rfl (by decide +kernel) ⟨Nat.le_of_ble_eq_true rfl, Nat.le_of_ble_eq_true rfl⟩) [] rfl (by decide) rfl hl rfl (Nat.le_of_ble_eq_true rfl) dX8_can_11 ⟨Nat.zero_le _, Nat.zero_le _⟩ rfl rfl rfl (fun H locs hP hD hS => ?_)
    refine lv_if_eq (tgt := 42) hx hb dX8_can_14 (by decide) (fun c14 => ?_) (fun c14 => ?_)
    · replace hm := it_t c14 hm
      refine lv_iconst (v := (-1)) hx hb dX8_can_42 (by decide) ?_
      cases hm
      exact k_iret hx hb hr hlocks hP hS dX8_can_43
    · replace hm := it_f c14 hm
      refine lv_aload_n hx hb dX8_can_17 rfl (lv_at hl 0 rfl) ?_
      refine lv_bipush (v := 7) hx hb dX8_can_18 (by decide) ?_
      refine lv_iload_n hx hb dX8_can_20 rfl (lv_at hl 1 rfl) ?_
      refine lv_imul hx hb dX8_can_21 ?_
      refine lv_iconst (v := 1) hx hb dX8_can_22 (by decide) ?_
      refine lv_iadd hx hb dX8_can_23 ?_
      refine lv_iconst (v := 0) hx hb dX8_can_24 (by decide) ?_
      refine lv_bipush (v := 9) hx hb dX8_can_25 (by decide) ?_
      refine lv_iload_n hx hb dX8_can_27 rfl (lv_at hl 2 rfl) ?_
      refine lv_if_ne (tgt := 35) hx hb dX8_can_28 (by decide) (fun c28 => ?_) (fun c28 => ?_)
      · replace hm := it_f c28 hm
        refine lv_iconst (v := 0) hx hb dX8_can_35 (by decide) ?_
        obtain ⟨r36, mnow_36, mmind_36, mread_36, msize_36, mat_36, mwell_36, mwithin_36, msum_36, mbear_36, mnames_36, mdrifts_36, hc36, hm⟩ := bd12_e hm
        refine k_callGVi (dC := dC) (dI := dI) (kc := kc) (As := [.int ((7 * x1) + 1), .int 0, .int 9, .int 0]) (rest := []) (Gs' := [wdX8 kc m_o m_now m_mind m_then m_text m_rules m_sizes m_read m_names m_letters m_begins m_words m_drifts m_above m_bodies m_trace m_sorts m_lengths m_items m_moved mnow_36 mmind_36 mthen mkept mtext mtexted mrules msizes mruled mread_36 msize_36 mat_36 mwell_36 mwithin_36 msum_36 mbear_36 mnames_36 mletters mbegins mwords mdrifts_36 mabove mbodies mtrace mran msorts mlengths mitems mmoved]) hx hb hml hown hts hK hP hD hS hA (ctX8_fits (m_o := m_o) (m_now := m_now) (m_mind := m_mind) (m_then := m_then) (m_text := m_text) (m_rules := m_rules) (m_sizes := m_sizes) (m_read := m_read) (m_names := m_names) (m_letters := m_letters) (m_begins := m_begins) (m_words := m_words) (m_drifts := m_drifts) (m_above := m_above) (m_bodies := m_bodies) (m_trace := m_trace) (m_sorts := m_sorts) (m_lengths := m_lengths) (m_items := m_items) (m_moved := m_moved) (mnow := mnow) (mmind := mmind) (mthen := mthen) (mkept := mkept) (mtext := mtext) (mtexted := mtexted) (mrules := mrules) (msizes := msizes) (mruled := mruled) (mread := mread) (msize := msize) (mat := mat) (mwell := mwell) (mwithin := mwithin) (msum := msum) (mbear := mbear) (mnames := mnames) (mletters := mletters) (mbegins := mbegins) (mwords := mwords) (mdrifts := mdrifts) (mabove := mabove) (mbodies := mbodies) (mtrace := mtrace) (mran := mran) (msorts := msorts) (mlengths := mlengths) (mitems := mitems) (mmoved := mmoved) (x1 := (7 * x1) + 1) (x2 := 0) (x3 := 9) (x4 := 0) hc36) (cwV 4 hts gX8_can_X8_fits rfl rfl rfl (by decide +kernel) ⟨Nat.le_of_ble_eq_true rfl, Nat.le_of_ble_eq_true rfl⟩) [0] rfl (by decide) 8 rfl rfl rfl rfl hl rfl (Nat.le_of_ble_eq_true rfl) dX8_can_36 ⟨Nat.zero_le _, Nat.zero_le _⟩ rfl rfl rfl (fun H locs hP hD hS => ?_)
        refine lv_goto (tgt := 43) hx hb dX8_can_39 (by decide) ?_
        cases hm
        exact k_iret hx hb hr hlocks hP hS dX8_can_43
      · replace hm := it_t c28 hm
        refine lv_iconst (v := 1) hx hb dX8_can_31 (by decide) ?_
        refine lv_goto (tgt := 36) hx hb dX8_can_32 (by decide) ?_
        obtain ⟨r36, mnow_36, mmind_36, mread_36, msize_36, mat_36, mwell_36, mwithin_36, msum_36, mbear_36, mnames_36, mdrifts_36, hc36, hm⟩ := bd12_e hm
        refine k_callGVi (dC := dC) (dI := dI) (kc := kc) (As := [.int ((7 * x1) + 1), .int 0, .int 9, .int 1]) (rest := []) (Gs' := [wdX8 kc m_o m_now m_mind m_then m_text m_rules m_sizes m_read m_names m_letters m_begins m_words m_drifts m_above m_bodies m_trace m_sorts m_lengths m_items m_moved mnow_36 mmind_36 mthen mkept mtext mtexted mrules msizes mruled mread_36 msize_36 mat_36 mwell_36 mwithin_36 msum_36 mbear_36 mnames_36 mletters mbegins mwords mdrifts_36 mabove mbodies mtrace mran msorts mlengths mitems mmoved]) hx hb hml hown hts hK hP hD hS hA (ctX8_fits (m_o := m_o) (m_now := m_now) (m_mind := m_mind) (m_then := m_then) (m_text := m_text) (m_rules := m_rules) (m_sizes := m_sizes) (m_read := m_read) (m_names := m_names) (m_letters := m_letters) (m_begins := m_begins) (m_words := m_words) (m_drifts := m_drifts) (m_above := m_above) (m_bodies := m_bodies) (m_trace := m_trace) (m_sorts := m_sorts) (m_lengths := m_lengths) (m_items := m_items) (m_moved := m_moved) (mnow := mnow) (mmind := mmind) (mthen := mthen) (mkept := mkept) (mtext := mtext) (mtexted := mtexted) (mrules := mrules) (msizes := msizes) (mruled := mruled) (mread := mread) (msize := msize) (mat := mat) (mwell := mwell) (mwithin := mwithin) (msum := msum) (mbear := mbear) (mnames := mnames) (mletters := mletters) (mbegins := mbegins) (mwords := mwords) (mdrifts := mdrifts) (mabove := mabove) (mbodies := mbodies) (mtrace := mtrace) (mran := mran) (msorts := msorts) (mlengths := mlengths) (mitems := mitems) (mmoved := mmoved) (x1 := (7 * x1) + 1) (x2 := 0) (x3 := 9) (x4 := 1) hc36) (cwV 4 hts gX8_can_X8_fits rfl rfl rfl (by decide +kernel) ⟨Nat.le_of_ble_eq_true rfl, Nat.le_of_ble_eq_true rfl⟩) [0] rfl (by decide) 8 rfl rfl rfl rfl hl rfl (Nat.le_of_ble_eq_true rfl) dX8_can_36 ⟨Nat.zero_le _, Nat.zero_le _⟩ rfl rfl rfl (fun H locs hP hD hS => ?_)
        refine lv_goto (tgt := 43) hx hb dX8_can_39 (by decide) ?_
        cases hm
        exact k_iret hx hb hr hlocks hP hS dX8_can_43
def LX8_fraction_6 (x1 : Int64) (x2 : Int64) (x3 : Int32) : Nat → Int64 → Int64 → Option Int64
  | 0, _, _ => none
  | n6 + 1, l5_6, l7_6 => if (lg_cmp l7_6 0) = 0 then (if x3 = 0 then (gd (¬ l5_6 = 0) (some (x1 / l5_6))) else (gd (¬ l5_6 = 0) (some (x2 / l5_6)))) else (gd (¬ l7_6 = 0) (LX8_fraction_6 x1 x2 x3 n6 l7_6 (l5_6 - l5_6 / l7_6 * l7_6)))
def fX8_fraction (fu : Nat) (x1 : Int64) (x2 : Int64) (x3 : Int32) : Option Int64 := LX8_fraction_6 x1 x2 x3 fu x1 x2
abbrev rmX8_fraction : Room := { frames := 0, cells := 0, slots := 0, locals := 12 }
set_option maxHeartbeats 4000000 in
set_option maxRecDepth 100000 in
theorem ctX8_fraction {l : Launch} {dC : Nat → ClassId} {dI : Nat → Nat → Nat} {kc : Nat → ClassId} {x1 : Int64} {x2 : Int64} {x3 : Int32} {fu : Nat} {r : Int64} (hm : fX8_fraction fu x1 x2 x3 = some r) : ∀ sz : Nat, Met l yX8_fraction wsX8_fraction rmX8_fraction (kPc dC dI kc [.long x1, .long x2, .int x3] (fl []) sz) (kQl dC dI r (fl []) (va_A (fl []) sz)) 0 0 (va_A (fl []) sz) := by
  intro sz
  refine kMet (cc := cX8_fraction) (maxL := 11) (ret := (some .long)) (Qf := fun A => kQl dC dI r (fl []) A) (by decide) rfl (Nat.le_of_ble_eq_true rfl) ?_
  intro p e s m below meth c A ls hx hb hr hml hts hown hlocks hname hsz hA hP hK hD hl
  have hS : va_S A s.heap s.heap [] := va_S.rf
  have hl : lv_has ls 11 [(0, .long x1), (2, .long x2), (4, .int x3)] := hl
  unfold fX8_fraction at hm
  refine lv_lload_n hx hb dX8_fraction_0 rfl (lv_at hl 0 rfl) ?_
  refine lv_lstore (lv' := [(5, .long x1), (0, .long x1), (2, .long x2), (4, .int x3)]) hx hb dX8_fraction_1 hl (by decide) rfl (fun ls hl => ?_)
  refine lv_lload_n hx hb dX8_fraction_3 rfl (lv_at hl 2 rfl) ?_
  refine lv_lstore (lv' := [(7, .long x2), (5, .long x1), (0, .long x1), (2, .long x2), (4, .int x3)]) hx hb dX8_fraction_4 hl (by decide) rfl (fun ls hl => ?_)
  have hL6 : ∀ (fn : Nat) (l5_6 : Int64) (l7_6 : Int64), LX8_fraction_6 x1 x2 x3 fn l5_6 l7_6 = some r → ∀ (H : Heap) (locs : List Loc), va_P (dC, dI) vwCl (fl []) H → va_D A (fl []) → va_S A s.heap H locs → ∀ ls : Array Slot, lv_has ls 11 [(0, .long x1), (2, .long x2), (4, .int x3), (5, .long l5_6), (7, .long l7_6)] → W p l e (headSpec wsX8_fraction rmX8_fraction).room s m [.long x1, .long x2, .int x3].toArray below meth c H locs 0 0 (MQ below (kQl dC dI r (fl []) A) [.long x1, .long x2, .int x3].toArray s 0 0 A) (F0 m 6 ls []) := by
    clear hm hP hD hS hl
    intro n6
    induction n6 with
    | zero => intro l5_6 l7_6 hm; rw [LX8_fraction_6] at hm; cases hm
    | succ n6 ih6 =>
      intro l5_6 l7_6 hm H locs hP hD hS ls hl
      rw [LX8_fraction_6] at hm
      refine lv_lload hx hb dX8_fraction_6 (lv_at hl 4 rfl) ?_
      refine lv_lconst (v := 0) hx hb dX8_fraction_8 (by decide) ?_
      refine W.lcmp hx hb dX8_fraction_9 ?_
      refine lv_if_eq (tgt := 31) hx hb dX8_fraction_10 (by decide) (fun c10 => ?_) (fun c10 => ?_)
      · replace hm := it_t c10 hm
        refine lv_iload hx hb dX8_fraction_31 (lv_at hl 2 rfl) ?_
        refine lv_if_ne (tgt := 43) hx hb dX8_fraction_33 (by decide) (fun c33 => ?_) (fun c33 => ?_)
        · replace hm := it_f c33 hm
          refine lv_lload_n hx hb dX8_fraction_43 rfl (lv_at hl 1 rfl) ?_
          refine lv_lload hx hb dX8_fraction_44 (lv_at hl 3 rfl) ?_
          obtain ⟨hg46, hm⟩ := gd_e hm
          refine lv_ldiv hx hb dX8_fraction_46 hg46 ?_
          cases hm
          exact k_lret hx hb hr hlocks hP hS dX8_fraction_47
        · replace hm := it_t c33 hm
          refine lv_lload_n hx hb dX8_fraction_36 rfl (lv_at hl 0 rfl) ?_
          refine lv_lload hx hb dX8_fraction_37 (lv_at hl 3 rfl) ?_
          obtain ⟨hg39, hm⟩ := gd_e hm
          refine lv_ldiv hx hb dX8_fraction_39 hg39 ?_
          refine lv_goto (tgt := 47) hx hb dX8_fraction_40 (by decide) ?_
          cases hm
          exact k_lret hx hb hr hlocks hP hS dX8_fraction_47
      · replace hm := it_f c10 hm
        refine lv_lload hx hb dX8_fraction_13 (lv_at hl 3 rfl) ?_
        refine lv_lload hx hb dX8_fraction_15 (lv_at hl 4 rfl) ?_
        obtain ⟨hg17, hm⟩ := gd_e hm
        refine lv_lrem hx hb dX8_fraction_17 hg17 ?_
        refine lv_lstore (lv' := [(9, .long (l5_6 - l5_6 / l7_6 * l7_6)), (0, .long x1), (2, .long x2), (4, .int x3), (5, .long l5_6), (7, .long l7_6)]) hx hb dX8_fraction_18 hl (by decide) rfl (fun ls hl => ?_)
        refine lv_lload hx hb dX8_fraction_20 (lv_at hl 5 rfl) ?_
        refine lv_lstore (lv' := [(5, .long l7_6), (9, .long (l5_6 - l5_6 / l7_6 * l7_6)), (0, .long x1), (2, .long x2), (4, .int x3), (7, .long l7_6)]) hx hb dX8_fraction_22 hl (by decide) rfl (fun ls hl => ?_)
        refine lv_lload hx hb dX8_fraction_24 (lv_at hl 1 rfl) ?_
        refine lv_lstore (lv' := [(7, .long (l5_6 - l5_6 / l7_6 * l7_6)), (5, .long l7_6), (9, .long (l5_6 - l5_6 / l7_6 * l7_6)), (0, .long x1), (2, .long x2), (4, .int x3)]) hx hb dX8_fraction_26 hl (by decide) rfl (fun ls hl => ?_)
        refine lv_goto (tgt := 6) hx hb dX8_fraction_28 (by decide) ?_
        exact ih6 l7_6 (l5_6 - l5_6 / l7_6 * l7_6) hm _ _ hP hD hS _ (lv_sub hl [3, 4, 5, 1, 0] rfl)
  exact hL6 _ _ _ hm _ _ hP hD hS _ (lv_sub hl [2, 3, 4, 1, 0] rfl)
def LX8_odds_85 (k : Int32 → Int32 → Int32 → (Nat → Int32) → (Nat → Int32) → (Nat → Int32) → Int32 → Int32 → Int32 → Int32 → Int32 → Int32 → (Nat → Int32) → (Nat → Int32) → Option (Int64 × (Nat → Int32) × (Nat → Int32) × (Nat → Int32) × Int32 × Int32 × Int32 × Int32 × Int32 × Int32 × (Nat → Int32) × (Nat → Int32))) (fu : Nat) (mrules : Nat → Int32) (msizes : Nat → Int32) (mletters : Nat → Int32) (mbegins : Nat → Int32) (mwords : Nat → Int32) (x1 : Int32) (x2 : Int32) (l8_67 : Int32) : Nat → Int32 → Int32 → Int32 → (Nat → Int32) → (Nat → Int32) → (Nat → Int32) → Int32 → Int32 → Int32 → Int32 → Int32 → Int32 → (Nat → Int32) → (Nat → Int32) → Option (Int64 × (Nat → Int32) × (Nat → Int32) × (Nat → Int32) × Int32 × Int32 × Int32 × Int32 × Int32 × Int32 × (Nat → Int32) × (Nat → Int32))
  | 0, _, _, _, _, _, _, _, _, _, _, _, _, _, _ => none
  | n85 + 1, l6_85, l7_85, l9_85, mnow_85, mmind_85, mread_85, msize_85, mat_85, mwell_85, mwithin_85, msum_85, mbear_85, mnames_85, mdrifts_85 => if (mnow_85 54) ≤ l9_85 then (k l6_85 l7_85 l9_85 mnow_85 mmind_85 mread_85 msize_85 mat_85 mwell_85 mwithin_85 msum_85 mbear_85 mnames_85 mdrifts_85) else (bd1 (fX8_holds mnow_85 x1 l8_67 l9_85) (fun mnow_103 => bd12 (fX8_on fu mnow_103 mmind_85 mrules msizes mread_85 msize_85 mat_85 mwell_85 mwithin_85 msum_85 mbear_85 mnames_85 mletters mbegins mwords mdrifts_85 x2 2) (fun r114 mnow_114 mmind_114 mread_114 msize_114 mat_114 mwell_114 mwithin_114 msum_114 mbear_114 mnames_114 mdrifts_114 => LX8_odds_85 k fu mrules msizes mletters mbegins mwords x1 x2 l8_67 n85 (l6_85 + 1) (l7_85 + ((r114 >>> (x1 &&& 31)) &&& 1)) (l9_85 + 1) mnow_114 mmind_114 mread_114 msize_114 mat_114 mwell_114 mwithin_114 msum_114 mbear_114 mnames_114 mdrifts_114)))
def LX8_odds_67 (fu : Nat) (mrules : Nat → Int32) (msizes : Nat → Int32) (mletters : Nat → Int32) (mbegins : Nat → Int32) (mwords : Nat → Int32) (x1 : Int32) (x2 : Int32) (x3 : Int32) (r45 : Int32) (r53 : Int32) : Nat → Int32 → Int32 → Int32 → (Nat → Int32) → (Nat → Int32) → (Nat → Int32) → Int32 → Int32 → Int32 → Int32 → Int32 → Int32 → (Nat → Int32) → (Nat → Int32) → Option (Int64 × (Nat → Int32) × (Nat → Int32) × (Nat → Int32) × Int32 × Int32 × Int32 × Int32 × Int32 × Int32 × (Nat → Int32) × (Nat → Int32))
  | 0, _, _, _, _, _, _, _, _, _, _, _, _, _, _ => none
  | n67 + 1, l6_67, l7_67, l8_67, mnow_67, mmind_67, mread_67, msize_67, mat_67, mwell_67, mwithin_67, msum_67, mbear_67, mnames_67, mdrifts_67 => if (mnow_67 54) ≤ l8_67 then (bd1 (fX8_holds mnow_67 x1 r45 r53) (fun mnow_142 => bd1 (fX8_fraction fu l7_67.toInt64 l6_67.toInt64 x3) (fun r152 => some (r152, mnow_142, mmind_67, mread_67, msize_67, mat_67, mwell_67, mwithin_67, msum_67, mbear_67, mnames_67, mdrifts_67)))) else (LX8_odds_85 (fun l6_85 l7_85 l9_85 mnow_85 mmind_85 mread_85 msize_85 mat_85 mwell_85 mwithin_85 msum_85 mbear_85 mnames_85 mdrifts_85 => LX8_odds_67 fu mrules msizes mletters mbegins mwords x1 x2 x3 r45 r53 n67 l6_85 l7_85 (l8_67 + 1) mnow_85 mmind_85 mread_85 msize_85 mat_85 mwell_85 mwithin_85 msum_85 mbear_85 mnames_85 mdrifts_85) fu mrules msizes mletters mbegins mwords x1 x2 l8_67 fu l6_67 l7_67 (l8_67 + 1) mnow_67 mmind_67 mread_67 msize_67 mat_67 mwell_67 mwithin_67 msum_67 mbear_67 mnames_67 mdrifts_67)
def fX8_odds (fu : Nat) (mnow : Nat → Int32) (mmind : Nat → Int32) (mrules : Nat → Int32) (msizes : Nat → Int32) (mread : Nat → Int32) (msize : Int32) (mat : Int32) (mwell : Int32) (mwithin : Int32) (msum : Int32) (mbear : Int32) (mnames : Nat → Int32) (mletters : Nat → Int32) (mbegins : Nat → Int32) (mwords : Nat → Int32) (mdrifts : Nat → Int32) (x1 : Int32) (x2 : Int32) (x3 : Int32) : Option (Int64 × (Nat → Int32) × (Nat → Int32) × (Nat → Int32) × Int32 × Int32 × Int32 × Int32 × Int32 × Int32 × (Nat → Int32) × (Nat → Int32)) := bd1 (fX8_isLeaf mnow x1) (fun r2 => if r2 = 0 then (some (((-9223372036854775808) : Int64), mnow, mmind, mread, msize, mat, mwell, mwithin, msum, mbear, mnames, mdrifts)) else (bd1 (fX8_isIn x2 0 20) (fun r12 => if r12 = 0 then (some (((-9223372036854775808) : Int64), mnow, mmind, mread, msize, mat, mwell, mwithin, msum, mbear, mnames, mdrifts)) else (bd1 (fX8_isIn x3 0 1) (fun r21 => if r21 = 0 then (some (((-9223372036854775808) : Int64), mnow, mmind, mread, msize, mat, mwell, mwithin, msum, mbear, mnames, mdrifts)) else (if 2 ≤ (mnow 54) then (bd1 (fX8_holder mnow x1 1) (fun r45 => bd1 (fX8_holder mnow x1 2) (fun r53 => LX8_odds_67 fu mrules msizes mletters mbegins mwords x1 x2 x3 r45 r53 fu 0 0 0 mnow mmind mread msize mat mwell mwithin msum mbear mnames mdrifts))) else (some (((-9223372036854775808) : Int64), mnow, mmind, mread, msize, mat, mwell, mwithin, msum, mbear, mnames, mdrifts))))))))
theorem hinX8_odds_X8 : ∀ w ∈ u_ws RX8 TX8 29, w ∈ wsX8_odds := fun _ h => List.mem_cons_of_mem _ (List.mem_append_right _ h)
abbrev rmX8_odds : Room := { frames := 261, cells := 0, slots := 0, locals := 7057 }
set_option maxHeartbeats 4000000 in
set_option maxRecDepth 100000 in
theorem ctX8_odds {l : Launch} {dC : Nat → ClassId} {dI : Nat → Nat → Nat} {kc : Nat → ClassId} {m_o m_now m_mind m_then m_text m_rules m_sizes m_read m_names m_letters m_begins m_words m_drifts m_above m_bodies m_trace m_sorts m_lengths m_items m_moved : Nat} {mnow : Nat → Int32} {mmind : Nat → Int32} {mthen : Nat → Int32} {mkept : Int32} {mtext : Nat → Int32} {mtexted : Int32} {mrules : Nat → Int32} {msizes : Nat → Int32} {mruled : Int32} {mread : Nat → Int32} {msize : Int32} {mat : Int32} {mwell : Int32} {mwithin : Int32} {msum : Int32} {mbear : Int32} {mnames : Nat → Int32} {mletters : Nat → Int32} {mbegins : Nat → Int32} {mwords : Nat → Int32} {mdrifts : Nat → Int32} {mabove : Nat → Int32} {mbodies : Nat → Int32} {mtrace : Nat → Int32} {mran : Int32} {msorts : Nat → Int32} {mlengths : Nat → Int32} {mitems : Nat → Int64} {mmoved : Nat → Int64} {x1 : Int32} {x2 : Int32} {x3 : Int32} {fu : Nat} {r : Int64} {mnow' : Nat → Int32} {mmind' : Nat → Int32} {mread' : Nat → Int32} {msize' : Int32} {mat' : Int32} {mwell' : Int32} {mwithin' : Int32} {msum' : Int32} {mbear' : Int32} {mnames' : Nat → Int32} {mdrifts' : Nat → Int32} (hm : fX8_odds fu mnow mmind mrules msizes mread msize mat mwell mwithin msum mbear mnames mletters mbegins mwords mdrifts x1 x2 x3 = some (r, mnow', mmind', mread', msize', mat', mwell', mwithin', msum', mbear', mnames', mdrifts')) : ∀ sz : Nat, Met l yX8_odds wsX8_odds rmX8_odds (kPc dC dI kc [.ref m_o, .int x1, .int x2, .int x3] (fl [wdX8 kc m_o m_now m_mind m_then m_text m_rules m_sizes m_read m_names m_letters m_begins m_words m_drifts m_above m_bodies m_trace m_sorts m_lengths m_items m_moved mnow mmind mthen mkept mtext mtexted mrules msizes mruled mread msize mat mwell mwithin msum mbear mnames mletters mbegins mwords mdrifts mabove mbodies mtrace mran msorts mlengths mitems mmoved]) sz) (kQl dC dI r (fl [wdX8 kc m_o m_now m_mind m_then m_text m_rules m_sizes m_read m_names m_letters m_begins m_words m_drifts m_above m_bodies m_trace m_sorts m_lengths m_items m_moved mnow' mmind' mthen mkept mtext mtexted mrules msizes mruled mread' msize' mat' mwell' mwithin' msum' mbear' mnames' mletters mbegins mwords mdrifts' mabove mbodies mtrace mran msorts mlengths mitems mmoved]) (va_A (fl [wdX8 kc m_o m_now m_mind m_then m_text m_rules m_sizes m_read m_names m_letters m_begins m_words m_drifts m_above m_bodies m_trace m_sorts m_lengths m_items m_moved mnow mmind mthen mkept mtext mtexted mrules msizes mruled mread msize mat mwell mwithin msum mbear mnames mletters mbegins mwords mdrifts mabove mbodies mtrace mran msorts mlengths mitems mmoved]) sz)) 0 0 (va_A (fl [wdX8 kc m_o m_now m_mind m_then m_text m_rules m_sizes m_read m_names m_letters m_begins m_words m_drifts m_above m_bodies m_trace m_sorts m_lengths m_items m_moved mnow mmind mthen mkept mtext mtexted mrules msizes mruled mread msize mat mwell mwithin msum mbear mnames mletters mbegins mwords mdrifts mabove mbodies mtrace mran msorts mlengths mitems mmoved]) sz) := by
  intro sz
  refine kMet (cc := cX8_odds) (maxL := 10) (ret := (some .long)) (Qf := fun A => kQl dC dI r (fl [wdX8 kc m_o m_now m_mind m_then m_text m_rules m_sizes m_read m_names m_letters m_begins m_words m_drifts m_above m_bodies m_trace m_sorts m_lengths m_items m_moved mnow' mmind' mthen mkept mtext mtexted mrules msizes mruled mread' msize' mat' mwell' mwithin' msum' mbear' mnames' mletters mbegins mwords mdrifts' mabove mbodies mtrace mran msorts mlengths mitems mmoved]) A) (by decide) rfl (Nat.le_of_ble_eq_true rfl) ?_
  intro p e s m below meth c A ls hx hb hr hml hts hown hlocks hname hsz hA hP hK hD hl
  have hS : va_S A s.heap s.heap [] := va_S.rf
  have hl : lv_has ls 10 [(0, .ref m_o), (1, .int x1), (2, .int x2), (3, .int x3)] := hl
  unfold fX8_odds at hm
  refine lv_aload_n hx hb dX8_odds_0 rfl (lv_at hl 0 rfl) ?_
  refine lv_iload_n hx hb dX8_odds_1 rfl (lv_at hl 1 rfl) ?_
  obtain ⟨r2, hc2, hm⟩ := bd1_e hm
  refine k_callGVi (dC := dC) (dI := dI) (kc := kc) (As := [.int x1]) (rest := []) (Gs' := [wdX8 kc m_o m_now m_mind m_then m_text m_rules m_sizes m_read m_names m_letters m_begins m_words m_drifts m_above m_bodies m_trace m_sorts m_lengths m_items m_moved mnow mmind mthen mkept mtext mtexted mrules msizes mruled mread msize mat mwell mwithin msum mbear mnames mletters mbegins mwords mdrifts mabove mbodies mtrace mran msorts mlengths mitems mmoved]) hx hb hml hown hts hK hP hD hS hA (ctX8_isLeaf (m_o := m_o) (m_now := m_now) (m_mind := m_mind) (m_then := m_then) (m_text := m_text) (m_rules := m_rules) (m_sizes := m_sizes) (m_read := m_read) (m_names := m_names) (m_letters := m_letters) (m_begins := m_begins) (m_words := m_words) (m_drifts := m_drifts) (m_above := m_above) (m_bodies := m_bodies) (m_trace := m_trace) (m_sorts := m_sorts) (m_lengths := m_lengths) (m_items := m_items) (m_moved := m_moved) (mnow := mnow) (mmind := mmind) (mthen := mthen) (mkept := mkept) (mtext := mtext) (mtexted := mtexted) (mrules := mrules) (msizes := msizes) (mruled := mruled) (mread := mread) (msize := msize) (mat := mat) (mwell := mwell) (mwithin := mwithin) (msum := msum) (mbear := mbear) (mnames := mnames) (mletters := mletters) (mbegins := mbegins) (mwords := mwords) (mdrifts := mdrifts) (mabove := mabove) (mbodies := mbodies) (mtrace := mtrace) (mran := mran) (msorts := msorts) (mlengths := mlengths) (mitems := mitems) (mmoved := mmoved) (x1 := x1) hc2) (cwV 1 hts gX8_odds_X8_isLeaf rfl rfl rfl (by decide +kernel) ⟨Nat.le_of_ble_eq_true rfl, Nat.le_of_ble_eq_true rfl⟩) [0] rfl (by decide) 8 rfl rfl rfl rfl hl rfl (Nat.le_of_ble_eq_true rfl) dX8_odds_2 ⟨Nat.zero_le _, Nat.zero_le _⟩ rfl rfl rfl (fun H locs hP hD hS => ?_)
  refine lv_if_eq (tgt := 38) hx hb dX8_odds_5 (by decide) (fun c5 => ?_) (fun c5 => ?_)
  · replace hm := it_t c5 hm
    refine lv_ldc2 hx hb hown (hts _ (List.mem_of_getElem? (i := 2) rfl)) dX8_odds_38 ?_
    cases hm
    exact k_lret hx hb hr hlocks hP hS dX8_odds_41
  · replace hm := it_f c5 hm
    refine lv_iload_n hx hb dX8_odds_8 rfl (lv_at hl 2 rfl) ?_
    refine lv_iconst (v := 0) hx hb dX8_odds_9 (by decide) ?_
    refine lv_bipush (v := 20) hx hb dX8_odds_10 (by decide) ?_
    obtain ⟨r12, hc12, hm⟩ := bd1_e hm
    refine k_callGSi (dC := dC) (dI := dI) (kc := kc) (As := [.int x2, .int 0, .int 20]) (rest := []) (Gs' := [wdX8 kc m_o m_now m_mind m_then m_text m_rules m_sizes m_read m_names m_letters m_begins m_words m_drifts m_above m_bodies m_trace m_sorts m_lengths m_items m_moved mnow mmind mthen mkept mtext mtexted mrules msizes mruled mread msize mat mwell mwithin msum mbear mnames mletters mbegins mwords mdrifts mabove mbodies mtrace mran msorts mlengths mitems mmoved]) hx hb hml hown hts hK hP hD hS hA (ctX8_isIn (x1 := x2) (x2 := 0) (x3 := 20) hc12) (va_cwS 3 hts gX8_odds_X8_isIn rfl rfl rfl (by decide +kernel) ⟨Nat.le_of_ble_eq_true rfl, Nat.le_of_ble_eq_true rfl⟩) [] rfl (by decide) rfl hl rfl (Nat.le_of_ble_eq_true rfl) dX8_odds_12 ⟨Nat.zero_le _, Nat.zero_le _⟩ rfl rfl rfl (fun H locs hP hD hS => ?_)
    refine lv_if_eq (tgt := 38) hx hb dX8_odds_15 (by decide) (fun c15 => ?_) (fun c15 => ?_)
    · replace hm := it_t c15 hm
      refine lv_ldc2 hx hb hown (hts _ (List.mem_of_getElem? (i := 2) rfl)) dX8_odds_38 ?_
      cases hm
      exact k_lret hx hb hr hlocks hP hS dX8_odds_41
    · replace hm := it_f c15 hm
      refine lv_iload_n hx hb dX8_odds_18 rfl (lv_at hl 3 rfl) ?_
      refine lv_iconst (v := 0) hx hb dX8_odds_19 (by decide) ?_
      refine lv_iconst (v := 1) hx hb dX8_odds_20 (by decide) ?_
      obtain ⟨r21, hc21, hm⟩ := bd1_e hm
      refine k_callGSi (dC := dC) (dI := dI) (kc := kc) (As := [.int x3, .int 0, .int 1]) (rest := []) (Gs' := [wdX8 kc m_o m_now m_mind m_then m_text m_rules m_sizes m_read m_names m_letters m_begins m_words m_drifts m_above m_bodies m_trace m_sorts m_lengths m_items m_moved mnow mmind mthen mkept mtext mtexted mrules msizes mruled mread msize mat mwell mwithin msum mbear mnames mletters mbegins mwords mdrifts mabove mbodies mtrace mran msorts mlengths mitems mmoved]) hx hb hml hown hts hK hP hD hS hA (ctX8_isIn (x1 := x3) (x2 := 0) (x3 := 1) hc21) (va_cwS 3 hts gX8_odds_X8_isIn rfl rfl rfl (by decide +kernel) ⟨Nat.le_of_ble_eq_true rfl, Nat.le_of_ble_eq_true rfl⟩) [] rfl (by decide) rfl hl rfl (Nat.le_of_ble_eq_true rfl) dX8_odds_21 ⟨Nat.zero_le _, Nat.zero_le _⟩ rfl rfl rfl (fun H locs hP hD hS => ?_)
      refine lv_if_eq (tgt := 38) hx hb dX8_odds_24 (by decide) (fun c24 => ?_) (fun c24 => ?_)
      · replace hm := it_t c24 hm
        refine lv_ldc2 hx hb hown (hts _ (List.mem_of_getElem? (i := 2) rfl)) dX8_odds_38 ?_
        cases hm
        exact k_lret hx hb hr hlocks hP hS dX8_odds_41
      · replace hm := it_f c24 hm
        refine lv_aload_n hx hb dX8_odds_27 rfl (lv_at hl 0 rfl) ?_
        refine va_get (D := (dC, dI)) (ci := 8) (v := .ref m_now) (C := RX8) (T := TX8) (N := 29) hx hb hts hinX8_odds_X8 hown hK hP 0 rfl rfl 0 (by decide) (hts _ (List.mem_of_getElem? (i := 1) rfl)) (fun _ h9 => h9) rfl dX8_odds_28 ?_
        refine lv_bipush (v := 54) hx hb dX8_odds_31 (by decide) ?_
        refine k_iald (D := (dC, dI)) hx hb hK hP 1 1 rfl rfl (k := 54) (by decide) (show ¬ ((54 : Int32) < 0 ∨ 113 ≤ (54 : Int32).toNatClampNeg) from by decide) dX8_odds_33 ?_
        refine lv_iconst (v := 2) hx hb dX8_odds_34 (by decide) ?_
        refine lv_icmp_ge (tgt := 42) hx hb dX8_odds_35 (by decide) (fun c35 => ?_) (fun c35 => ?_)
        · replace hm := it_t c35 hm
          refine lv_aload_n hx hb dX8_odds_42 rfl (lv_at hl 0 rfl) ?_
          refine lv_iload_n hx hb dX8_odds_43 rfl (lv_at hl 1 rfl) ?_
          refine lv_iconst (v := 1) hx hb dX8_odds_44 (by decide) ?_
          obtain ⟨r45, hc45, hm⟩ := bd1_e hm
          refine k_callGVi (dC := dC) (dI := dI) (kc := kc) (As := [.int x1, .int 1]) (rest := []) (Gs' := [wdX8 kc m_o m_now m_mind m_then m_text m_rules m_sizes m_read m_names m_letters m_begins m_words m_drifts m_above m_bodies m_trace m_sorts m_lengths m_items m_moved mnow mmind mthen mkept mtext mtexted mrules msizes mruled mread msize mat mwell mwithin msum mbear mnames mletters mbegins mwords mdrifts mabove mbodies mtrace mran msorts mlengths mitems mmoved]) hx hb hml hown hts hK hP hD hS hA (ctX8_holder (m_o := m_o) (m_now := m_now) (m_mind := m_mind) (m_then := m_then) (m_text := m_text) (m_rules := m_rules) (m_sizes := m_sizes) (m_read := m_read) (m_names := m_names) (m_letters := m_letters) (m_begins := m_begins) (m_words := m_words) (m_drifts := m_drifts) (m_above := m_above) (m_bodies := m_bodies) (m_trace := m_trace) (m_sorts := m_sorts) (m_lengths := m_lengths) (m_items := m_items) (m_moved := m_moved) (mnow := mnow) (mmind := mmind) (mthen := mthen) (mkept := mkept) (mtext := mtext) (mtexted := mtexted) (mrules := mrules) (msizes := msizes) (mruled := mruled) (mread := mread) (msize := msize) (mat := mat) (mwell := mwell) (mwithin := mwithin) (msum := msum) (mbear := mbear) (mnames := mnames) (mletters := mletters) (mbegins := mbegins) (mwords := mwords) (mdrifts := mdrifts) (mabove := mabove) (mbodies := mbodies) (mtrace := mtrace) (mran := mran) (msorts := msorts) (mlengths := mlengths) (mitems := mitems) (mmoved := mmoved) (x1 := x1) (x2 := 1) hc45) (cwV 2 hts gX8_odds_X8_holder rfl rfl rfl (by decide +kernel) ⟨Nat.le_of_ble_eq_true rfl, Nat.le_of_ble_eq_true rfl⟩) [0] rfl (by decide) 8 rfl rfl rfl rfl hl rfl (Nat.le_of_ble_eq_true rfl) dX8_odds_45 ⟨Nat.zero_le _, Nat.zero_le _⟩ rfl rfl rfl (fun H locs hP hD hS => ?_)
          refine lv_istore (lv' := [(4, .int r45), (0, .ref m_o), (1, .int x1), (2, .int x2), (3, .int x3)]) hx hb dX8_odds_48 hl (by decide) rfl (fun ls hl => ?_)
          refine lv_aload_n hx hb dX8_odds_50 rfl (lv_at hl 1 rfl) ?_
          refine lv_iload_n hx hb dX8_odds_51 rfl (lv_at hl 2 rfl) ?_
          refine lv_iconst (v := 2) hx hb dX8_odds_52 (by decide) ?_
          obtain ⟨r53, hc53, hm⟩ := bd1_e hm
          refine k_callGVi (dC := dC) (dI := dI) (kc := kc) (As := [.int x1, .int 2]) (rest := []) (Gs' := [wdX8 kc m_o m_now m_mind m_then m_text m_rules m_sizes m_read m_names m_letters m_begins m_words m_drifts m_above m_bodies m_trace m_sorts m_lengths m_items m_moved mnow mmind mthen mkept mtext mtexted mrules msizes mruled mread msize mat mwell mwithin msum mbear mnames mletters mbegins mwords mdrifts mabove mbodies mtrace mran msorts mlengths mitems mmoved]) hx hb hml hown hts hK hP hD hS hA (ctX8_holder (m_o := m_o) (m_now := m_now) (m_mind := m_mind) (m_then := m_then) (m_text := m_text) (m_rules := m_rules) (m_sizes := m_sizes) (m_read := m_read) (m_names := m_names) (m_letters := m_letters) (m_begins := m_begins) (m_words := m_words) (m_drifts := m_drifts) (m_above := m_above) (m_bodies := m_bodies) (m_trace := m_trace) (m_sorts := m_sorts) (m_lengths := m_lengths) (m_items := m_items) (m_moved := m_moved) (mnow := mnow) (mmind := mmind) (mthen := mthen) (mkept := mkept) (mtext := mtext) (mtexted := mtexted) (mrules := mrules) (msizes := msizes) (mruled := mruled) (mread := mread) (msize := msize) (mat := mat) (mwell := mwell) (mwithin := mwithin) (msum := msum) (mbear := mbear) (mnames := mnames) (mletters := mletters) (mbegins := mbegins) (mwords := mwords) (mdrifts := mdrifts) (mabove := mabove) (mbodies := mbodies) (mtrace := mtrace) (mran := mran) (msorts := msorts) (mlengths := mlengths) (mitems := mitems) (mmoved := mmoved) (x1 := x1) (x2 := 2) hc53) (cwV 2 hts gX8_odds_X8_holder rfl rfl rfl (by decide +kernel) ⟨Nat.le_of_ble_eq_true rfl, Nat.le_of_ble_eq_true rfl⟩) [0] rfl (by decide) 8 rfl rfl rfl rfl hl rfl (Nat.le_of_ble_eq_true rfl) dX8_odds_53 ⟨Nat.zero_le _, Nat.zero_le _⟩ rfl rfl rfl (fun H locs hP hD hS => ?_)
          refine lv_istore (lv' := [(5, .int r53), (4, .int r45), (0, .ref m_o), (1, .int x1), (2, .int x2), (3, .int x3)]) hx hb dX8_odds_56 hl (by decide) rfl (fun ls hl => ?_)
          refine lv_iconst (v := 0) hx hb dX8_odds_58 (by decide) ?_
          refine lv_istore (lv' := [(6, .int 0), (5, .int r53), (4, .int r45), (0, .ref m_o), (1, .int x1), (2, .int x2), (3, .int x3)]) hx hb dX8_odds_59 hl (by decide) rfl (fun ls hl => ?_)
          refine lv_iconst (v := 0) hx hb dX8_odds_61 (by decide) ?_
          refine lv_istore (lv' := [(7, .int 0), (6, .int 0), (5, .int r53), (4, .int r45), (0, .ref m_o), (1, .int x1), (2, .int x2), (3, .int x3)]) hx hb dX8_odds_62 hl (by decide) rfl (fun ls hl => ?_)
          refine lv_iconst (v := 0) hx hb dX8_odds_64 (by decide) ?_
          refine lv_istore (lv' := [(8, .int 0), (7, .int 0), (6, .int 0), (5, .int r53), (4, .int r45), (0, .ref m_o), (1, .int x1), (2, .int x2), (3, .int x3)]) hx hb dX8_odds_65 hl (by decide) rfl (fun ls hl => ?_)
          have hL67 : ∀ (fn : Nat) (l6_67 : Int32) (l7_67 : Int32) (l8_67 : Int32) (mnow_67 : Nat → Int32) (mmind_67 : Nat → Int32) (mread_67 : Nat → Int32) (msize_67 : Int32) (mat_67 : Int32) (mwell_67 : Int32) (mwithin_67 : Int32) (msum_67 : Int32) (mbear_67 : Int32) (mnames_67 : Nat → Int32) (mdrifts_67 : Nat → Int32), LX8_odds_67 fu mrules msizes mletters mbegins mwords x1 x2 x3 r45 r53 fn l6_67 l7_67 l8_67 mnow_67 mmind_67 mread_67 msize_67 mat_67 mwell_67 mwithin_67 msum_67 mbear_67 mnames_67 mdrifts_67 = some (r, mnow', mmind', mread', msize', mat', mwell', mwithin', msum', mbear', mnames', mdrifts') → ∀ (H : Heap) (locs : List Loc), va_P (dC, dI) vwCl (fl [wdX8 kc m_o m_now m_mind m_then m_text m_rules m_sizes m_read m_names m_letters m_begins m_words m_drifts m_above m_bodies m_trace m_sorts m_lengths m_items m_moved mnow_67 mmind_67 mthen mkept mtext mtexted mrules msizes mruled mread_67 msize_67 mat_67 mwell_67 mwithin_67 msum_67 mbear_67 mnames_67 mletters mbegins mwords mdrifts_67 mabove mbodies mtrace mran msorts mlengths mitems mmoved]) H → va_D A (fl [wdX8 kc m_o m_now m_mind m_then m_text m_rules m_sizes m_read m_names m_letters m_begins m_words m_drifts m_above m_bodies m_trace m_sorts m_lengths m_items m_moved mnow_67 mmind_67 mthen mkept mtext mtexted mrules msizes mruled mread_67 msize_67 mat_67 mwell_67 mwithin_67 msum_67 mbear_67 mnames_67 mletters mbegins mwords mdrifts_67 mabove mbodies mtrace mran msorts mlengths mitems mmoved]) → va_S A s.heap H locs → ∀ ls : Array Slot, lv_has ls 10 [(0, .ref m_o), (1, .int x1), (2, .int x2), (3, .int x3), (4, .int r45), (5, .int r53), (6, .int l6_67), (7, .int l7_67), (8, .int l8_67)] → W p l e (headSpec wsX8_odds rmX8_odds).room s m [.ref m_o, .int x1, .int x2, .int x3].toArray below meth c H locs 0 0 (MQ below (kQl dC dI r (fl [wdX8 kc m_o m_now m_mind m_then m_text m_rules m_sizes m_read m_names m_letters m_begins m_words m_drifts m_above m_bodies m_trace m_sorts m_lengths m_items m_moved mnow' mmind' mthen mkept mtext mtexted mrules msizes mruled mread' msize' mat' mwell' mwithin' msum' mbear' mnames' mletters mbegins mwords mdrifts' mabove mbodies mtrace mran msorts mlengths mitems mmoved]) A) [.ref m_o, .int x1, .int x2, .int x3].toArray s 0 0 A) (F0 m 67 ls []) := by
            clear hm hP hD hS hl
            intro n67
            induction n67 with
            | zero => intro l6_67 l7_67 l8_67 mnow_67 mmind_67 mread_67 msize_67 mat_67 mwell_67 mwithin_67 msum_67 mbear_67 mnames_67 mdrifts_67 hm; rw [LX8_odds_67] at hm; cases hm
            | succ n67 ih67 =>
              intro l6_67 l7_67 l8_67 mnow_67 mmind_67 mread_67 msize_67 mat_67 mwell_67 mwithin_67 msum_67 mbear_67 mnames_67 mdrifts_67 hm H locs hP hD hS ls hl
              rw [LX8_odds_67] at hm
              refine lv_iload hx hb dX8_odds_67 (lv_at hl 8 rfl) ?_
              refine lv_aload_n hx hb dX8_odds_69 rfl (lv_at hl 0 rfl) ?_
              refine va_get (D := (dC, dI)) (ci := 8) (v := .ref m_now) (C := RX8) (T := TX8) (N := 29) hx hb hts hinX8_odds_X8 hown hK hP 0 rfl rfl 0 (by decide) (hts _ (List.mem_of_getElem? (i := 1) rfl)) (fun _ h9 => h9) rfl dX8_odds_70 ?_
              refine lv_bipush (v := 54) hx hb dX8_odds_73 (by decide) ?_
              refine k_iald (D := (dC, dI)) hx hb hK hP 1 1 rfl rfl (k := 54) (by decide) (show ¬ ((54 : Int32) < 0 ∨ 113 ≤ (54 : Int32).toNatClampNeg) from by decide) dX8_odds_75 ?_
              refine lv_icmp_ge (tgt := 136) hx hb dX8_odds_76 (by decide) (fun c76 => ?_) (fun c76 => ?_)
              · replace hm := it_t c76 hm
                refine lv_aload_n hx hb dX8_odds_136 rfl (lv_at hl 0 rfl) ?_
                refine lv_iload_n hx hb dX8_odds_137 rfl (lv_at hl 1 rfl) ?_
                refine lv_iload hx hb dX8_odds_138 (lv_at hl 4 rfl) ?_
                refine lv_iload hx hb dX8_odds_140 (lv_at hl 5 rfl) ?_
                obtain ⟨mnow_142, hc142, hm⟩ := bd1_e hm
                refine k_callGVv (dC := dC) (dI := dI) (kc := kc) (As := [.int x1, .int r45, .int r53]) (rest := []) (Gs' := [wdX8 kc m_o m_now m_mind m_then m_text m_rules m_sizes m_read m_names m_letters m_begins m_words m_drifts m_above m_bodies m_trace m_sorts m_lengths m_items m_moved mnow_142 mmind_67 mthen mkept mtext mtexted mrules msizes mruled mread_67 msize_67 mat_67 mwell_67 mwithin_67 msum_67 mbear_67 mnames_67 mletters mbegins mwords mdrifts_67 mabove mbodies mtrace mran msorts mlengths mitems mmoved]) hx hb hml hown hts hK hP hD hS hA (ctX8_holds (m_o := m_o) (m_now := m_now) (m_mind := m_mind) (m_then := m_then) (m_text := m_text) (m_rules := m_rules) (m_sizes := m_sizes) (m_read := m_read) (m_names := m_names) (m_letters := m_letters) (m_begins := m_begins) (m_words := m_words) (m_drifts := m_drifts) (m_above := m_above) (m_bodies := m_bodies) (m_trace := m_trace) (m_sorts := m_sorts) (m_lengths := m_lengths) (m_items := m_items) (m_moved := m_moved) (mnow := mnow_67) (mmind := mmind_67) (mthen := mthen) (mkept := mkept) (mtext := mtext) (mtexted := mtexted) (mrules := mrules) (msizes := msizes) (mruled := mruled) (mread := mread_67) (msize := msize_67) (mat := mat_67) (mwell := mwell_67) (mwithin := mwithin_67) (msum := msum_67) (mbear := mbear_67) (mnames := mnames_67) (mletters := mletters) (mbegins := mbegins) (mwords := mwords) (mdrifts := mdrifts_67) (mabove := mabove) (mbodies := mbodies) (mtrace := mtrace) (mran := mran) (msorts := msorts) (mlengths := mlengths) (mitems := mitems) (mmoved := mmoved) (x1 := x1) (x2 := r45) (x3 := r53) hc142) (cwV 3 hts gX8_odds_X8_holds rfl rfl rfl (by decide +kernel) ⟨Nat.le_of_ble_eq_true rfl, Nat.le_of_ble_eq_true rfl⟩) [0] rfl (by decide) 8 rfl rfl rfl rfl hl rfl (Nat.le_of_ble_eq_true rfl) dX8_odds_142 ⟨Nat.zero_le _, Nat.zero_le _⟩ rfl rfl rfl (fun H locs hP hD hS => ?_)
                refine lv_iload hx hb dX8_odds_145 (lv_at hl 7 rfl) ?_
                refine lv_i2l hx hb dX8_odds_147 rfl ?_
                refine lv_iload hx hb dX8_odds_148 (lv_at hl 6 rfl) ?_
                refine lv_i2l hx hb dX8_odds_150 rfl ?_
                refine lv_iload_n hx hb dX8_odds_151 rfl (lv_at hl 3 rfl) ?_
                obtain ⟨r152, hc152, hm⟩ := bd1_e hm
                refine k_callGSl (dC := dC) (dI := dI) (kc := kc) (As := [.long l7_67.toInt64, .long l6_67.toInt64, .int x3]) (rest := []) (Gs' := [wdX8 kc m_o m_now m_mind m_then m_text m_rules m_sizes m_read m_names m_letters m_begins m_words m_drifts m_above m_bodies m_trace m_sorts m_lengths m_items m_moved mnow_142 mmind_67 mthen mkept mtext mtexted mrules msizes mruled mread_67 msize_67 mat_67 mwell_67 mwithin_67 msum_67 mbear_67 mnames_67 mletters mbegins mwords mdrifts_67 mabove mbodies mtrace mran msorts mlengths mitems mmoved]) hx hb hml hown hts hK hP hD hS hA (ctX8_fraction (x1 := l7_67.toInt64) (x2 := l6_67.toInt64) (x3 := x3) hc152) (va_cwS 3 hts gX8_odds_X8_fraction rfl rfl rfl (by decide +kernel) ⟨Nat.le_of_ble_eq_true rfl, Nat.le_of_ble_eq_true rfl⟩) [] rfl (by decide) rfl hl rfl (Nat.le_of_ble_eq_true rfl) dX8_odds_152 ⟨Nat.zero_le _, Nat.zero_le _⟩ rfl rfl rfl (fun H locs hP hD hS => ?_)
                cases hm
                exact k_lret hx hb hr hlocks hP hS dX8_odds_155
              · replace hm := it_f c76 hm
                refine lv_iload hx hb dX8_odds_79 (lv_at hl 8 rfl) ?_
                refine lv_iconst (v := 1) hx hb dX8_odds_81 (by decide) ?_
                refine lv_iadd hx hb dX8_odds_82 ?_
                refine lv_istore (lv' := [(9, .int (l8_67 + 1)), (0, .ref m_o), (1, .int x1), (2, .int x2), (3, .int x3), (4, .int r45), (5, .int r53), (6, .int l6_67), (7, .int l7_67), (8, .int l8_67)]) hx hb dX8_odds_83 hl (by decide) rfl (fun ls hl => ?_)
                have hL85 : ∀ (fn : Nat) (l6_85 : Int32) (l7_85 : Int32) (l9_85 : Int32) (mnow_85 : Nat → Int32) (mmind_85 : Nat → Int32) (mread_85 : Nat → Int32) (msize_85 : Int32) (mat_85 : Int32) (mwell_85 : Int32) (mwithin_85 : Int32) (msum_85 : Int32) (mbear_85 : Int32) (mnames_85 : Nat → Int32) (mdrifts_85 : Nat → Int32), LX8_odds_85 (fun l6_85 l7_85 l9_85 mnow_85 mmind_85 mread_85 msize_85 mat_85 mwell_85 mwithin_85 msum_85 mbear_85 mnames_85 mdrifts_85 => LX8_odds_67 fu mrules msizes mletters mbegins mwords x1 x2 x3 r45 r53 n67 l6_85 l7_85 (l8_67 + 1) mnow_85 mmind_85 mread_85 msize_85 mat_85 mwell_85 mwithin_85 msum_85 mbear_85 mnames_85 mdrifts_85) fu mrules msizes mletters mbegins mwords x1 x2 l8_67 fn l6_85 l7_85 l9_85 mnow_85 mmind_85 mread_85 msize_85 mat_85 mwell_85 mwithin_85 msum_85 mbear_85 mnames_85 mdrifts_85 = some (r, mnow', mmind', mread', msize', mat', mwell', mwithin', msum', mbear', mnames', mdrifts') → ∀ (H : Heap) (locs : List Loc), va_P (dC, dI) vwCl (fl [wdX8 kc m_o m_now m_mind m_then m_text m_rules m_sizes m_read m_names m_letters m_begins m_words m_drifts m_above m_bodies m_trace m_sorts m_lengths m_items m_moved mnow_85 mmind_85 mthen mkept mtext mtexted mrules msizes mruled mread_85 msize_85 mat_85 mwell_85 mwithin_85 msum_85 mbear_85 mnames_85 mletters mbegins mwords mdrifts_85 mabove mbodies mtrace mran msorts mlengths mitems mmoved]) H → va_D A (fl [wdX8 kc m_o m_now m_mind m_then m_text m_rules m_sizes m_read m_names m_letters m_begins m_words m_drifts m_above m_bodies m_trace m_sorts m_lengths m_items m_moved mnow_85 mmind_85 mthen mkept mtext mtexted mrules msizes mruled mread_85 msize_85 mat_85 mwell_85 mwithin_85 msum_85 mbear_85 mnames_85 mletters mbegins mwords mdrifts_85 mabove mbodies mtrace mran msorts mlengths mitems mmoved]) → va_S A s.heap H locs → ∀ ls : Array Slot, lv_has ls 10 [(0, .ref m_o), (1, .int x1), (2, .int x2), (3, .int x3), (4, .int r45), (5, .int r53), (6, .int l6_85), (7, .int l7_85), (8, .int l8_67), (9, .int l9_85)] → W p l e (headSpec wsX8_odds rmX8_odds).room s m [.ref m_o, .int x1, .int x2, .int x3].toArray below meth c H locs 0 0 (MQ below (kQl dC dI r (fl [wdX8 kc m_o m_now m_mind m_then m_text m_rules m_sizes m_read m_names m_letters m_begins m_words m_drifts m_above m_bodies m_trace m_sorts m_lengths m_items m_moved mnow' mmind' mthen mkept mtext mtexted mrules msizes mruled mread' msize' mat' mwell' mwithin' msum' mbear' mnames' mletters mbegins mwords mdrifts' mabove mbodies mtrace mran msorts mlengths mitems mmoved]) A) [.ref m_o, .int x1, .int x2, .int x3].toArray s 0 0 A) (F0 m 85 ls []) := by
                  clear hm hP hD hS hl
                  intro n85
                  induction n85 with
                  | zero => intro l6_85 l7_85 l9_85 mnow_85 mmind_85 mread_85 msize_85 mat_85 mwell_85 mwithin_85 msum_85 mbear_85 mnames_85 mdrifts_85 hm; rw [LX8_odds_85] at hm; cases hm
                  | succ n85 ih85 =>
                    intro l6_85 l7_85 l9_85 mnow_85 mmind_85 mread_85 msize_85 mat_85 mwell_85 mwithin_85 msum_85 mbear_85 mnames_85 mdrifts_85 hm H locs hP hD hS ls hl
                    rw [LX8_odds_85] at hm
                    refine lv_iload hx hb dX8_odds_85 (lv_at hl 9 rfl) ?_
                    refine lv_aload_n hx hb dX8_odds_87 rfl (lv_at hl 0 rfl) ?_
                    refine va_get (D := (dC, dI)) (ci := 8) (v := .ref m_now) (C := RX8) (T := TX8) (N := 29) hx hb hts hinX8_odds_X8 hown hK hP 0 rfl rfl 0 (by decide) (hts _ (List.mem_of_getElem? (i := 1) rfl)) (fun _ h9 => h9) rfl dX8_odds_88 ?_
                    refine lv_bipush (v := 54) hx hb dX8_odds_91 (by decide) ?_
                    refine k_iald (D := (dC, dI)) hx hb hK hP 1 1 rfl rfl (k := 54) (by decide) (show ¬ ((54 : Int32) < 0 ∨ 113 ≤ (54 : Int32).toNatClampNeg) from by decide) dX8_odds_93 ?_
                    refine lv_icmp_ge (tgt := 130) hx hb dX8_odds_94 (by decide) (fun c94 => ?_) (fun c94 => ?_)
                    · replace hm := it_t c94 hm
                      try dsimp only at hm
                      refine lv_iinc (v := l8_67 + 1) (lv' := [(8, .int (l8_67 + 1)), (0, .ref m_o), (1, .int x1), (2, .int x2), (3, .int x3), (4, .int r45), (5, .int r53), (6, .int l6_85), (7, .int l7_85), (9, .int l9_85)]) hx hb dX8_odds_130 hl (k := 8) rfl rfl (by decide) rfl (fun ls hl => ?_)
                      refine lv_goto (tgt := 67) hx hb dX8_odds_133 (by decide) ?_
                      exact ih67 l6_85 l7_85 (l8_67 + 1) mnow_85 mmind_85 mread_85 msize_85 mat_85 mwell_85 mwithin_85 msum_85 mbear_85 mnames_85 mdrifts_85 hm _ _ hP hD hS _ (lv_sub hl [1, 2, 3, 4, 5, 6, 7, 8, 0] rfl)
                    · replace hm := it_f c94 hm
                      refine lv_aload_n hx hb dX8_odds_97 rfl (lv_at hl 0 rfl) ?_
                      refine lv_iload_n hx hb dX8_odds_98 rfl (lv_at hl 1 rfl) ?_
                      refine lv_iload hx hb dX8_odds_99 (lv_at hl 8 rfl) ?_
                      refine lv_iload hx hb dX8_odds_101 (lv_at hl 9 rfl) ?_
                      obtain ⟨mnow_103, hc103, hm⟩ := bd1_e hm
                      refine k_callGVv (dC := dC) (dI := dI) (kc := kc) (As := [.int x1, .int l8_67, .int l9_85]) (rest := []) (Gs' := [wdX8 kc m_o m_now m_mind m_then m_text m_rules m_sizes m_read m_names m_letters m_begins m_words m_drifts m_above m_bodies m_trace m_sorts m_lengths m_items m_moved mnow_103 mmind_85 mthen mkept mtext mtexted mrules msizes mruled mread_85 msize_85 mat_85 mwell_85 mwithin_85 msum_85 mbear_85 mnames_85 mletters mbegins mwords mdrifts_85 mabove mbodies mtrace mran msorts mlengths mitems mmoved]) hx hb hml hown hts hK hP hD hS hA (ctX8_holds (m_o := m_o) (m_now := m_now) (m_mind := m_mind) (m_then := m_then) (m_text := m_text) (m_rules := m_rules) (m_sizes := m_sizes) (m_read := m_read) (m_names := m_names) (m_letters := m_letters) (m_begins := m_begins) (m_words := m_words) (m_drifts := m_drifts) (m_above := m_above) (m_bodies := m_bodies) (m_trace := m_trace) (m_sorts := m_sorts) (m_lengths := m_lengths) (m_items := m_items) (m_moved := m_moved) (mnow := mnow_85) (mmind := mmind_85) (mthen := mthen) (mkept := mkept) (mtext := mtext) (mtexted := mtexted) (mrules := mrules) (msizes := msizes) (mruled := mruled) (mread := mread_85) (msize := msize_85) (mat := mat_85) (mwell := mwell_85) (mwithin := mwithin_85) (msum := msum_85) (mbear := mbear_85) (mnames := mnames_85) (mletters := mletters) (mbegins := mbegins) (mwords := mwords) (mdrifts := mdrifts_85) (mabove := mabove) (mbodies := mbodies) (mtrace := mtrace) (mran := mran) (msorts := msorts) (mlengths := mlengths) (mitems := mitems) (mmoved := mmoved) (x1 := x1) (x2 := l8_67) (x3 := l9_85) hc103) (cwV 3 hts gX8_odds_X8_holds rfl rfl rfl (by decide +kernel) ⟨Nat.le_of_ble_eq_true rfl, Nat.le_of_ble_eq_true rfl⟩) [0] rfl (by decide) 8 rfl rfl rfl rfl hl rfl (Nat.le_of_ble_eq_true rfl) dX8_odds_103 ⟨Nat.zero_le _, Nat.zero_le _⟩ rfl rfl rfl (fun H locs hP hD hS => ?_)
                      refine lv_iinc (v := l6_85 + 1) (lv' := [(6, .int (l6_85 + 1)), (0, .ref m_o), (1, .int x1), (2, .int x2), (3, .int x3), (4, .int r45), (5, .int r53), (7, .int l7_85), (8, .int l8_67), (9, .int l9_85)]) hx hb dX8_odds_106 hl (k := 6) rfl rfl (by decide) rfl (fun ls hl => ?_)
                      refine lv_iload hx hb dX8_odds_109 (lv_at hl 7 rfl) ?_
                      refine lv_aload_n hx hb dX8_odds_111 rfl (lv_at hl 1 rfl) ?_
                      refine lv_iload_n hx hb dX8_odds_112 rfl (lv_at hl 3 rfl) ?_
                      refine lv_iconst (v := 2) hx hb dX8_odds_113 (by decide) ?_
                      obtain ⟨r114, mnow_114, mmind_114, mread_114, msize_114, mat_114, mwell_114, mwithin_114, msum_114, mbear_114, mnames_114, mdrifts_114, hc114, hm⟩ := bd12_e hm
                      refine k_callGVi (dC := dC) (dI := dI) (kc := kc) (As := [.int x2, .int 2]) (rest := [.int l7_85]) (Gs' := [wdX8 kc m_o m_now m_mind m_then m_text m_rules m_sizes m_read m_names m_letters m_begins m_words m_drifts m_above m_bodies m_trace m_sorts m_lengths m_items m_moved mnow_114 mmind_114 mthen mkept mtext mtexted mrules msizes mruled mread_114 msize_114 mat_114 mwell_114 mwithin_114 msum_114 mbear_114 mnames_114 mletters mbegins mwords mdrifts_114 mabove mbodies mtrace mran msorts mlengths mitems mmoved]) hx hb hml hown hts hK hP hD hS hA (ctX8_on (m_o := m_o) (m_now := m_now) (m_mind := m_mind) (m_then := m_then) (m_text := m_text) (m_rules := m_rules) (m_sizes := m_sizes) (m_read := m_read) (m_names := m_names) (m_letters := m_letters) (m_begins := m_begins) (m_words := m_words) (m_drifts := m_drifts) (m_above := m_above) (m_bodies := m_bodies) (m_trace := m_trace) (m_sorts := m_sorts) (m_lengths := m_lengths) (m_items := m_items) (m_moved := m_moved) (mnow := mnow_103) (mmind := mmind_85) (mthen := mthen) (mkept := mkept) (mtext := mtext) (mtexted := mtexted) (mrules := mrules) (msizes := msizes) (mruled := mruled) (mread := mread_85) (msize := msize_85) (mat := mat_85) (mwell := mwell_85) (mwithin := mwithin_85) (msum := msum_85) (mbear := mbear_85) (mnames := mnames_85) (mletters := mletters) (mbegins := mbegins) (mwords := mwords) (mdrifts := mdrifts_85) (mabove := mabove) (mbodies := mbodies) (mtrace := mtrace) (mran := mran) (msorts := msorts) (mlengths := mlengths) (mitems := mitems) (mmoved := mmoved) (x1 := x2) (x2 := 2) hc114) (cwV 2 hts gX8_odds_X8_on rfl rfl rfl (by decide +kernel) ⟨Nat.le_of_ble_eq_true rfl, Nat.le_of_ble_eq_true rfl⟩) [0] rfl (by decide) 8 rfl rfl rfl rfl hl rfl (Nat.le_of_ble_eq_true rfl) dX8_odds_114 ⟨Nat.zero_le _, Nat.zero_le _⟩ rfl rfl rfl (fun H locs hP hD hS => ?_)
                      refine lv_iload_n hx hb dX8_odds_117 rfl (lv_at hl 2 rfl) ?_
                      refine lv_ishr hx hb dX8_odds_118 ?_
                      refine lv_iconst (v := 1) hx hb dX8_odds_119 (by decide) ?_
                      refine lv_iand hx hb dX8_odds_120 ?_
                      refine lv_iadd hx hb dX8_odds_121 ?_
                      refine lv_istore (lv' := [(7, .int (l7_85 + ((r114 >>> (x1 &&& 31)) &&& 1))), (6, .int (l6_85 + 1)), (0, .ref m_o), (1, .int x1), (2, .int x2), (3, .int x3), (4, .int r45), (5, .int r53), (8, .int l8_67), (9, .int l9_85)]) hx hb dX8_odds_122 hl (by decide) rfl (fun ls hl => ?_)
                      refine lv_iinc (v := l9_85 + 1) (lv' := [(9, .int (l9_85 + 1)), (7, .int (l7_85 + ((r114 >>> (x1 &&& 31)) &&& 1))), (6, .int (l6_85 + 1)), (0, .ref m_o), (1, .int x1), (2, .int x2), (3, .int x3), (4, .int r45), (5, .int r53), (8, .int l8_67)]) hx hb dX8_odds_124 hl (k := 9) rfl rfl (by decide) rfl (fun ls hl => ?_)
                      refine lv_goto (tgt := 85) hx hb dX8_odds_127 (by decide) ?_
                      exact ih85 (l6_85 + 1) (l7_85 + ((r114 >>> (x1 &&& 31)) &&& 1)) (l9_85 + 1) mnow_114 mmind_114 mread_114 msize_114 mat_114 mwell_114 mwithin_114 msum_114 mbear_114 mnames_114 mdrifts_114 hm _ _ hP hD hS _ (lv_sub hl [3, 4, 5, 6, 7, 8, 2, 1, 9, 0] rfl)
                exact hL85 _ _ _ _ _ _ _ _ _ _ _ _ _ _ _ hm _ _ hP hD hS _ (lv_sub hl [1, 2, 3, 4, 5, 6, 7, 8, 9, 0] rfl)
          exact hL67 _ _ _ _ _ _ _ _ _ _ _ _ _ _ _ hm _ _ hP hD hS _ (lv_sub hl [5, 6, 7, 8, 4, 3, 2, 1, 0] rfl)
        · replace hm := it_f c35 hm
          refine lv_ldc2 hx hb hown (hts _ (List.mem_of_getElem? (i := 2) rfl)) dX8_odds_38 ?_
          cases hm
          exact k_lret hx hb hr hlocks hP hS dX8_odds_41
def LX8_spots_4 (mnow : Nat → Int32) : Nat → Int32 → Int32 → Option Int32
  | 0, _, _ => none
  | n4 + 1, l1_4, l2_4 => if (mnow 54) ≤ l2_4 then (some l1_4) else (bd1 (fX8_number mnow l2_4 2) (fun r19 => LX8_spots_4 mnow n4 (l1_4 + r19) (l2_4 + 1)))
def fX8_spots (fu : Nat) (mnow : Nat → Int32) : Option Int32 := LX8_spots_4 mnow fu 0 0
theorem hinX8_spots_X8 : ∀ w ∈ u_ws RX8 TX8 29, w ∈ wsX8_spots := fun _ h => List.mem_cons_of_mem _ (List.mem_append_right _ h)
abbrev rmX8_spots : Room := { frames := 1, cells := 0, slots := 0, locals := 34 }
set_option maxHeartbeats 4000000 in
set_option maxRecDepth 100000 in
theorem ctX8_spots {l : Launch} {dC : Nat → ClassId} {dI : Nat → Nat → Nat} {kc : Nat → ClassId} {m_o m_now m_mind m_then m_text m_rules m_sizes m_read m_names m_letters m_begins m_words m_drifts m_above m_bodies m_trace m_sorts m_lengths m_items m_moved : Nat} {mnow : Nat → Int32} {mmind : Nat → Int32} {mthen : Nat → Int32} {mkept : Int32} {mtext : Nat → Int32} {mtexted : Int32} {mrules : Nat → Int32} {msizes : Nat → Int32} {mruled : Int32} {mread : Nat → Int32} {msize : Int32} {mat : Int32} {mwell : Int32} {mwithin : Int32} {msum : Int32} {mbear : Int32} {mnames : Nat → Int32} {mletters : Nat → Int32} {mbegins : Nat → Int32} {mwords : Nat → Int32} {mdrifts : Nat → Int32} {mabove : Nat → Int32} {mbodies : Nat → Int32} {mtrace : Nat → Int32} {mran : Int32} {msorts : Nat → Int32} {mlengths : Nat → Int32} {mitems : Nat → Int64} {mmoved : Nat → Int64} {fu : Nat} {r : Int32} (hm : fX8_spots fu mnow = some r) : ∀ sz : Nat, Met l yX8_spots wsX8_spots rmX8_spots (kPc dC dI kc [.ref m_o] (fl [wdX8 kc m_o m_now m_mind m_then m_text m_rules m_sizes m_read m_names m_letters m_begins m_words m_drifts m_above m_bodies m_trace m_sorts m_lengths m_items m_moved mnow mmind mthen mkept mtext mtexted mrules msizes mruled mread msize mat mwell mwithin msum mbear mnames mletters mbegins mwords mdrifts mabove mbodies mtrace mran msorts mlengths mitems mmoved]) sz) (kQi dC dI r (fl [wdX8 kc m_o m_now m_mind m_then m_text m_rules m_sizes m_read m_names m_letters m_begins m_words m_drifts m_above m_bodies m_trace m_sorts m_lengths m_items m_moved mnow mmind mthen mkept mtext mtexted mrules msizes mruled mread msize mat mwell mwithin msum mbear mnames mletters mbegins mwords mdrifts mabove mbodies mtrace mran msorts mlengths mitems mmoved]) (va_A (fl [wdX8 kc m_o m_now m_mind m_then m_text m_rules m_sizes m_read m_names m_letters m_begins m_words m_drifts m_above m_bodies m_trace m_sorts m_lengths m_items m_moved mnow mmind mthen mkept mtext mtexted mrules msizes mruled mread msize mat mwell mwithin msum mbear mnames mletters mbegins mwords mdrifts mabove mbodies mtrace mran msorts mlengths mitems mmoved]) sz)) 0 0 (va_A (fl [wdX8 kc m_o m_now m_mind m_then m_text m_rules m_sizes m_read m_names m_letters m_begins m_words m_drifts m_above m_bodies m_trace m_sorts m_lengths m_items m_moved mnow mmind mthen mkept mtext mtexted mrules msizes mruled mread msize mat mwell mwithin msum mbear mnames mletters mbegins mwords mdrifts mabove mbodies mtrace mran msorts mlengths mitems mmoved]) sz) := by
  intro sz
  refine kMet (cc := cX8_spots) (maxL := 3) (ret := (some .int)) (Qf := fun A => kQi dC dI r (fl [wdX8 kc m_o m_now m_mind m_then m_text m_rules m_sizes m_read m_names m_letters m_begins m_words m_drifts m_above m_bodies m_trace m_sorts m_lengths m_items m_moved mnow mmind mthen mkept mtext mtexted mrules msizes mruled mread msize mat mwell mwithin msum mbear mnames mletters mbegins mwords mdrifts mabove mbodies mtrace mran msorts mlengths mitems mmoved]) A) (by decide) rfl (Nat.le_of_ble_eq_true rfl) ?_
  intro p e s m below meth c A ls hx hb hr hml hts hown hlocks hname hsz hA hP hK hD hl
  have hS : va_S A s.heap s.heap [] := va_S.rf
  have hl : lv_has ls 3 [(0, .ref m_o)] := hl
  unfold fX8_spots at hm
  refine lv_iconst (v := 0) hx hb dX8_spots_0 (by decide) ?_
  refine lv_istore_n (lv' := [(1, .int 0), (0, .ref m_o)]) hx hb dX8_spots_1 rfl hl (by decide) rfl (fun ls hl => ?_)
  refine lv_iconst (v := 0) hx hb dX8_spots_2 (by decide) ?_
  refine lv_istore_n (lv' := [(2, .int 0), (1, .int 0), (0, .ref m_o)]) hx hb dX8_spots_3 rfl hl (by decide) rfl (fun ls hl => ?_)
  have hL4 : ∀ (fn : Nat) (l1_4 : Int32) (l2_4 : Int32), LX8_spots_4 mnow fn l1_4 l2_4 = some r → ∀ (H : Heap) (locs : List Loc), va_P (dC, dI) vwCl (fl [wdX8 kc m_o m_now m_mind m_then m_text m_rules m_sizes m_read m_names m_letters m_begins m_words m_drifts m_above m_bodies m_trace m_sorts m_lengths m_items m_moved mnow mmind mthen mkept mtext mtexted mrules msizes mruled mread msize mat mwell mwithin msum mbear mnames mletters mbegins mwords mdrifts mabove mbodies mtrace mran msorts mlengths mitems mmoved]) H → va_D A (fl [wdX8 kc m_o m_now m_mind m_then m_text m_rules m_sizes m_read m_names m_letters m_begins m_words m_drifts m_above m_bodies m_trace m_sorts m_lengths m_items m_moved mnow mmind mthen mkept mtext mtexted mrules msizes mruled mread msize mat mwell mwithin msum mbear mnames mletters mbegins mwords mdrifts mabove mbodies mtrace mran msorts mlengths mitems mmoved]) → va_S A s.heap H locs → ∀ ls : Array Slot, lv_has ls 3 [(0, .ref m_o), (1, .int l1_4), (2, .int l2_4)] → W p l e (headSpec wsX8_spots rmX8_spots).room s m [.ref m_o].toArray below meth c H locs 0 0 (MQ below (kQi dC dI r (fl [wdX8 kc m_o m_now m_mind m_then m_text m_rules m_sizes m_read m_names m_letters m_begins m_words m_drifts m_above m_bodies m_trace m_sorts m_lengths m_items m_moved mnow mmind mthen mkept mtext mtexted mrules msizes mruled mread msize mat mwell mwithin msum mbear mnames mletters mbegins mwords mdrifts mabove mbodies mtrace mran msorts mlengths mitems mmoved]) A) [.ref m_o].toArray s 0 0 A) (F0 m 4 ls []) := by
    clear hm hP hD hS hl
    intro n4
    induction n4 with
    | zero => intro l1_4 l2_4 hm; rw [LX8_spots_4] at hm; cases hm
    | succ n4 ih4 =>
      intro l1_4 l2_4 hm H locs hP hD hS ls hl
      rw [LX8_spots_4] at hm
      refine lv_iload_n hx hb dX8_spots_4 rfl (lv_at hl 2 rfl) ?_
      refine lv_aload_n hx hb dX8_spots_5 rfl (lv_at hl 0 rfl) ?_
      refine va_get (D := (dC, dI)) (ci := 8) (v := .ref m_now) (C := RX8) (T := TX8) (N := 29) hx hb hts hinX8_spots_X8 hown hK hP 0 rfl rfl 0 (by decide) (hts _ (List.mem_of_getElem? (i := 1) rfl)) (fun _ h9 => h9) rfl dX8_spots_6 ?_
      refine lv_bipush (v := 54) hx hb dX8_spots_9 (by decide) ?_
      refine k_iald (D := (dC, dI)) hx hb hK hP 1 1 rfl rfl (k := 54) (by decide) (show ¬ ((54 : Int32) < 0 ∨ 113 ≤ (54 : Int32).toNatClampNeg) from by decide) dX8_spots_11 ?_
      refine lv_icmp_ge (tgt := 30) hx hb dX8_spots_12 (by decide) (fun c12 => ?_) (fun c12 => ?_)
      · replace hm := it_t c12 hm
        refine lv_iload_n hx hb dX8_spots_30 rfl (lv_at hl 1 rfl) ?_
        cases hm
        exact k_iret hx hb hr hlocks hP hS dX8_spots_31
      · replace hm := it_f c12 hm
        refine lv_iload_n hx hb dX8_spots_15 rfl (lv_at hl 1 rfl) ?_
        refine lv_aload_n hx hb dX8_spots_16 rfl (lv_at hl 0 rfl) ?_
        refine lv_iload_n hx hb dX8_spots_17 rfl (lv_at hl 2 rfl) ?_
        refine lv_iconst (v := 2) hx hb dX8_spots_18 (by decide) ?_
        obtain ⟨r19, hc19, hm⟩ := bd1_e hm
        refine k_callGVi (dC := dC) (dI := dI) (kc := kc) (As := [.int l2_4, .int 2]) (rest := [.int l1_4]) (Gs' := [wdX8 kc m_o m_now m_mind m_then m_text m_rules m_sizes m_read m_names m_letters m_begins m_words m_drifts m_above m_bodies m_trace m_sorts m_lengths m_items m_moved mnow mmind mthen mkept mtext mtexted mrules msizes mruled mread msize mat mwell mwithin msum mbear mnames mletters mbegins mwords mdrifts mabove mbodies mtrace mran msorts mlengths mitems mmoved]) hx hb hml hown hts hK hP hD hS hA (ctX8_number (m_o := m_o) (m_now := m_now) (m_mind := m_mind) (m_then := m_then) (m_text := m_text) (m_rules := m_rules) (m_sizes := m_sizes) (m_read := m_read) (m_names := m_names) (m_letters := m_letters) (m_begins := m_begins) (m_words := m_words) (m_drifts := m_drifts) (m_above := m_above) (m_bodies := m_bodies) (m_trace := m_trace) (m_sorts := m_sorts) (m_lengths := m_lengths) (m_items := m_items) (m_moved := m_moved) (mnow := mnow) (mmind := mmind) (mthen := mthen) (mkept := mkept) (mtext := mtext) (mtexted := mtexted) (mrules := mrules) (msizes := msizes) (mruled := mruled) (mread := mread) (msize := msize) (mat := mat) (mwell := mwell) (mwithin := mwithin) (msum := msum) (mbear := mbear) (mnames := mnames) (mletters := mletters) (mbegins := mbegins) (mwords := mwords) (mdrifts := mdrifts) (mabove := mabove) (mbodies := mbodies) (mtrace := mtrace) (mran := mran) (msorts := msorts) (mlengths := mlengths) (mitems := mitems) (mmoved := mmoved) (x1 := l2_4) (x2 := 2) hc19) (cwV 2 hts gX8_spots_X8_number rfl rfl rfl (by decide +kernel) ⟨Nat.le_of_ble_eq_true rfl, Nat.le_of_ble_eq_true rfl⟩) [0] rfl (by decide) 8 rfl rfl rfl rfl hl rfl (Nat.le_of_ble_eq_true rfl) dX8_spots_19 ⟨Nat.zero_le _, Nat.zero_le _⟩ rfl rfl rfl (fun H locs hP hD hS => ?_)
        refine lv_iadd hx hb dX8_spots_22 ?_
        refine lv_istore_n (lv' := [(1, .int (l1_4 + r19)), (0, .ref m_o), (2, .int l2_4)]) hx hb dX8_spots_23 rfl hl (by decide) rfl (fun ls hl => ?_)
        refine lv_iinc (v := l2_4 + 1) (lv' := [(2, .int (l2_4 + 1)), (1, .int (l1_4 + r19)), (0, .ref m_o)]) hx hb dX8_spots_24 hl (k := 2) rfl rfl (by decide) rfl (fun ls hl => ?_)
        refine lv_goto (tgt := 4) hx hb dX8_spots_27 (by decide) ?_
        exact ih4 (l1_4 + r19) (l2_4 + 1) hm _ _ hP hD hS _ (lv_sub hl [2, 1, 0] rfl)
  exact hL4 _ _ _ hm _ _ hP hD hS _ (lv_sub hl [2, 1, 0] rfl)
def fX8_mean (fu : Nat) (mnow : Nat → Int32) (mmind : Nat → Int32) (mrules : Nat → Int32) (msizes : Nat → Int32) (mread : Nat → Int32) (msize : Int32) (mat : Int32) (mwell : Int32) (mwithin : Int32) (msum : Int32) (mbear : Int32) (mnames : Nat → Int32) (mletters : Nat → Int32) (mbegins : Nat → Int32) (mwords : Nat → Int32) (mdrifts : Nat → Int32) (x1 : Int32) (x2 : Int32) : Option (Int64 × (Nat → Int32) × (Nat → Int32) × (Nat → Int32) × Int32 × Int32 × Int32 × Int32 × Int32 × Int32 × (Nat → Int32) × (Nat → Int32)) := bd1 (fX8_isIn x1 0 60) (fun r4 => if r4 = 0 then (some (((-9223372036854775808) : Int64), mnow, mmind, mread, msize, mat, mwell, mwithin, msum, mbear, mnames, mdrifts)) else (bd1 (fX8_isIn x2 0 1) (fun r13 => if r13 = 0 then (some (((-9223372036854775808) : Int64), mnow, mmind, mread, msize, mat, mwell, mwithin, msum, mbear, mnames, mdrifts)) else (if (mnow 54) = 0 then (some (((-9223372036854775808) : Int64), mnow, mmind, mread, msize, mat, mwell, mwithin, msum, mbear, mnames, mdrifts)) else (bd1 (fX8_move fu mnow mmind) (fun mmind_41 => bd10 (fX8_steps fu mnow mrules msizes mread msize mat mwell mwithin msum mbear mnames mletters mbegins mwords mdrifts x1) (fun mnow_46 mread_46 msize_46 mat_46 mwell_46 mwithin_46 msum_46 mbear_46 mnames_46 mdrifts_46 => bd1 (fX8_spots fu mnow_46) (fun r50 => bd1 (fX8_move fu mmind_41 mnow_46) (fun mnow_62 => bd1 (fX8_fraction fu r50.toInt64 ((mnow_62 54).toInt64) x2) (fun r76 => some (r76, mnow_62, mmind_41, mread_46, msize_46, mat_46, mwell_46, mwithin_46, msum_46, mbear_46, mnames_46, mdrifts_46)))))))))))
theorem hinX8_mean_X8 : ∀ w ∈ u_ws RX8 TX8 29, w ∈ wsX8_mean := fun _ h => List.mem_cons_of_mem _ (List.mem_append_right _ h)
abbrev rmX8_mean : Room := { frames := 260, cells := 0, slots := 0, locals := 7034 }
set_option maxHeartbeats 4000000 in
set_option maxRecDepth 100000 in
theorem ctX8_mean {l : Launch} {dC : Nat → ClassId} {dI : Nat → Nat → Nat} {kc : Nat → ClassId} {m_o m_now m_mind m_then m_text m_rules m_sizes m_read m_names m_letters m_begins m_words m_drifts m_above m_bodies m_trace m_sorts m_lengths m_items m_moved : Nat} {mnow : Nat → Int32} {mmind : Nat → Int32} {mthen : Nat → Int32} {mkept : Int32} {mtext : Nat → Int32} {mtexted : Int32} {mrules : Nat → Int32} {msizes : Nat → Int32} {mruled : Int32} {mread : Nat → Int32} {msize : Int32} {mat : Int32} {mwell : Int32} {mwithin : Int32} {msum : Int32} {mbear : Int32} {mnames : Nat → Int32} {mletters : Nat → Int32} {mbegins : Nat → Int32} {mwords : Nat → Int32} {mdrifts : Nat → Int32} {mabove : Nat → Int32} {mbodies : Nat → Int32} {mtrace : Nat → Int32} {mran : Int32} {msorts : Nat → Int32} {mlengths : Nat → Int32} {mitems : Nat → Int64} {mmoved : Nat → Int64} {x1 : Int32} {x2 : Int32} {fu : Nat} {r : Int64} {mnow' : Nat → Int32} {mmind' : Nat → Int32} {mread' : Nat → Int32} {msize' : Int32} {mat' : Int32} {mwell' : Int32} {mwithin' : Int32} {msum' : Int32} {mbear' : Int32} {mnames' : Nat → Int32} {mdrifts' : Nat → Int32} (hm : fX8_mean fu mnow mmind mrules msizes mread msize mat mwell mwithin msum mbear mnames mletters mbegins mwords mdrifts x1 x2 = some (r, mnow', mmind', mread', msize', mat', mwell', mwithin', msum', mbear', mnames', mdrifts')) : ∀ sz : Nat, Met l yX8_mean wsX8_mean rmX8_mean (kPc dC dI kc [.ref m_o, .int x1, .int x2] (fl [wdX8 kc m_o m_now m_mind m_then m_text m_rules m_sizes m_read m_names m_letters m_begins m_words m_drifts m_above m_bodies m_trace m_sorts m_lengths m_items m_moved mnow mmind mthen mkept mtext mtexted mrules msizes mruled mread msize mat mwell mwithin msum mbear mnames mletters mbegins mwords mdrifts mabove mbodies mtrace mran msorts mlengths mitems mmoved]) sz) (kQl dC dI r (fl [wdX8 kc m_o m_now m_mind m_then m_text m_rules m_sizes m_read m_names m_letters m_begins m_words m_drifts m_above m_bodies m_trace m_sorts m_lengths m_items m_moved mnow' mmind' mthen mkept mtext mtexted mrules msizes mruled mread' msize' mat' mwell' mwithin' msum' mbear' mnames' mletters mbegins mwords mdrifts' mabove mbodies mtrace mran msorts mlengths mitems mmoved]) (va_A (fl [wdX8 kc m_o m_now m_mind m_then m_text m_rules m_sizes m_read m_names m_letters m_begins m_words m_drifts m_above m_bodies m_trace m_sorts m_lengths m_items m_moved mnow mmind mthen mkept mtext mtexted mrules msizes mruled mread msize mat mwell mwithin msum mbear mnames mletters mbegins mwords mdrifts mabove mbodies mtrace mran msorts mlengths mitems mmoved]) sz)) 0 0 (va_A (fl [wdX8 kc m_o m_now m_mind m_then m_text m_rules m_sizes m_read m_names m_letters m_begins m_words m_drifts m_above m_bodies m_trace m_sorts m_lengths m_items m_moved mnow mmind mthen mkept mtext mtexted mrules msizes mruled mread msize mat mwell mwithin msum mbear mnames mletters mbegins mwords mdrifts mabove mbodies mtrace mran msorts mlengths mitems mmoved]) sz) := by
  intro sz
  refine kMet (cc := cX8_mean) (maxL := 4) (ret := (some .long)) (Qf := fun A => kQl dC dI r (fl [wdX8 kc m_o m_now m_mind m_then m_text m_rules m_sizes m_read m_names m_letters m_begins m_words m_drifts m_above m_bodies m_trace m_sorts m_lengths m_items m_moved mnow' mmind' mthen mkept mtext mtexted mrules msizes mruled mread' msize' mat' mwell' mwithin' msum' mbear' mnames' mletters mbegins mwords mdrifts' mabove mbodies mtrace mran msorts mlengths mitems mmoved]) A) (by decide) rfl (Nat.le_of_ble_eq_true rfl) ?_
  intro p e s m below meth c A ls hx hb hr hml hts hown hlocks hname hsz hA hP hK hD hl
  have hS : va_S A s.heap s.heap [] := va_S.rf
  have hl : lv_has ls 4 [(0, .ref m_o), (1, .int x1), (2, .int x2)] := hl
  unfold fX8_mean at hm
  refine lv_iload_n hx hb dX8_mean_0 rfl (lv_at hl 1 rfl) ?_
  refine lv_iconst (v := 0) hx hb dX8_mean_1 (by decide) ?_
  refine lv_bipush (v := 60) hx hb dX8_mean_2 (by decide) ?_
  obtain ⟨r4, hc4, hm⟩ := bd1_e hm
  refine k_callGSi (dC := dC) (dI := dI) (kc := kc) (As := [.int x1, .int 0, .int 60]) (rest := []) (Gs' := [wdX8 kc m_o m_now m_mind m_then m_text m_rules m_sizes m_read m_names m_letters m_begins m_words m_drifts m_above m_bodies m_trace m_sorts m_lengths m_items m_moved mnow mmind mthen mkept mtext mtexted mrules msizes mruled mread msize mat mwell mwithin msum mbear mnames mletters mbegins mwords mdrifts mabove mbodies mtrace mran msorts mlengths mitems mmoved]) hx hb hml hown hts hK hP hD hS hA (ctX8_isIn (x1 := x1) (x2 := 0) (x3 := 60) hc4) (va_cwS 3 hts gX8_mean_X8_isIn rfl rfl rfl (by decide +kernel) ⟨Nat.le_of_ble_eq_true rfl, Nat.le_of_ble_eq_true rfl⟩) [] rfl (by decide) rfl hl rfl (Nat.le_of_ble_eq_true rfl) dX8_mean_4 ⟨Nat.zero_le _, Nat.zero_le _⟩ rfl rfl rfl (fun H locs hP hD hS => ?_)
  refine lv_if_eq (tgt := 29) hx hb dX8_mean_7 (by decide) (fun c7 => ?_) (fun c7 => ?_)
  · replace hm := it_t c7 hm
    refine lv_ldc2 hx hb hown (hts _ (List.mem_of_getElem? (i := 2) rfl)) dX8_mean_29 ?_
    cases hm
    exact k_lret hx hb hr hlocks hP hS dX8_mean_32
  · replace hm := it_f c7 hm
    refine lv_iload_n hx hb dX8_mean_10 rfl (lv_at hl 2 rfl) ?_
    refine lv_iconst (v := 0) hx hb dX8_mean_11 (by decide) ?_
    refine lv_iconst (v := 1) hx hb dX8_mean_12 (by decide) ?_
    obtain ⟨r13, hc13, hm⟩ := bd1_e hm
    refine k_callGSi (dC := dC) (dI := dI) (kc := kc) (As := [.int x2, .int 0, .int 1]) (rest := []) (Gs' := [wdX8 kc m_o m_now m_mind m_then m_text m_rules m_sizes m_read m_names m_letters m_begins m_words m_drifts m_above m_bodies m_trace m_sorts m_lengths m_items m_moved mnow mmind mthen mkept mtext mtexted mrules msizes mruled mread msize mat mwell mwithin msum mbear mnames mletters mbegins mwords mdrifts mabove mbodies mtrace mran msorts mlengths mitems mmoved]) hx hb hml hown hts hK hP hD hS hA (ctX8_isIn (x1 := x2) (x2 := 0) (x3 := 1) hc13) (va_cwS 3 hts gX8_mean_X8_isIn rfl rfl rfl (by decide +kernel) ⟨Nat.le_of_ble_eq_true rfl, Nat.le_of_ble_eq_true rfl⟩) [] rfl (by decide) rfl hl rfl (Nat.le_of_ble_eq_true rfl) dX8_mean_13 ⟨Nat.zero_le _, Nat.zero_le _⟩ rfl rfl rfl (fun H locs hP hD hS => ?_)
    refine lv_if_eq (tgt := 29) hx hb dX8_mean_16 (by decide) (fun c16 => ?_) (fun c16 => ?_)
    · replace hm := it_t c16 hm
      refine lv_ldc2 hx hb hown (hts _ (List.mem_of_getElem? (i := 2) rfl)) dX8_mean_29 ?_
      cases hm
      exact k_lret hx hb hr hlocks hP hS dX8_mean_32
    · replace hm := it_f c16 hm
      refine lv_aload_n hx hb dX8_mean_19 rfl (lv_at hl 0 rfl) ?_
      refine va_get (D := (dC, dI)) (ci := 8) (v := .ref m_now) (C := RX8) (T := TX8) (N := 29) hx hb hts hinX8_mean_X8 hown hK hP 0 rfl rfl 0 (by decide) (hts _ (List.mem_of_getElem? (i := 1) rfl)) (fun _ h9 => h9) rfl dX8_mean_20 ?_
      refine lv_bipush (v := 54) hx hb dX8_mean_23 (by decide) ?_
      refine k_iald (D := (dC, dI)) hx hb hK hP 1 1 rfl rfl (k := 54) (by decide) (show ¬ ((54 : Int32) < 0 ∨ 113 ≤ (54 : Int32).toNatClampNeg) from by decide) dX8_mean_25 ?_
      refine lv_if_ne (tgt := 33) hx hb dX8_mean_26 (by decide) (fun c26 => ?_) (fun c26 => ?_)
      · replace hm := it_f c26 hm
        refine lv_aload_n hx hb dX8_mean_33 rfl (lv_at hl 0 rfl) ?_
        refine va_get (D := (dC, dI)) (ci := 8) (v := .ref m_now) (C := RX8) (T := TX8) (N := 29) hx hb hts hinX8_mean_X8 hown hK hP 0 rfl rfl 0 (by decide) (hts _ (List.mem_of_getElem? (i := 1) rfl)) (fun _ h9 => h9) rfl dX8_mean_34 ?_
        refine lv_aload_n hx hb dX8_mean_37 rfl (lv_at hl 0 rfl) ?_
        refine va_get (D := (dC, dI)) (ci := 8) (v := .ref m_mind) (C := RX8) (T := TX8) (N := 29) hx hb hts hinX8_mean_X8 hown hK hP 0 rfl rfl 1 (by decide) (hts _ (List.mem_of_getElem? (i := 3) rfl)) (fun _ h9 => h9) rfl dX8_mean_38 ?_
        obtain ⟨mmind_41, hc41, hm⟩ := bd1_e hm
        refine k_callSv (dC := dC) (dI := dI) (kc := kc) (As := [.ref m_now, .ref m_mind]) (rest := []) (ws' := fl [wdX8 kc m_o m_now m_mind m_then m_text m_rules m_sizes m_read m_names m_letters m_begins m_words m_drifts m_above m_bodies m_trace m_sorts m_lengths m_items m_moved mnow mmind_41 mthen mkept mtext mtexted mrules msizes mruled mread msize mat mwell mwithin msum mbear mnames mletters mbegins mwords mdrifts mabove mbodies mtrace mran msorts mlengths mitems mmoved]) hx hb hml hown hts hK hP hD hS hA (ctX8_move (q_o := m_now) (z_o := m_mind) (qarr := mnow) (zarr := mmind) hc41) (va_cwS 2 hts gX8_mean_X8_move rfl rfl rfl (by decide +kernel) ⟨Nat.le_of_ble_eq_true rfl, Nat.le_of_ble_eq_true rfl⟩) [1, 2] rfl (by decide) rfl hl rfl (Nat.le_of_ble_eq_true rfl) dX8_mean_41 ⟨Nat.zero_le _, Nat.zero_le _⟩ rfl rfl rfl (fun H locs hP hD hS => ?_)
        refine lv_aload_n hx hb dX8_mean_44 rfl (lv_at hl 0 rfl) ?_
        refine lv_iload_n hx hb dX8_mean_45 rfl (lv_at hl 1 rfl) ?_
        obtain ⟨mnow_46, mread_46, msize_46, mat_46, mwell_46, mwithin_46, msum_46, mbear_46, mnames_46, mdrifts_46, hc46, hm⟩ := bd10_e hm
        refine k_callGVv (dC := dC) (dI := dI) (kc := kc) (As := [.int x1]) (rest := []) (Gs' := [wdX8 kc m_o m_now m_mind m_then m_text m_rules m_sizes m_read m_names m_letters m_begins m_words m_drifts m_above m_bodies m_trace m_sorts m_lengths m_items m_moved mnow_46 mmind_41 mthen mkept mtext mtexted mrules msizes mruled mread_46 msize_46 mat_46 mwell_46 mwithin_46 msum_46 mbear_46 mnames_46 mletters mbegins mwords mdrifts_46 mabove mbodies mtrace mran msorts mlengths mitems mmoved]) hx hb hml hown hts hK hP hD hS hA (ctX8_steps (m_o := m_o) (m_now := m_now) (m_mind := m_mind) (m_then := m_then) (m_text := m_text) (m_rules := m_rules) (m_sizes := m_sizes) (m_read := m_read) (m_names := m_names) (m_letters := m_letters) (m_begins := m_begins) (m_words := m_words) (m_drifts := m_drifts) (m_above := m_above) (m_bodies := m_bodies) (m_trace := m_trace) (m_sorts := m_sorts) (m_lengths := m_lengths) (m_items := m_items) (m_moved := m_moved) (mnow := mnow) (mmind := mmind_41) (mthen := mthen) (mkept := mkept) (mtext := mtext) (mtexted := mtexted) (mrules := mrules) (msizes := msizes) (mruled := mruled) (mread := mread) (msize := msize) (mat := mat) (mwell := mwell) (mwithin := mwithin) (msum := msum) (mbear := mbear) (mnames := mnames) (mletters := mletters) (mbegins := mbegins) (mwords := mwords) (mdrifts := mdrifts) (mabove := mabove) (mbodies := mbodies) (mtrace := mtrace) (mran := mran) (msorts := msorts) (mlengths := mlengths) (mitems := mitems) (mmoved := mmoved) (x1 := x1) hc46) (cwV 1 hts gX8_mean_X8_steps rfl rfl rfl (by decide +kernel) ⟨Nat.le_of_ble_eq_true rfl, Nat.le_of_ble_eq_true rfl⟩) [0] rfl (by decide) 8 rfl rfl rfl rfl hl rfl (Nat.le_of_ble_eq_true rfl) dX8_mean_46 ⟨Nat.zero_le _, Nat.zero_le _⟩ rfl rfl rfl (fun H locs hP hD hS => ?_)
        refine lv_aload_n hx hb dX8_mean_49 rfl (lv_at hl 0 rfl) ?_
        obtain ⟨r50, hc50, hm⟩ := bd1_e hm
        refine k_callGVi (dC := dC) (dI := dI) (kc := kc) (As := []) (rest := []) (Gs' := [wdX8 kc m_o m_now m_mind m_then m_text m_rules m_sizes m_read m_names m_letters m_begins m_words m_drifts m_above m_bodies m_trace m_sorts m_lengths m_items m_moved mnow_46 mmind_41 mthen mkept mtext mtexted mrules msizes mruled mread_46 msize_46 mat_46 mwell_46 mwithin_46 msum_46 mbear_46 mnames_46 mletters mbegins mwords mdrifts_46 mabove mbodies mtrace mran msorts mlengths mitems mmoved]) hx hb hml hown hts hK hP hD hS hA (ctX8_spots (m_o := m_o) (m_now := m_now) (m_mind := m_mind) (m_then := m_then) (m_text := m_text) (m_rules := m_rules) (m_sizes := m_sizes) (m_read := m_read) (m_names := m_names) (m_letters := m_letters) (m_begins := m_begins) (m_words := m_words) (m_drifts := m_drifts) (m_above := m_above) (m_bodies := m_bodies) (m_trace := m_trace) (m_sorts := m_sorts) (m_lengths := m_lengths) (m_items := m_items) (m_moved := m_moved) (mnow := mnow_46) (mmind := mmind_41) (mthen := mthen) (mkept := mkept) (mtext := mtext) (mtexted := mtexted) (mrules := mrules) (msizes := msizes) (mruled := mruled) (mread := mread_46) (msize := msize_46) (mat := mat_46) (mwell := mwell_46) (mwithin := mwithin_46) (msum := msum_46) (mbear := mbear_46) (mnames := mnames_46) (mletters := mletters) (mbegins := mbegins) (mwords := mwords) (mdrifts := mdrifts_46) (mabove := mabove) (mbodies := mbodies) (mtrace := mtrace) (mran := mran) (msorts := msorts) (mlengths := mlengths) (mitems := mitems) (mmoved := mmoved) hc50) (cwV 0 hts gX8_mean_X8_spots rfl rfl rfl (by decide +kernel) ⟨Nat.le_of_ble_eq_true rfl, Nat.le_of_ble_eq_true rfl⟩) [0] rfl (by decide) 8 rfl rfl rfl rfl hl rfl (Nat.le_of_ble_eq_true rfl) dX8_mean_50 ⟨Nat.zero_le _, Nat.zero_le _⟩ rfl rfl rfl (fun H locs hP hD hS => ?_)
        refine lv_istore_n (lv' := [(3, .int r50), (0, .ref m_o), (1, .int x1), (2, .int x2)]) hx hb dX8_mean_53 rfl hl (by decide) rfl (fun ls hl => ?_)
        refine lv_aload_n hx hb dX8_mean_54 rfl (lv_at hl 1 rfl) ?_
        refine va_get (D := (dC, dI)) (ci := 8) (v := .ref m_mind) (C := RX8) (T := TX8) (N := 29) hx hb hts hinX8_mean_X8 hown hK hP 0 rfl rfl 1 (by decide) (hts _ (List.mem_of_getElem? (i := 3) rfl)) (fun _ h9 => h9) rfl dX8_mean_55 ?_
        refine lv_aload_n hx hb dX8_mean_58 rfl (lv_at hl 1 rfl) ?_
        refine va_get (D := (dC, dI)) (ci := 8) (v := .ref m_now) (C := RX8) (T := TX8) (N := 29) hx hb hts hinX8_mean_X8 hown hK hP 0 rfl rfl 0 (by decide) (hts _ (List.mem_of_getElem? (i := 1) rfl)) (fun _ h9 => h9) rfl dX8_mean_59 ?_
        obtain ⟨mnow_62, hc62, hm⟩ := bd1_e hm
        refine k_callSv (dC := dC) (dI := dI) (kc := kc) (As := [.ref m_mind, .ref m_now]) (rest := []) (ws' := fl [wdX8 kc m_o m_now m_mind m_then m_text m_rules m_sizes m_read m_names m_letters m_begins m_words m_drifts m_above m_bodies m_trace m_sorts m_lengths m_items m_moved mnow_62 mmind_41 mthen mkept mtext mtexted mrules msizes mruled mread_46 msize_46 mat_46 mwell_46 mwithin_46 msum_46 mbear_46 mnames_46 mletters mbegins mwords mdrifts_46 mabove mbodies mtrace mran msorts mlengths mitems mmoved]) hx hb hml hown hts hK hP hD hS hA (ctX8_move (q_o := m_mind) (z_o := m_now) (qarr := mmind_41) (zarr := mnow_46) hc62) (va_cwS 2 hts gX8_mean_X8_move rfl rfl rfl (by decide +kernel) ⟨Nat.le_of_ble_eq_true rfl, Nat.le_of_ble_eq_true rfl⟩) [2, 1] rfl (by decide) rfl hl rfl (Nat.le_of_ble_eq_true rfl) dX8_mean_62 ⟨Nat.zero_le _, Nat.zero_le _⟩ rfl rfl rfl (fun H locs hP hD hS => ?_)
        refine lv_iload_n hx hb dX8_mean_65 rfl (lv_at hl 0 rfl) ?_
        refine lv_i2l hx hb dX8_mean_66 rfl ?_
        refine lv_aload_n hx hb dX8_mean_67 rfl (lv_at hl 1 rfl) ?_
        refine va_get (D := (dC, dI)) (ci := 8) (v := .ref m_now) (C := RX8) (T := TX8) (N := 29) hx hb hts hinX8_mean_X8 hown hK hP 0 rfl rfl 0 (by decide) (hts _ (List.mem_of_getElem? (i := 1) rfl)) (fun _ h9 => h9) rfl dX8_mean_68 ?_
        refine lv_bipush (v := 54) hx hb dX8_mean_71 (by decide) ?_
        refine k_iald (D := (dC, dI)) hx hb hK hP 1 1 rfl rfl (k := 54) (by decide) (show ¬ ((54 : Int32) < 0 ∨ 113 ≤ (54 : Int32).toNatClampNeg) from by decide) dX8_mean_73 ?_
        refine lv_i2l hx hb dX8_mean_74 rfl ?_
        refine lv_iload_n hx hb dX8_mean_75 rfl (lv_at hl 3 rfl) ?_
        obtain ⟨r76, hc76, hm⟩ := bd1_e hm
        refine k_callGSl (dC := dC) (dI := dI) (kc := kc) (As := [.long r50.toInt64, .long ((mnow_62 54).toInt64), .int x2]) (rest := []) (Gs' := [wdX8 kc m_o m_now m_mind m_then m_text m_rules m_sizes m_read m_names m_letters m_begins m_words m_drifts m_above m_bodies m_trace m_sorts m_lengths m_items m_moved mnow_62 mmind_41 mthen mkept mtext mtexted mrules msizes mruled mread_46 msize_46 mat_46 mwell_46 mwithin_46 msum_46 mbear_46 mnames_46 mletters mbegins mwords mdrifts_46 mabove mbodies mtrace mran msorts mlengths mitems mmoved]) hx hb hml hown hts hK hP hD hS hA (ctX8_fraction (x1 := r50.toInt64) (x2 := (mnow_62 54).toInt64) (x3 := x2) hc76) (va_cwS 3 hts gX8_mean_X8_fraction rfl rfl rfl (by decide +kernel) ⟨Nat.le_of_ble_eq_true rfl, Nat.le_of_ble_eq_true rfl⟩) [] rfl (by decide) rfl hl rfl (Nat.le_of_ble_eq_true rfl) dX8_mean_76 ⟨Nat.zero_le _, Nat.zero_le _⟩ rfl rfl rfl (fun H locs hP hD hS => ?_)
        cases hm
        exact k_lret hx hb hr hlocks hP hS dX8_mean_79
      · replace hm := it_t c26 hm
        refine lv_ldc2 hx hb hown (hts _ (List.mem_of_getElem? (i := 2) rfl)) dX8_mean_29 ?_
        cases hm
        exact k_lret hx hb hr hlocks hP hS dX8_mean_32
def fX8_plan (mnow : Nat → Int32) (x1 : Int32) (x2 : Int32) : Option (Int32 × (Nat → Int32)) := if x1 = (-1) then (some ((0 : Int32), upd mnow 75 0)) else (if x1 = 0 then (if (mnow 75) = 10 then (some (((-4) : Int32), mnow)) else (gd (inb (76 + (2 * (mnow 75))) 113) (gd (inb (77 + (2 * ((upd mnow ((76 + (2 * (mnow 75))).toNatClampNeg) x1) 75))) 113) (some ((upd (upd (upd mnow ((76 + (2 * (mnow 75))).toNatClampNeg) x1) ((77 + (2 * ((upd mnow ((76 + (2 * (mnow 75))).toNatClampNeg) x1) 75))).toNatClampNeg) x2) 75 (((upd (upd mnow ((76 + (2 * (mnow 75))).toNatClampNeg) x1) ((77 + (2 * ((upd mnow ((76 + (2 * (mnow 75))).toNatClampNeg) x1) 75))).toNatClampNeg) x2) 75) + 1)) 75, upd (upd (upd mnow ((76 + (2 * (mnow 75))).toNatClampNeg) x1) ((77 + (2 * ((upd mnow ((76 + (2 * (mnow 75))).toNatClampNeg) x1) 75))).toNatClampNeg) x2) 75 (((upd (upd mnow ((76 + (2 * (mnow 75))).toNatClampNeg) x1) ((77 + (2 * ((upd mnow ((76 + (2 * (mnow 75))).toNatClampNeg) x1) 75))).toNatClampNeg) x2) 75) + 1)))))) else (if x1 = 1 then (bd1 (fX8_isLeaf mnow x2) (fun r31 => if r31 = 0 then (if x1 = 3 then (bd1 (fX8_isOne mnow x2) (fun r44 => if r44 = 0 then (some (((-1) : Int32), mnow)) else (if (mnow 75) = 10 then (some (((-4) : Int32), mnow)) else (gd (inb (76 + (2 * (mnow 75))) 113) (gd (inb (77 + (2 * ((upd mnow ((76 + (2 * (mnow 75))).toNatClampNeg) x1) 75))) 113) (some ((upd (upd (upd mnow ((76 + (2 * (mnow 75))).toNatClampNeg) x1) ((77 + (2 * ((upd mnow ((76 + (2 * (mnow 75))).toNatClampNeg) x1) 75))).toNatClampNeg) x2) 75 (((upd (upd mnow ((76 + (2 * (mnow 75))).toNatClampNeg) x1) ((77 + (2 * ((upd mnow ((76 + (2 * (mnow 75))).toNatClampNeg) x1) 75))).toNatClampNeg) x2) 75) + 1)) 75, upd (upd (upd mnow ((76 + (2 * (mnow 75))).toNatClampNeg) x1) ((77 + (2 * ((upd mnow ((76 + (2 * (mnow 75))).toNatClampNeg) x1) 75))).toNatClampNeg) x2) 75 (((upd (upd mnow ((76 + (2 * (mnow 75))).toNatClampNeg) x1) ((77 + (2 * ((upd mnow ((76 + (2 * (mnow 75))).toNatClampNeg) x1) 75))).toNatClampNeg) x2) 75) + 1)))))))) else (some (((-1) : Int32), mnow))) else (if (mnow 75) = 10 then (some (((-4) : Int32), mnow)) else (gd (inb (76 + (2 * (mnow 75))) 113) (gd (inb (77 + (2 * ((upd mnow ((76 + (2 * (mnow 75))).toNatClampNeg) x1) 75))) 113) (some ((upd (upd (upd mnow ((76 + (2 * (mnow 75))).toNatClampNeg) x1) ((77 + (2 * ((upd mnow ((76 + (2 * (mnow 75))).toNatClampNeg) x1) 75))).toNatClampNeg) x2) 75 (((upd (upd mnow ((76 + (2 * (mnow 75))).toNatClampNeg) x1) ((77 + (2 * ((upd mnow ((76 + (2 * (mnow 75))).toNatClampNeg) x1) 75))).toNatClampNeg) x2) 75) + 1)) 75, upd (upd (upd mnow ((76 + (2 * (mnow 75))).toNatClampNeg) x1) ((77 + (2 * ((upd mnow ((76 + (2 * (mnow 75))).toNatClampNeg) x1) 75))).toNatClampNeg) x2) 75 (((upd (upd mnow ((76 + (2 * (mnow 75))).toNatClampNeg) x1) ((77 + (2 * ((upd mnow ((76 + (2 * (mnow 75))).toNatClampNeg) x1) 75))).toNatClampNeg) x2) 75) + 1)))))))) else (if x1 = 2 then (bd1 (fX8_isLeaf mnow x2) (fun r31 => if r31 = 0 then (if x1 = 3 then (bd1 (fX8_isOne mnow x2) (fun r44 => if r44 = 0 then (some (((-1) : Int32), mnow)) else (if (mnow 75) = 10 then (some (((-4) : Int32), mnow)) else (gd (inb (76 + (2 * (mnow 75))) 113) (gd (inb (77 + (2 * ((upd mnow ((76 + (2 * (mnow 75))).toNatClampNeg) x1) 75))) 113) (some ((upd (upd (upd mnow ((76 + (2 * (mnow 75))).toNatClampNeg) x1) ((77 + (2 * ((upd mnow ((76 + (2 * (mnow 75))).toNatClampNeg) x1) 75))).toNatClampNeg) x2) 75 (((upd (upd mnow ((76 + (2 * (mnow 75))).toNatClampNeg) x1) ((77 + (2 * ((upd mnow ((76 + (2 * (mnow 75))).toNatClampNeg) x1) 75))).toNatClampNeg) x2) 75) + 1)) 75, upd (upd (upd mnow ((76 + (2 * (mnow 75))).toNatClampNeg) x1) ((77 + (2 * ((upd mnow ((76 + (2 * (mnow 75))).toNatClampNeg) x1) 75))).toNatClampNeg) x2) 75 (((upd (upd mnow ((76 + (2 * (mnow 75))).toNatClampNeg) x1) ((77 + (2 * ((upd mnow ((76 + (2 * (mnow 75))).toNatClampNeg) x1) 75))).toNatClampNeg) x2) 75) + 1)))))))) else (some (((-1) : Int32), mnow))) else (if (mnow 75) = 10 then (some (((-4) : Int32), mnow)) else (gd (inb (76 + (2 * (mnow 75))) 113) (gd (inb (77 + (2 * ((upd mnow ((76 + (2 * (mnow 75))).toNatClampNeg) x1) 75))) 113) (some ((upd (upd (upd mnow ((76 + (2 * (mnow 75))).toNatClampNeg) x1) ((77 + (2 * ((upd mnow ((76 + (2 * (mnow 75))).toNatClampNeg) x1) 75))).toNatClampNeg) x2) 75 (((upd (upd mnow ((76 + (2 * (mnow 75))).toNatClampNeg) x1) ((77 + (2 * ((upd mnow ((76 + (2 * (mnow 75))).toNatClampNeg) x1) 75))).toNatClampNeg) x2) 75) + 1)) 75, upd (upd (upd mnow ((76 + (2 * (mnow 75))).toNatClampNeg) x1) ((77 + (2 * ((upd mnow ((76 + (2 * (mnow 75))).toNatClampNeg) x1) 75))).toNatClampNeg) x2) 75 (((upd (upd mnow ((76 + (2 * (mnow 75))).toNatClampNeg) x1) ((77 + (2 * ((upd mnow ((76 + (2 * (mnow 75))).toNatClampNeg) x1) 75))).toNatClampNeg) x2) 75) + 1)))))))) else (if x1 = 3 then (bd1 (fX8_isOne mnow x2) (fun r44 => if r44 = 0 then (some (((-1) : Int32), mnow)) else (if (mnow 75) = 10 then (some (((-4) : Int32), mnow)) else (gd (inb (76 + (2 * (mnow 75))) 113) (gd (inb (77 + (2 * ((upd mnow ((76 + (2 * (mnow 75))).toNatClampNeg) x1) 75))) 113) (some ((upd (upd (upd mnow ((76 + (2 * (mnow 75))).toNatClampNeg) x1) ((77 + (2 * ((upd mnow ((76 + (2 * (mnow 75))).toNatClampNeg) x1) 75))).toNatClampNeg) x2) 75 (((upd (upd mnow ((76 + (2 * (mnow 75))).toNatClampNeg) x1) ((77 + (2 * ((upd mnow ((76 + (2 * (mnow 75))).toNatClampNeg) x1) 75))).toNatClampNeg) x2) 75) + 1)) 75, upd (upd (upd mnow ((76 + (2 * (mnow 75))).toNatClampNeg) x1) ((77 + (2 * ((upd mnow ((76 + (2 * (mnow 75))).toNatClampNeg) x1) 75))).toNatClampNeg) x2) 75 (((upd (upd mnow ((76 + (2 * (mnow 75))).toNatClampNeg) x1) ((77 + (2 * ((upd mnow ((76 + (2 * (mnow 75))).toNatClampNeg) x1) 75))).toNatClampNeg) x2) 75) + 1)))))))) else (some (((-1) : Int32), mnow))))))
theorem hinX8_plan_X8 : ∀ w ∈ u_ws RX8 TX8 29, w ∈ wsX8_plan := fun _ h => List.mem_cons_of_mem _ (List.mem_append_right _ h)
abbrev rmX8_plan : Room := { frames := 2, cells := 0, slots := 0, locals := 55 }
set_option maxHeartbeats 4000000 in
set_option maxRecDepth 100000 in
theorem ctX8_plan {l : Launch} {dC : Nat → ClassId} {dI : Nat → Nat → Nat} {kc : Nat → ClassId} {m_o m_now m_mind m_then m_text m_rules m_sizes m_read m_names m_letters m_begins m_words m_drifts m_above m_bodies m_trace m_sorts m_lengths m_items m_moved : Nat} {mnow : Nat → Int32} {mmind : Nat → Int32} {mthen : Nat → Int32} {mkept : Int32} {mtext : Nat → Int32} {mtexted : Int32} {mrules : Nat → Int32} {msizes : Nat → Int32} {mruled : Int32} {mread : Nat → Int32} {msize : Int32} {mat : Int32} {mwell : Int32} {mwithin : Int32} {msum : Int32} {mbear : Int32} {mnames : Nat → Int32} {mletters : Nat → Int32} {mbegins : Nat → Int32} {mwords : Nat → Int32} {mdrifts : Nat → Int32} {mabove : Nat → Int32} {mbodies : Nat → Int32} {mtrace : Nat → Int32} {mran : Int32} {msorts : Nat → Int32} {mlengths : Nat → Int32} {mitems : Nat → Int64} {mmoved : Nat → Int64} {x1 : Int32} {x2 : Int32} {r : Int32} {mnow' : Nat → Int32} (hm : fX8_plan mnow x1 x2 = some (r, mnow')) : ∀ sz : Nat, Met l yX8_plan wsX8_plan rmX8_plan (kPc dC dI kc [.ref m_o, .int x1, .int x2] (fl [wdX8 kc m_o m_now m_mind m_then m_text m_rules m_sizes m_read m_names m_letters m_begins m_words m_drifts m_above m_bodies m_trace m_sorts m_lengths m_items m_moved mnow mmind mthen mkept mtext mtexted mrules msizes mruled mread msize mat mwell mwithin msum mbear mnames mletters mbegins mwords mdrifts mabove mbodies mtrace mran msorts mlengths mitems mmoved]) sz) (kQi dC dI r (fl [wdX8 kc m_o m_now m_mind m_then m_text m_rules m_sizes m_read m_names m_letters m_begins m_words m_drifts m_above m_bodies m_trace m_sorts m_lengths m_items m_moved mnow' mmind mthen mkept mtext mtexted mrules msizes mruled mread msize mat mwell mwithin msum mbear mnames mletters mbegins mwords mdrifts mabove mbodies mtrace mran msorts mlengths mitems mmoved]) (va_A (fl [wdX8 kc m_o m_now m_mind m_then m_text m_rules m_sizes m_read m_names m_letters m_begins m_words m_drifts m_above m_bodies m_trace m_sorts m_lengths m_items m_moved mnow mmind mthen mkept mtext mtexted mrules msizes mruled mread msize mat mwell mwithin msum mbear mnames mletters mbegins mwords mdrifts mabove mbodies mtrace mran msorts mlengths mitems mmoved]) sz)) 0 0 (va_A (fl [wdX8 kc m_o m_now m_mind m_then m_text m_rules m_sizes m_read m_names m_letters m_begins m_words m_drifts m_above m_bodies m_trace m_sorts m_lengths m_items m_moved mnow mmind mthen mkept mtext mtexted mrules msizes mruled mread msize mat mwell mwithin msum mbear mnames mletters mbegins mwords mdrifts mabove mbodies mtrace mran msorts mlengths mitems mmoved]) sz) := by
  intro sz
  refine kMet (cc := cX8_plan) (maxL := 4) (ret := (some .int)) (Qf := fun A => kQi dC dI r (fl [wdX8 kc m_o m_now m_mind m_then m_text m_rules m_sizes m_read m_names m_letters m_begins m_words m_drifts m_above m_bodies m_trace m_sorts m_lengths m_items m_moved mnow' mmind mthen mkept mtext mtexted mrules msizes mruled mread msize mat mwell mwithin msum mbear mnames mletters mbegins mwords mdrifts mabove mbodies mtrace mran msorts mlengths mitems mmoved]) A) (by decide) rfl (Nat.le_of_ble_eq_true rfl) ?_
  intro p e s m below meth c A ls hx hb hr hml hts hown hlocks hname hsz hA hP hK hD hl
  have hS : va_S A s.heap s.heap [] := va_S.rf
  have hl : lv_has ls 4 [(0, .ref m_o), (1, .int x1), (2, .int x2)] := hl
  unfold fX8_plan at hm
  refine lv_iload_n hx hb dX8_plan_0 rfl (lv_at hl 1 rfl) ?_
  refine lv_iconst (v := (-1)) hx hb dX8_plan_1 (by decide) ?_
  refine lv_icmp_ne (tgt := 15) hx hb dX8_plan_2 (by decide) (fun c2 => ?_) (fun c2 => ?_)
  · replace hm := it_f c2 hm
    refine lv_iload_n hx hb dX8_plan_15 rfl (lv_at hl 1 rfl) ?_
    refine lv_if_eq (tgt := 50) hx hb dX8_plan_16 (by decide) (fun c16 => ?_) (fun c16 => ?_)
    · replace hm := it_t c16 hm
      refine lv_iconst (v := 1) hx hb dX8_plan_50 (by decide) ?_
      refine lv_goto (tgt := 55) hx hb dX8_plan_51 (by decide) ?_
      refine lv_istore_n (lv' := [(3, .int 1), (0, .ref m_o), (1, .int x1), (2, .int x2)]) hx hb dX8_plan_55 rfl hl (by decide) rfl (fun ls hl => ?_)
      refine lv_iload_n hx hb dX8_plan_56 rfl (lv_at hl 0 rfl) ?_
      refine lv_if_ne (tgt := 62) hx hb dX8_plan_57 (by decide) (fun c57 => ?_) (fun c57 => ?_)
      rotate_left
      · exact absurd c57 (by decide)
      refine lv_aload_n hx hb dX8_plan_62 rfl (lv_at hl 1 rfl) ?_
      refine va_get (D := (dC, dI)) (ci := 8) (v := .ref m_now) (C := RX8) (T := TX8) (N := 29) hx hb hts hinX8_plan_X8 hown hK hP 0 rfl rfl 0 (by decide) (hts _ (List.mem_of_getElem? (i := 1) rfl)) (fun _ h9 => h9) rfl dX8_plan_63 ?_
      refine lv_bipush (v := 75) hx hb dX8_plan_66 (by decide) ?_
      refine k_iald (D := (dC, dI)) hx hb hK hP 1 1 rfl rfl (k := 75) (by decide) (show ¬ ((75 : Int32) < 0 ∨ 113 ≤ (75 : Int32).toNatClampNeg) from by decide) dX8_plan_68 ?_
      refine lv_bipush (v := 10) hx hb dX8_plan_69 (by decide) ?_
      refine lv_icmp_ne (tgt := 77) hx hb dX8_plan_71 (by decide) (fun c71 => ?_) (fun c71 => ?_)
      · replace hm := it_f c71 hm
        refine lv_aload_n hx hb dX8_plan_77 rfl (lv_at hl 1 rfl) ?_
        refine va_get (D := (dC, dI)) (ci := 8) (v := .ref m_now) (C := RX8) (T := TX8) (N := 29) hx hb hts hinX8_plan_X8 hown hK hP 0 rfl rfl 0 (by decide) (hts _ (List.mem_of_getElem? (i := 1) rfl)) (fun _ h9 => h9) rfl dX8_plan_78 ?_
        refine lv_bipush (v := 76) hx hb dX8_plan_81 (by decide) ?_
        refine lv_iconst (v := 2) hx hb dX8_plan_83 (by decide) ?_
        refine lv_aload_n hx hb dX8_plan_84 rfl (lv_at hl 1 rfl) ?_
        refine va_get (D := (dC, dI)) (ci := 8) (v := .ref m_now) (C := RX8) (T := TX8) (N := 29) hx hb hts hinX8_plan_X8 hown hK hP 0 rfl rfl 0 (by decide) (hts _ (List.mem_of_getElem? (i := 1) rfl)) (fun _ h9 => h9) rfl dX8_plan_85 ?_
        refine lv_bipush (v := 75) hx hb dX8_plan_88 (by decide) ?_
        refine k_iald (D := (dC, dI)) hx hb hK hP 1 1 rfl rfl (k := 75) (by decide) (show ¬ ((75 : Int32) < 0 ∨ 113 ≤ (75 : Int32).toNatClampNeg) from by decide) dX8_plan_90 ?_
        refine lv_imul hx hb dX8_plan_91 ?_
        refine lv_iadd hx hb dX8_plan_92 ?_
        refine lv_iload_n hx hb dX8_plan_93 rfl (lv_at hl 2 rfl) ?_
        obtain ⟨hg94, hm⟩ := gd_e hm
        refine k_iast (D := (dC, dI)) hx hb hK hP hD hS 1 1 rfl rfl (k := (76 + (2 * (mnow 75))).toNatClampNeg) rfl hg94 dX8_plan_94 (fun H locs hP hD hS => ?_)
        have hP : va_P (dC, dI) vwCl (fl [wdX8 kc m_o m_now m_mind m_then m_text m_rules m_sizes m_read m_names m_letters m_begins m_words m_drifts m_above m_bodies m_trace m_sorts m_lengths m_items m_moved (upd mnow ((76 + (2 * (mnow 75))).toNatClampNeg) x1) mmind mthen mkept mtext mtexted mrules msizes mruled mread msize mat mwell mwithin msum mbear mnames mletters mbegins mwords mdrifts mabove mbodies mtrace mran msorts mlengths mitems mmoved]) H := hP
        have hD : va_D A (fl [wdX8 kc m_o m_now m_mind m_then m_text m_rules m_sizes m_read m_names m_letters m_begins m_words m_drifts m_above m_bodies m_trace m_sorts m_lengths m_items m_moved (upd mnow ((76 + (2 * (mnow 75))).toNatClampNeg) x1) mmind mthen mkept mtext mtexted mrules msizes mruled mread msize mat mwell mwithin msum mbear mnames mletters mbegins mwords mdrifts mabove mbodies mtrace mran msorts mlengths mitems mmoved]) := hD
        refine lv_aload_n hx hb dX8_plan_95 rfl (lv_at hl 1 rfl) ?_
        refine va_get (D := (dC, dI)) (ci := 8) (v := .ref m_now) (C := RX8) (T := TX8) (N := 29) hx hb hts hinX8_plan_X8 hown hK hP 0 rfl rfl 0 (by decide) (hts _ (List.mem_of_getElem? (i := 1) rfl)) (fun _ h9 => h9) rfl dX8_plan_96 ?_
        refine lv_bipush (v := 77) hx hb dX8_plan_99 (by decide) ?_
        refine lv_iconst (v := 2) hx hb dX8_plan_101 (by decide) ?_
        refine lv_aload_n hx hb dX8_plan_102 rfl (lv_at hl 1 rfl) ?_
        refine va_get (D := (dC, dI)) (ci := 8) (v := .ref m_now) (C := RX8) (T := TX8) (N := 29) hx hb hts hinX8_plan_X8 hown hK hP 0 rfl rfl 0 (by decide) (hts _ (List.mem_of_getElem? (i := 1) rfl)) (fun _ h9 => h9) rfl dX8_plan_103 ?_
        refine lv_bipush (v := 75) hx hb dX8_plan_106 (by decide) ?_
        refine k_iald (D := (dC, dI)) hx hb hK hP 1 1 rfl rfl (k := 75) (by decide) (show ¬ ((75 : Int32) < 0 ∨ 113 ≤ (75 : Int32).toNatClampNeg) from by decide) dX8_plan_108 ?_
        refine lv_imul hx hb dX8_plan_109 ?_
        refine lv_iadd hx hb dX8_plan_110 ?_
        refine lv_iload_n hx hb dX8_plan_111 rfl (lv_at hl 3 rfl) ?_
        obtain ⟨hg112, hm⟩ := gd_e hm
        refine k_iast (D := (dC, dI)) hx hb hK hP hD hS 1 1 rfl rfl (k := (77 + (2 * ((upd mnow ((76 + (2 * (mnow 75))).toNatClampNeg) x1) 75))).toNatClampNeg) rfl hg112 dX8_plan_112 (fun H locs hP hD hS => ?_)
        have hP : va_P (dC, dI) vwCl (fl [wdX8 kc m_o m_now m_mind m_then m_text m_rules m_sizes m_read m_names m_letters m_begins m_words m_drifts m_above m_bodies m_trace m_sorts m_lengths m_items m_moved (upd (upd mnow ((76 + (2 * (mnow 75))).toNatClampNeg) x1) ((77 + (2 * ((upd mnow ((76 + (2 * (mnow 75))).toNatClampNeg) x1) 75))).toNatClampNeg) x2) mmind mthen mkept mtext mtexted mrules msizes mruled mread msize mat mwell mwithin msum mbear mnames mletters mbegins mwords mdrifts mabove mbodies mtrace mran msorts mlengths mitems mmoved]) H := hP
        have hD : va_D A (fl [wdX8 kc m_o m_now m_mind m_then m_text m_rules m_sizes m_read m_names m_letters m_begins m_words m_drifts m_above m_bodies m_trace m_sorts m_lengths m_items m_moved (upd (upd mnow ((76 + (2 * (mnow 75))).toNatClampNeg) x1) ((77 + (2 * ((upd mnow ((76 + (2 * (mnow 75))).toNatClampNeg) x1) 75))).toNatClampNeg) x2) mmind mthen mkept mtext mtexted mrules msizes mruled mread msize mat mwell mwithin msum mbear mnames mletters mbegins mwords mdrifts mabove mbodies mtrace mran msorts mlengths mitems mmoved]) := hD
        refine lv_aload_n hx hb dX8_plan_113 rfl (lv_at hl 1 rfl) ?_
        refine va_get (D := (dC, dI)) (ci := 8) (v := .ref m_now) (C := RX8) (T := TX8) (N := 29) hx hb hts hinX8_plan_X8 hown hK hP 0 rfl rfl 0 (by decide) (hts _ (List.mem_of_getElem? (i := 1) rfl)) (fun _ h9 => h9) rfl dX8_plan_114 ?_
        refine lv_bipush (v := 75) hx hb dX8_plan_117 (by decide) ?_
        refine lv_dup2_11 hx hb dX8_plan_119 rfl rfl ?_
        refine k_iald (D := (dC, dI)) hx hb hK hP 1 1 rfl rfl (k := 75) (by decide) (show ¬ ((75 : Int32) < 0 ∨ 113 ≤ (75 : Int32).toNatClampNeg) from by decide) dX8_plan_120 ?_
        refine lv_iconst (v := 1) hx hb dX8_plan_121 (by decide) ?_
        refine lv_iadd hx hb dX8_plan_122 ?_
        refine k_iast (D := (dC, dI)) hx hb hK hP hD hS 1 1 rfl rfl (k := 75) (by decide) (show ¬ ((75 : Int32) < 0 ∨ 113 ≤ (75 : Int32).toNatClampNeg) from by decide) dX8_plan_123 (fun H locs hP hD hS => ?_)
        have hP : va_P (dC, dI) vwCl (fl [wdX8 kc m_o m_now m_mind m_then m_text m_rules m_sizes m_read m_names m_letters m_begins m_words m_drifts m_above m_bodies m_trace m_sorts m_lengths m_items m_moved (upd (upd (upd mnow ((76 + (2 * (mnow 75))).toNatClampNeg) x1) ((77 + (2 * ((upd mnow ((76 + (2 * (mnow 75))).toNatClampNeg) x1) 75))).toNatClampNeg) x2) 75 (((upd (upd mnow ((76 + (2 * (mnow 75))).toNatClampNeg) x1) ((77 + (2 * ((upd mnow ((76 + (2 * (mnow 75))).toNatClampNeg) x1) 75))).toNatClampNeg) x2) 75) + 1)) mmind mthen mkept mtext mtexted mrules msizes mruled mread msize mat mwell mwithin msum mbear mnames mletters mbegins mwords mdrifts mabove mbodies mtrace mran msorts mlengths mitems mmoved]) H := hP
        have hD : va_D A (fl [wdX8 kc m_o m_now m_mind m_then m_text m_rules m_sizes m_read m_names m_letters m_begins m_words m_drifts m_above m_bodies m_trace m_sorts m_lengths m_items m_moved (upd (upd (upd mnow ((76 + (2 * (mnow 75))).toNatClampNeg) x1) ((77 + (2 * ((upd mnow ((76 + (2 * (mnow 75))).toNatClampNeg) x1) 75))).toNatClampNeg) x2) 75 (((upd (upd mnow ((76 + (2 * (mnow 75))).toNatClampNeg) x1) ((77 + (2 * ((upd mnow ((76 + (2 * (mnow 75))).toNatClampNeg) x1) 75))).toNatClampNeg) x2) 75) + 1)) mmind mthen mkept mtext mtexted mrules msizes mruled mread msize mat mwell mwithin msum mbear mnames mletters mbegins mwords mdrifts mabove mbodies mtrace mran msorts mlengths mitems mmoved]) := hD
        refine lv_aload_n hx hb dX8_plan_124 rfl (lv_at hl 1 rfl) ?_
        refine va_get (D := (dC, dI)) (ci := 8) (v := .ref m_now) (C := RX8) (T := TX8) (N := 29) hx hb hts hinX8_plan_X8 hown hK hP 0 rfl rfl 0 (by decide) (hts _ (List.mem_of_getElem? (i := 1) rfl)) (fun _ h9 => h9) rfl dX8_plan_125 ?_
        refine lv_bipush (v := 75) hx hb dX8_plan_128 (by decide) ?_
        refine k_iald (D := (dC, dI)) hx hb hK hP 1 1 rfl rfl (k := 75) (by decide) (show ¬ ((75 : Int32) < 0 ∨ 113 ≤ (75 : Int32).toNatClampNeg) from by decide) dX8_plan_130 ?_
        cases hm
        exact k_iret hx hb hr hlocks hP hS dX8_plan_131
      · replace hm := it_t c71 hm
        refine lv_bipush (v := (-4)) hx hb dX8_plan_74 (by decide) ?_
        cases hm
        exact k_iret hx hb hr hlocks hP hS dX8_plan_76
    · replace hm := it_f c16 hm
      refine lv_iload_n hx hb dX8_plan_19 rfl (lv_at hl 1 rfl) ?_
      refine lv_iconst (v := 1) hx hb dX8_plan_20 (by decide) ?_
      refine lv_icmp_eq (tgt := 29) hx hb dX8_plan_21 (by decide) (fun c21 => ?_) (fun c21 => ?_)
      · replace hm := it_t c21 hm
        refine lv_aload_n hx hb dX8_plan_29 rfl (lv_at hl 0 rfl) ?_
        refine lv_iload_n hx hb dX8_plan_30 rfl (lv_at hl 2 rfl) ?_
        obtain ⟨r31, hc31, hm⟩ := bd1_e hm
        refine k_callGVi (dC := dC) (dI := dI) (kc := kc) (As := [.int x2]) (rest := []) (Gs' := [wdX8 kc m_o m_now m_mind m_then m_text m_rules m_sizes m_read m_names m_letters m_begins m_words m_drifts m_above m_bodies m_trace m_sorts m_lengths m_items m_moved mnow mmind mthen mkept mtext mtexted mrules msizes mruled mread msize mat mwell mwithin msum mbear mnames mletters mbegins mwords mdrifts mabove mbodies mtrace mran msorts mlengths mitems mmoved]) hx hb hml hown hts hK hP hD hS hA (ctX8_isLeaf (m_o := m_o) (m_now := m_now) (m_mind := m_mind) (m_then := m_then) (m_text := m_text) (m_rules := m_rules) (m_sizes := m_sizes) (m_read := m_read) (m_names := m_names) (m_letters := m_letters) (m_begins := m_begins) (m_words := m_words) (m_drifts := m_drifts) (m_above := m_above) (m_bodies := m_bodies) (m_trace := m_trace) (m_sorts := m_sorts) (m_lengths := m_lengths) (m_items := m_items) (m_moved := m_moved) (mnow := mnow) (mmind := mmind) (mthen := mthen) (mkept := mkept) (mtext := mtext) (mtexted := mtexted) (mrules := mrules) (msizes := msizes) (mruled := mruled) (mread := mread) (msize := msize) (mat := mat) (mwell := mwell) (mwithin := mwithin) (msum := msum) (mbear := mbear) (mnames := mnames) (mletters := mletters) (mbegins := mbegins) (mwords := mwords) (mdrifts := mdrifts) (mabove := mabove) (mbodies := mbodies) (mtrace := mtrace) (mran := mran) (msorts := msorts) (mlengths := mlengths) (mitems := mitems) (mmoved := mmoved) (x1 := x2) hc31) (cwV 1 hts gX8_plan_X8_isLeaf rfl rfl rfl (by decide +kernel) ⟨Nat.le_of_ble_eq_true rfl, Nat.le_of_ble_eq_true rfl⟩) [0] rfl (by decide) 8 rfl rfl rfl rfl hl rfl (Nat.le_of_ble_eq_true rfl) dX8_plan_31 ⟨Nat.zero_le _, Nat.zero_le _⟩ rfl rfl rfl (fun H locs hP hD hS => ?_)
        refine lv_if_ne (tgt := 50) hx hb dX8_plan_34 (by decide) (fun c34 => ?_) (fun c34 => ?_)
        · replace hm := it_f c34 hm
          refine lv_iconst (v := 1) hx hb dX8_plan_50 (by decide) ?_
          refine lv_goto (tgt := 55) hx hb dX8_plan_51 (by decide) ?_
          refine lv_istore_n (lv' := [(3, .int 1), (0, .ref m_o), (1, .int x1), (2, .int x2)]) hx hb dX8_plan_55 rfl hl (by decide) rfl (fun ls hl => ?_)
          refine lv_iload_n hx hb dX8_plan_56 rfl (lv_at hl 0 rfl) ?_
          refine lv_if_ne (tgt := 62) hx hb dX8_plan_57 (by decide) (fun c57 => ?_) (fun c57 => ?_)
          rotate_left
          · exact absurd c57 (by decide)
          refine lv_aload_n hx hb dX8_plan_62 rfl (lv_at hl 1 rfl) ?_
          refine va_get (D := (dC, dI)) (ci := 8) (v := .ref m_now) (C := RX8) (T := TX8) (N := 29) hx hb hts hinX8_plan_X8 hown hK hP 0 rfl rfl 0 (by decide) (hts _ (List.mem_of_getElem? (i := 1) rfl)) (fun _ h9 => h9) rfl dX8_plan_63 ?_
          refine lv_bipush (v := 75) hx hb dX8_plan_66 (by decide) ?_
          refine k_iald (D := (dC, dI)) hx hb hK hP 1 1 rfl rfl (k := 75) (by decide) (show ¬ ((75 : Int32) < 0 ∨ 113 ≤ (75 : Int32).toNatClampNeg) from by decide) dX8_plan_68 ?_
          refine lv_bipush (v := 10) hx hb dX8_plan_69 (by decide) ?_
          refine lv_icmp_ne (tgt := 77) hx hb dX8_plan_71 (by decide) (fun c71 => ?_) (fun c71 => ?_)
          · replace hm := it_f c71 hm
            refine lv_aload_n hx hb dX8_plan_77 rfl (lv_at hl 1 rfl) ?_
            refine va_get (D := (dC, dI)) (ci := 8) (v := .ref m_now) (C := RX8) (T := TX8) (N := 29) hx hb hts hinX8_plan_X8 hown hK hP 0 rfl rfl 0 (by decide) (hts _ (List.mem_of_getElem? (i := 1) rfl)) (fun _ h9 => h9) rfl dX8_plan_78 ?_
            refine lv_bipush (v := 76) hx hb dX8_plan_81 (by decide) ?_
            refine lv_iconst (v := 2) hx hb dX8_plan_83 (by decide) ?_
            refine lv_aload_n hx hb dX8_plan_84 rfl (lv_at hl 1 rfl) ?_
            refine va_get (D := (dC, dI)) (ci := 8) (v := .ref m_now) (C := RX8) (T := TX8) (N := 29) hx hb hts hinX8_plan_X8 hown hK hP 0 rfl rfl 0 (by decide) (hts _ (List.mem_of_getElem? (i := 1) rfl)) (fun _ h9 => h9) rfl dX8_plan_85 ?_
            refine lv_bipush (v := 75) hx hb dX8_plan_88 (by decide) ?_
            refine k_iald (D := (dC, dI)) hx hb hK hP 1 1 rfl rfl (k := 75) (by decide) (show ¬ ((75 : Int32) < 0 ∨ 113 ≤ (75 : Int32).toNatClampNeg) from by decide) dX8_plan_90 ?_
            refine lv_imul hx hb dX8_plan_91 ?_
            refine lv_iadd hx hb dX8_plan_92 ?_
            refine lv_iload_n hx hb dX8_plan_93 rfl (lv_at hl 2 rfl) ?_
            obtain ⟨hg94, hm⟩ := gd_e hm
            refine k_iast (D := (dC, dI)) hx hb hK hP hD hS 1 1 rfl rfl (k := (76 + (2 * (mnow 75))).toNatClampNeg) rfl hg94 dX8_plan_94 (fun H locs hP hD hS => ?_)
            have hP : va_P (dC, dI) vwCl (fl [wdX8 kc m_o m_now m_mind m_then m_text m_rules m_sizes m_read m_names m_letters m_begins m_words m_drifts m_above m_bodies m_trace m_sorts m_lengths m_items m_moved (upd mnow ((76 + (2 * (mnow 75))).toNatClampNeg) x1) mmind mthen mkept mtext mtexted mrules msizes mruled mread msize mat mwell mwithin msum mbear mnames mletters mbegins mwords mdrifts mabove mbodies mtrace mran msorts mlengths mitems mmoved]) H := hP
            have hD : va_D A (fl [wdX8 kc m_o m_now m_mind m_then m_text m_rules m_sizes m_read m_names m_letters m_begins m_words m_drifts m_above m_bodies m_trace m_sorts m_lengths m_items m_moved (upd mnow ((76 + (2 * (mnow 75))).toNatClampNeg) x1) mmind mthen mkept mtext mtexted mrules msizes mruled mread msize mat mwell mwithin msum mbear mnames mletters mbegins mwords mdrifts mabove mbodies mtrace mran msorts mlengths mitems mmoved]) := hD
            refine lv_aload_n hx hb dX8_plan_95 rfl (lv_at hl 1 rfl) ?_
            refine va_get (D := (dC, dI)) (ci := 8) (v := .ref m_now) (C := RX8) (T := TX8) (N := 29) hx hb hts hinX8_plan_X8 hown hK hP 0 rfl rfl 0 (by decide) (hts _ (List.mem_of_getElem? (i := 1) rfl)) (fun _ h9 => h9) rfl dX8_plan_96 ?_
            refine lv_bipush (v := 77) hx hb dX8_plan_99 (by decide) ?_
            refine lv_iconst (v := 2) hx hb dX8_plan_101 (by decide) ?_
            refine lv_aload_n hx hb dX8_plan_102 rfl (lv_at hl 1 rfl) ?_
            refine va_get (D := (dC, dI)) (ci := 8) (v := .ref m_now) (C := RX8) (T := TX8) (N := 29) hx hb hts hinX8_plan_X8 hown hK hP 0 rfl rfl 0 (by decide) (hts _ (List.mem_of_getElem? (i := 1) rfl)) (fun _ h9 => h9) rfl dX8_plan_103 ?_
            refine lv_bipush (v := 75) hx hb dX8_plan_106 (by decide) ?_
            refine k_iald (D := (dC, dI)) hx hb hK hP 1 1 rfl rfl (k := 75) (by decide) (show ¬ ((75 : Int32) < 0 ∨ 113 ≤ (75 : Int32).toNatClampNeg) from by decide) dX8_plan_108 ?_
            refine lv_imul hx hb dX8_plan_109 ?_
            refine lv_iadd hx hb dX8_plan_110 ?_
            refine lv_iload_n hx hb dX8_plan_111 rfl (lv_at hl 3 rfl) ?_
            obtain ⟨hg112, hm⟩ := gd_e hm
            refine k_iast (D := (dC, dI)) hx hb hK hP hD hS 1 1 rfl rfl (k := (77 + (2 * ((upd mnow ((76 + (2 * (mnow 75))).toNatClampNeg) x1) 75))).toNatClampNeg) rfl hg112 dX8_plan_112 (fun H locs hP hD hS => ?_)
            have hP : va_P (dC, dI) vwCl (fl [wdX8 kc m_o m_now m_mind m_then m_text m_rules m_sizes m_read m_names m_letters m_begins m_words m_drifts m_above m_bodies m_trace m_sorts m_lengths m_items m_moved (upd (upd mnow ((76 + (2 * (mnow 75))).toNatClampNeg) x1) ((77 + (2 * ((upd mnow ((76 + (2 * (mnow 75))).toNatClampNeg) x1) 75))).toNatClampNeg) x2) mmind mthen mkept mtext mtexted mrules msizes mruled mread msize mat mwell mwithin msum mbear mnames mletters mbegins mwords mdrifts mabove mbodies mtrace mran msorts mlengths mitems mmoved]) H := hP
            have hD : va_D A (fl [wdX8 kc m_o m_now m_mind m_then m_text m_rules m_sizes m_read m_names m_letters m_begins m_words m_drifts m_above m_bodies m_trace m_sorts m_lengths m_items m_moved (upd (upd mnow ((76 + (2 * (mnow 75))).toNatClampNeg) x1) ((77 + (2 * ((upd mnow ((76 + (2 * (mnow 75))).toNatClampNeg) x1) 75))).toNatClampNeg) x2) mmind mthen mkept mtext mtexted mrules msizes mruled mread msize mat mwell mwithin msum mbear mnames mletters mbegins mwords mdrifts mabove mbodies mtrace mran msorts mlengths mitems mmoved]) := hD
            refine lv_aload_n hx hb dX8_plan_113 rfl (lv_at hl 1 rfl) ?_
            refine va_get (D := (dC, dI)) (ci := 8) (v := .ref m_now) (C := RX8) (T := TX8) (N := 29) hx hb hts hinX8_plan_X8 hown hK hP 0 rfl rfl 0 (by decide) (hts _ (List.mem_of_getElem? (i := 1) rfl)) (fun _ h9 => h9) rfl dX8_plan_114 ?_
            refine lv_bipush (v := 75) hx hb dX8_plan_117 (by decide) ?_
            refine lv_dup2_11 hx hb dX8_plan_119 rfl rfl ?_
            refine k_iald (D := (dC, dI)) hx hb hK hP 1 1 rfl rfl (k := 75) (by decide) (show ¬ ((75 : Int32) < 0 ∨ 113 ≤ (75 : Int32).toNatClampNeg) from by decide) dX8_plan_120 ?_
            refine lv_iconst (v := 1) hx hb dX8_plan_121 (by decide) ?_
            refine lv_iadd hx hb dX8_plan_122 ?_
            refine k_iast (D := (dC, dI)) hx hb hK hP hD hS 1 1 rfl rfl (k := 75) (by decide) (show ¬ ((75 : Int32) < 0 ∨ 113 ≤ (75 : Int32).toNatClampNeg) from by decide) dX8_plan_123 (fun H locs hP hD hS => ?_)
            have hP : va_P (dC, dI) vwCl (fl [wdX8 kc m_o m_now m_mind m_then m_text m_rules m_sizes m_read m_names m_letters m_begins m_words m_drifts m_above m_bodies m_trace m_sorts m_lengths m_items m_moved (upd (upd (upd mnow ((76 + (2 * (mnow 75))).toNatClampNeg) x1) ((77 + (2 * ((upd mnow ((76 + (2 * (mnow 75))).toNatClampNeg) x1) 75))).toNatClampNeg) x2) 75 (((upd (upd mnow ((76 + (2 * (mnow 75))).toNatClampNeg) x1) ((77 + (2 * ((upd mnow ((76 + (2 * (mnow 75))).toNatClampNeg) x1) 75))).toNatClampNeg) x2) 75) + 1)) mmind mthen mkept mtext mtexted mrules msizes mruled mread msize mat mwell mwithin msum mbear mnames mletters mbegins mwords mdrifts mabove mbodies mtrace mran msorts mlengths mitems mmoved]) H := hP
            have hD : va_D A (fl [wdX8 kc m_o m_now m_mind m_then m_text m_rules m_sizes m_read m_names m_letters m_begins m_words m_drifts m_above m_bodies m_trace m_sorts m_lengths m_items m_moved (upd (upd (upd mnow ((76 + (2 * (mnow 75))).toNatClampNeg) x1) ((77 + (2 * ((upd mnow ((76 + (2 * (mnow 75))).toNatClampNeg) x1) 75))).toNatClampNeg) x2) 75 (((upd (upd mnow ((76 + (2 * (mnow 75))).toNatClampNeg) x1) ((77 + (2 * ((upd mnow ((76 + (2 * (mnow 75))).toNatClampNeg) x1) 75))).toNatClampNeg) x2) 75) + 1)) mmind mthen mkept mtext mtexted mrules msizes mruled mread msize mat mwell mwithin msum mbear mnames mletters mbegins mwords mdrifts mabove mbodies mtrace mran msorts mlengths mitems mmoved]) := hD
            refine lv_aload_n hx hb dX8_plan_124 rfl (lv_at hl 1 rfl) ?_
            refine va_get (D := (dC, dI)) (ci := 8) (v := .ref m_now) (C := RX8) (T := TX8) (N := 29) hx hb hts hinX8_plan_X8 hown hK hP 0 rfl rfl 0 (by decide) (hts _ (List.mem_of_getElem? (i := 1) rfl)) (fun _ h9 => h9) rfl dX8_plan_125 ?_
            refine lv_bipush (v := 75) hx hb dX8_plan_128 (by decide) ?_
            refine k_iald (D := (dC, dI)) hx hb hK hP 1 1 rfl rfl (k := 75) (by decide) (show ¬ ((75 : Int32) < 0 ∨ 113 ≤ (75 : Int32).toNatClampNeg) from by decide) dX8_plan_130 ?_
            cases hm
            exact k_iret hx hb hr hlocks hP hS dX8_plan_131
          · replace hm := it_t c71 hm
            refine lv_bipush (v := (-4)) hx hb dX8_plan_74 (by decide) ?_
            cases hm
            exact k_iret hx hb hr hlocks hP hS dX8_plan_76
        · replace hm := it_t c34 hm
          refine lv_iload_n hx hb dX8_plan_37 rfl (lv_at hl 1 rfl) ?_
          refine lv_iconst (v := 3) hx hb dX8_plan_38 (by decide) ?_
          refine lv_icmp_ne (tgt := 54) hx hb dX8_plan_39 (by decide) (fun c39 => ?_) (fun c39 => ?_)
          · replace hm := it_f c39 hm
            refine lv_iconst (v := 0) hx hb dX8_plan_54 (by decide) ?_
            refine lv_istore_n (lv' := [(3, .int 0), (0, .ref m_o), (1, .int x1), (2, .int x2)]) hx hb dX8_plan_55 rfl hl (by decide) rfl (fun ls hl => ?_)
            refine lv_iload_n hx hb dX8_plan_56 rfl (lv_at hl 0 rfl) ?_
            refine lv_if_ne (tgt := 62) hx hb dX8_plan_57 (by decide) (fun c57 => ?_) (fun c57 => ?_)
            · exact absurd c57 (by decide)
            refine lv_iconst (v := (-1)) hx hb dX8_plan_60 (by decide) ?_
            cases hm
            exact k_iret hx hb hr hlocks hP hS dX8_plan_61
          · replace hm := it_t c39 hm
            refine lv_aload_n hx hb dX8_plan_42 rfl (lv_at hl 0 rfl) ?_
            refine lv_iload_n hx hb dX8_plan_43 rfl (lv_at hl 2 rfl) ?_
            obtain ⟨r44, hc44, hm⟩ := bd1_e hm
            refine k_callGVi (dC := dC) (dI := dI) (kc := kc) (As := [.int x2]) (rest := []) (Gs' := [wdX8 kc m_o m_now m_mind m_then m_text m_rules m_sizes m_read m_names m_letters m_begins m_words m_drifts m_above m_bodies m_trace m_sorts m_lengths m_items m_moved mnow mmind mthen mkept mtext mtexted mrules msizes mruled mread msize mat mwell mwithin msum mbear mnames mletters mbegins mwords mdrifts mabove mbodies mtrace mran msorts mlengths mitems mmoved]) hx hb hml hown hts hK hP hD hS hA (ctX8_isOne (m_o := m_o) (m_now := m_now) (m_mind := m_mind) (m_then := m_then) (m_text := m_text) (m_rules := m_rules) (m_sizes := m_sizes) (m_read := m_read) (m_names := m_names) (m_letters := m_letters) (m_begins := m_begins) (m_words := m_words) (m_drifts := m_drifts) (m_above := m_above) (m_bodies := m_bodies) (m_trace := m_trace) (m_sorts := m_sorts) (m_lengths := m_lengths) (m_items := m_items) (m_moved := m_moved) (mnow := mnow) (mmind := mmind) (mthen := mthen) (mkept := mkept) (mtext := mtext) (mtexted := mtexted) (mrules := mrules) (msizes := msizes) (mruled := mruled) (mread := mread) (msize := msize) (mat := mat) (mwell := mwell) (mwithin := mwithin) (msum := msum) (mbear := mbear) (mnames := mnames) (mletters := mletters) (mbegins := mbegins) (mwords := mwords) (mdrifts := mdrifts) (mabove := mabove) (mbodies := mbodies) (mtrace := mtrace) (mran := mran) (msorts := msorts) (mlengths := mlengths) (mitems := mitems) (mmoved := mmoved) (x1 := x2) hc44) (cwV 1 hts gX8_plan_X8_isOne rfl rfl rfl (by decide +kernel) ⟨Nat.le_of_ble_eq_true rfl, Nat.le_of_ble_eq_true rfl⟩) [0] rfl (by decide) 8 rfl rfl rfl rfl hl rfl (Nat.le_of_ble_eq_true rfl) dX8_plan_44 ⟨Nat.zero_le _, Nat.zero_le _⟩ rfl rfl rfl (fun H locs hP hD hS => ?_)
            refine lv_if_eq (tgt := 54) hx hb dX8_plan_47 (by decide) (fun c47 => ?_) (fun c47 => ?_)
            · replace hm := it_t c47 hm
              refine lv_iconst (v := 0) hx hb dX8_plan_54 (by decide) ?_
              refine lv_istore_n (lv' := [(3, .int 0), (0, .ref m_o), (1, .int x1), (2, .int x2)]) hx hb dX8_plan_55 rfl hl (by decide) rfl (fun ls hl => ?_)
              refine lv_iload_n hx hb dX8_plan_56 rfl (lv_at hl 0 rfl) ?_
              refine lv_if_ne (tgt := 62) hx hb dX8_plan_57 (by decide) (fun c57 => ?_) (fun c57 => ?_)
              · exact absurd c57 (by decide)
              refine lv_iconst (v := (-1)) hx hb dX8_plan_60 (by decide) ?_
              cases hm
              exact k_iret hx hb hr hlocks hP hS dX8_plan_61
            · replace hm := it_f c47 hm
              refine lv_iconst (v := 1) hx hb dX8_plan_50 (by decide) ?_
              refine lv_goto (tgt := 55) hx hb dX8_plan_51 (by decide) ?_
              refine lv_istore_n (lv' := [(3, .int 1), (0, .ref m_o), (1, .int x1), (2, .int x2)]) hx hb dX8_plan_55 rfl hl (by decide) rfl (fun ls hl => ?_)
              refine lv_iload_n hx hb dX8_plan_56 rfl (lv_at hl 0 rfl) ?_
              refine lv_if_ne (tgt := 62) hx hb dX8_plan_57 (by decide) (fun c57 => ?_) (fun c57 => ?_)
              rotate_left
              · exact absurd c57 (by decide)
              refine lv_aload_n hx hb dX8_plan_62 rfl (lv_at hl 1 rfl) ?_
              refine va_get (D := (dC, dI)) (ci := 8) (v := .ref m_now) (C := RX8) (T := TX8) (N := 29) hx hb hts hinX8_plan_X8 hown hK hP 0 rfl rfl 0 (by decide) (hts _ (List.mem_of_getElem? (i := 1) rfl)) (fun _ h9 => h9) rfl dX8_plan_63 ?_
              refine lv_bipush (v := 75) hx hb dX8_plan_66 (by decide) ?_
              refine k_iald (D := (dC, dI)) hx hb hK hP 1 1 rfl rfl (k := 75) (by decide) (show ¬ ((75 : Int32) < 0 ∨ 113 ≤ (75 : Int32).toNatClampNeg) from by decide) dX8_plan_68 ?_
              refine lv_bipush (v := 10) hx hb dX8_plan_69 (by decide) ?_
              refine lv_icmp_ne (tgt := 77) hx hb dX8_plan_71 (by decide) (fun c71 => ?_) (fun c71 => ?_)
              · replace hm := it_f c71 hm
                refine lv_aload_n hx hb dX8_plan_77 rfl (lv_at hl 1 rfl) ?_
                refine va_get (D := (dC, dI)) (ci := 8) (v := .ref m_now) (C := RX8) (T := TX8) (N := 29) hx hb hts hinX8_plan_X8 hown hK hP 0 rfl rfl 0 (by decide) (hts _ (List.mem_of_getElem? (i := 1) rfl)) (fun _ h9 => h9) rfl dX8_plan_78 ?_
                refine lv_bipush (v := 76) hx hb dX8_plan_81 (by decide) ?_
                refine lv_iconst (v := 2) hx hb dX8_plan_83 (by decide) ?_
                refine lv_aload_n hx hb dX8_plan_84 rfl (lv_at hl 1 rfl) ?_
                refine va_get (D := (dC, dI)) (ci := 8) (v := .ref m_now) (C := RX8) (T := TX8) (N := 29) hx hb hts hinX8_plan_X8 hown hK hP 0 rfl rfl 0 (by decide) (hts _ (List.mem_of_getElem? (i := 1) rfl)) (fun _ h9 => h9) rfl dX8_plan_85 ?_
                refine lv_bipush (v := 75) hx hb dX8_plan_88 (by decide) ?_
                refine k_iald (D := (dC, dI)) hx hb hK hP 1 1 rfl rfl (k := 75) (by decide) (show ¬ ((75 : Int32) < 0 ∨ 113 ≤ (75 : Int32).toNatClampNeg) from by decide) dX8_plan_90 ?_
                refine lv_imul hx hb dX8_plan_91 ?_
                refine lv_iadd hx hb dX8_plan_92 ?_
                refine lv_iload_n hx hb dX8_plan_93 rfl (lv_at hl 2 rfl) ?_
                obtain ⟨hg94, hm⟩ := gd_e hm
                refine k_iast (D := (dC, dI)) hx hb hK hP hD hS 1 1 rfl rfl (k := (76 + (2 * (mnow 75))).toNatClampNeg) rfl hg94 dX8_plan_94 (fun H locs hP hD hS => ?_)
                have hP : va_P (dC, dI) vwCl (fl [wdX8 kc m_o m_now m_mind m_then m_text m_rules m_sizes m_read m_names m_letters m_begins m_words m_drifts m_above m_bodies m_trace m_sorts m_lengths m_items m_moved (upd mnow ((76 + (2 * (mnow 75))).toNatClampNeg) x1) mmind mthen mkept mtext mtexted mrules msizes mruled mread msize mat mwell mwithin msum mbear mnames mletters mbegins mwords mdrifts mabove mbodies mtrace mran msorts mlengths mitems mmoved]) H := hP
                have hD : va_D A (fl [wdX8 kc m_o m_now m_mind m_then m_text m_rules m_sizes m_read m_names m_letters m_begins m_words m_drifts m_above m_bodies m_trace m_sorts m_lengths m_items m_moved (upd mnow ((76 + (2 * (mnow 75))).toNatClampNeg) x1) mmind mthen mkept mtext mtexted mrules msizes mruled mread msize mat mwell mwithin msum mbear mnames mletters mbegins mwords mdrifts mabove mbodies mtrace mran msorts mlengths mitems mmoved]) := hD
                refine lv_aload_n hx hb dX8_plan_95 rfl (lv_at hl 1 rfl) ?_
                refine va_get (D := (dC, dI)) (ci := 8) (v := .ref m_now) (C := RX8) (T := TX8) (N := 29) hx hb hts hinX8_plan_X8 hown hK hP 0 rfl rfl 0 (by decide) (hts _ (List.mem_of_getElem? (i := 1) rfl)) (fun _ h9 => h9) rfl dX8_plan_96 ?_
                refine lv_bipush (v := 77) hx hb dX8_plan_99 (by decide) ?_
                refine lv_iconst (v := 2) hx hb dX8_plan_101 (by decide) ?_
                refine lv_aload_n hx hb dX8_plan_102 rfl (lv_at hl 1 rfl) ?_
                refine va_get (D := (dC, dI)) (ci := 8) (v := .ref m_now) (C := RX8) (T := TX8) (N := 29) hx hb hts hinX8_plan_X8 hown hK hP 0 rfl rfl 0 (by decide) (hts _ (List.mem_of_getElem? (i := 1) rfl)) (fun _ h9 => h9) rfl dX8_plan_103 ?_
                refine lv_bipush (v := 75) hx hb dX8_plan_106 (by decide) ?_
                refine k_iald (D := (dC, dI)) hx hb hK hP 1 1 rfl rfl (k := 75) (by decide) (show ¬ ((75 : Int32) < 0 ∨ 113 ≤ (75 : Int32).toNatClampNeg) from by decide) dX8_plan_108 ?_
                refine lv_imul hx hb dX8_plan_109 ?_
                refine lv_iadd hx hb dX8_plan_110 ?_
                refine lv_iload_n hx hb dX8_plan_111 rfl (lv_at hl 3 rfl) ?_
                obtain ⟨hg112, hm⟩ := gd_e hm
                refine k_iast (D := (dC, dI)) hx hb hK hP hD hS 1 1 rfl rfl (k := (77 + (2 * ((upd mnow ((76 + (2 * (mnow 75))).toNatClampNeg) x1) 75))).toNatClampNeg) rfl hg112 dX8_plan_112 (fun H locs hP hD hS => ?_)
                have hP : va_P (dC, dI) vwCl (fl [wdX8 kc m_o m_now m_mind m_then m_text m_rules m_sizes m_read m_names m_letters m_begins m_words m_drifts m_above m_bodies m_trace m_sorts m_lengths m_items m_moved (upd (upd mnow ((76 + (2 * (mnow 75))).toNatClampNeg) x1) ((77 + (2 * ((upd mnow ((76 + (2 * (mnow 75))).toNatClampNeg) x1) 75))).toNatClampNeg) x2) mmind mthen mkept mtext mtexted mrules msizes mruled mread msize mat mwell mwithin msum mbear mnames mletters mbegins mwords mdrifts mabove mbodies mtrace mran msorts mlengths mitems mmoved]) H := hP
                have hD : va_D A (fl [wdX8 kc m_o m_now m_mind m_then m_text m_rules m_sizes m_read m_names m_letters m_begins m_words m_drifts m_above m_bodies m_trace m_sorts m_lengths m_items m_moved (upd (upd mnow ((76 + (2 * (mnow 75))).toNatClampNeg) x1) ((77 + (2 * ((upd mnow ((76 + (2 * (mnow 75))).toNatClampNeg) x1) 75))).toNatClampNeg) x2) mmind mthen mkept mtext mtexted mrules msizes mruled mread msize mat mwell mwithin msum mbear mnames mletters mbegins mwords mdrifts mabove mbodies mtrace mran msorts mlengths mitems mmoved]) := hD
                refine lv_aload_n hx hb dX8_plan_113 rfl (lv_at hl 1 rfl) ?_
                refine va_get (D := (dC, dI)) (ci := 8) (v := .ref m_now) (C := RX8) (T := TX8) (N := 29) hx hb hts hinX8_plan_X8 hown hK hP 0 rfl rfl 0 (by decide) (hts _ (List.mem_of_getElem? (i := 1) rfl)) (fun _ h9 => h9) rfl dX8_plan_114 ?_
                refine lv_bipush (v := 75) hx hb dX8_plan_117 (by decide) ?_
                refine lv_dup2_11 hx hb dX8_plan_119 rfl rfl ?_
                refine k_iald (D := (dC, dI)) hx hb hK hP 1 1 rfl rfl (k := 75) (by decide) (show ¬ ((75 : Int32) < 0 ∨ 113 ≤ (75 : Int32).toNatClampNeg) from by decide) dX8_plan_120 ?_
                refine lv_iconst (v := 1) hx hb dX8_plan_121 (by decide) ?_
                refine lv_iadd hx hb dX8_plan_122 ?_
                refine k_iast (D := (dC, dI)) hx hb hK hP hD hS 1 1 rfl rfl (k := 75) (by decide) (show ¬ ((75 : Int32) < 0 ∨ 113 ≤ (75 : Int32).toNatClampNeg) from by decide) dX8_plan_123 (fun H locs hP hD hS => ?_)
                have hP : va_P (dC, dI) vwCl (fl [wdX8 kc m_o m_now m_mind m_then m_text m_rules m_sizes m_read m_names m_letters m_begins m_words m_drifts m_above m_bodies m_trace m_sorts m_lengths m_items m_moved (upd (upd (upd mnow ((76 + (2 * (mnow 75))).toNatClampNeg) x1) ((77 + (2 * ((upd mnow ((76 + (2 * (mnow 75))).toNatClampNeg) x1) 75))).toNatClampNeg) x2) 75 (((upd (upd mnow ((76 + (2 * (mnow 75))).toNatClampNeg) x1) ((77 + (2 * ((upd mnow ((76 + (2 * (mnow 75))).toNatClampNeg) x1) 75))).toNatClampNeg) x2) 75) + 1)) mmind mthen mkept mtext mtexted mrules msizes mruled mread msize mat mwell mwithin msum mbear mnames mletters mbegins mwords mdrifts mabove mbodies mtrace mran msorts mlengths mitems mmoved]) H := hP
                have hD : va_D A (fl [wdX8 kc m_o m_now m_mind m_then m_text m_rules m_sizes m_read m_names m_letters m_begins m_words m_drifts m_above m_bodies m_trace m_sorts m_lengths m_items m_moved (upd (upd (upd mnow ((76 + (2 * (mnow 75))).toNatClampNeg) x1) ((77 + (2 * ((upd mnow ((76 + (2 * (mnow 75))).toNatClampNeg) x1) 75))).toNatClampNeg) x2) 75 (((upd (upd mnow ((76 + (2 * (mnow 75))).toNatClampNeg) x1) ((77 + (2 * ((upd mnow ((76 + (2 * (mnow 75))).toNatClampNeg) x1) 75))).toNatClampNeg) x2) 75) + 1)) mmind mthen mkept mtext mtexted mrules msizes mruled mread msize mat mwell mwithin msum mbear mnames mletters mbegins mwords mdrifts mabove mbodies mtrace mran msorts mlengths mitems mmoved]) := hD
                refine lv_aload_n hx hb dX8_plan_124 rfl (lv_at hl 1 rfl) ?_
                refine va_get (D := (dC, dI)) (ci := 8) (v := .ref m_now) (C := RX8) (T := TX8) (N := 29) hx hb hts hinX8_plan_X8 hown hK hP 0 rfl rfl 0 (by decide) (hts _ (List.mem_of_getElem? (i := 1) rfl)) (fun _ h9 => h9) rfl dX8_plan_125 ?_
                refine lv_bipush (v := 75) hx hb dX8_plan_128 (by decide) ?_
                refine k_iald (D := (dC, dI)) hx hb hK hP 1 1 rfl rfl (k := 75) (by decide) (show ¬ ((75 : Int32) < 0 ∨ 113 ≤ (75 : Int32).toNatClampNeg) from by decide) dX8_plan_130 ?_
                cases hm
                exact k_iret hx hb hr hlocks hP hS dX8_plan_131
              · replace hm := it_t c71 hm
                refine lv_bipush (v := (-4)) hx hb dX8_plan_74 (by decide) ?_
                cases hm
                exact k_iret hx hb hr hlocks hP hS dX8_plan_76
      · replace hm := it_f c21 hm
        refine lv_iload_n hx hb dX8_plan_24 rfl (lv_at hl 1 rfl) ?_
        refine lv_iconst (v := 2) hx hb dX8_plan_25 (by decide) ?_
        refine lv_icmp_ne (tgt := 37) hx hb dX8_plan_26 (by decide) (fun c26 => ?_) (fun c26 => ?_)
        · replace hm := it_f c26 hm
          refine lv_iload_n hx hb dX8_plan_37 rfl (lv_at hl 1 rfl) ?_
          refine lv_iconst (v := 3) hx hb dX8_plan_38 (by decide) ?_
          refine lv_icmp_ne (tgt := 54) hx hb dX8_plan_39 (by decide) (fun c39 => ?_) (fun c39 => ?_)
          · replace hm := it_f c39 hm
            refine lv_iconst (v := 0) hx hb dX8_plan_54 (by decide) ?_
            refine lv_istore_n (lv' := [(3, .int 0), (0, .ref m_o), (1, .int x1), (2, .int x2)]) hx hb dX8_plan_55 rfl hl (by decide) rfl (fun ls hl => ?_)
            refine lv_iload_n hx hb dX8_plan_56 rfl (lv_at hl 0 rfl) ?_
            refine lv_if_ne (tgt := 62) hx hb dX8_plan_57 (by decide) (fun c57 => ?_) (fun c57 => ?_)
            · exact absurd c57 (by decide)
            refine lv_iconst (v := (-1)) hx hb dX8_plan_60 (by decide) ?_
            cases hm
            exact k_iret hx hb hr hlocks hP hS dX8_plan_61
          · replace hm := it_t c39 hm
            refine lv_aload_n hx hb dX8_plan_42 rfl (lv_at hl 0 rfl) ?_
            refine lv_iload_n hx hb dX8_plan_43 rfl (lv_at hl 2 rfl) ?_
            obtain ⟨r44, hc44, hm⟩ := bd1_e hm
            refine k_callGVi (dC := dC) (dI := dI) (kc := kc) (As := [.int x2]) (rest := []) (Gs' := [wdX8 kc m_o m_now m_mind m_then m_text m_rules m_sizes m_read m_names m_letters m_begins m_words m_drifts m_above m_bodies m_trace m_sorts m_lengths m_items m_moved mnow mmind mthen mkept mtext mtexted mrules msizes mruled mread msize mat mwell mwithin msum mbear mnames mletters mbegins mwords mdrifts mabove mbodies mtrace mran msorts mlengths mitems mmoved]) hx hb hml hown hts hK hP hD hS hA (ctX8_isOne (m_o := m_o) (m_now := m_now) (m_mind := m_mind) (m_then := m_then) (m_text := m_text) (m_rules := m_rules) (m_sizes := m_sizes) (m_read := m_read) (m_names := m_names) (m_letters := m_letters) (m_begins := m_begins) (m_words := m_words) (m_drifts := m_drifts) (m_above := m_above) (m_bodies := m_bodies) (m_trace := m_trace) (m_sorts := m_sorts) (m_lengths := m_lengths) (m_items := m_items) (m_moved := m_moved) (mnow := mnow) (mmind := mmind) (mthen := mthen) (mkept := mkept) (mtext := mtext) (mtexted := mtexted) (mrules := mrules) (msizes := msizes) (mruled := mruled) (mread := mread) (msize := msize) (mat := mat) (mwell := mwell) (mwithin := mwithin) (msum := msum) (mbear := mbear) (mnames := mnames) (mletters := mletters) (mbegins := mbegins) (mwords := mwords) (mdrifts := mdrifts) (mabove := mabove) (mbodies := mbodies) (mtrace := mtrace) (mran := mran) (msorts := msorts) (mlengths := mlengths) (mitems := mitems) (mmoved := mmoved) (x1 := x2) hc44) (cwV 1 hts gX8_plan_X8_isOne rfl rfl rfl (by decide +kernel) ⟨Nat.le_of_ble_eq_true rfl, Nat.le_of_ble_eq_true rfl⟩) [0] rfl (by decide) 8 rfl rfl rfl rfl hl rfl (Nat.le_of_ble_eq_true rfl) dX8_plan_44 ⟨Nat.zero_le _, Nat.zero_le _⟩ rfl rfl rfl (fun H locs hP hD hS => ?_)
            refine lv_if_eq (tgt := 54) hx hb dX8_plan_47 (by decide) (fun c47 => ?_) (fun c47 => ?_)
            · replace hm := it_t c47 hm
              refine lv_iconst (v := 0) hx hb dX8_plan_54 (by decide) ?_
              refine lv_istore_n (lv' := [(3, .int 0), (0, .ref m_o), (1, .int x1), (2, .int x2)]) hx hb dX8_plan_55 rfl hl (by decide) rfl (fun ls hl => ?_)
              refine lv_iload_n hx hb dX8_plan_56 rfl (lv_at hl 0 rfl) ?_
              refine lv_if_ne (tgt := 62) hx hb dX8_plan_57 (by decide) (fun c57 => ?_) (fun c57 => ?_)
              · exact absurd c57 (by decide)
              refine lv_iconst (v := (-1)) hx hb dX8_plan_60 (by decide) ?_
              cases hm
              exact k_iret hx hb hr hlocks hP hS dX8_plan_61
            · replace hm := it_f c47 hm
              refine lv_iconst (v := 1) hx hb dX8_plan_50 (by decide) ?_
              refine lv_goto (tgt := 55) hx hb dX8_plan_51 (by decide) ?_
              refine lv_istore_n (lv' := [(3, .int 1), (0, .ref m_o), (1, .int x1), (2, .int x2)]) hx hb dX8_plan_55 rfl hl (by decide) rfl (fun ls hl => ?_)
              refine lv_iload_n hx hb dX8_plan_56 rfl (lv_at hl 0 rfl) ?_
              refine lv_if_ne (tgt := 62) hx hb dX8_plan_57 (by decide) (fun c57 => ?_) (fun c57 => ?_)
              rotate_left
              · exact absurd c57 (by decide)
              refine lv_aload_n hx hb dX8_plan_62 rfl (lv_at hl 1 rfl) ?_
              refine va_get (D := (dC, dI)) (ci := 8) (v := .ref m_now) (C := RX8) (T := TX8) (N := 29) hx hb hts hinX8_plan_X8 hown hK hP 0 rfl rfl 0 (by decide) (hts _ (List.mem_of_getElem? (i := 1) rfl)) (fun _ h9 => h9) rfl dX8_plan_63 ?_
              refine lv_bipush (v := 75) hx hb dX8_plan_66 (by decide) ?_
              refine k_iald (D := (dC, dI)) hx hb hK hP 1 1 rfl rfl (k := 75) (by decide) (show ¬ ((75 : Int32) < 0 ∨ 113 ≤ (75 : Int32).toNatClampNeg) from by decide) dX8_plan_68 ?_
              refine lv_bipush (v := 10) hx hb dX8_plan_69 (by decide) ?_
              refine lv_icmp_ne (tgt := 77) hx hb dX8_plan_71 (by decide) (fun c71 => ?_) (fun c71 => ?_)
              · replace hm := it_f c71 hm
                refine lv_aload_n hx hb dX8_plan_77 rfl (lv_at hl 1 rfl) ?_
                refine va_get (D := (dC, dI)) (ci := 8) (v := .ref m_now) (C := RX8) (T := TX8) (N := 29) hx hb hts hinX8_plan_X8 hown hK hP 0 rfl rfl 0 (by decide) (hts _ (List.mem_of_getElem? (i := 1) rfl)) (fun _ h9 => h9) rfl dX8_plan_78 ?_
                refine lv_bipush (v := 76) hx hb dX8_plan_81 (by decide) ?_
                refine lv_iconst (v := 2) hx hb dX8_plan_83 (by decide) ?_
                refine lv_aload_n hx hb dX8_plan_84 rfl (lv_at hl 1 rfl) ?_
                refine va_get (D := (dC, dI)) (ci := 8) (v := .ref m_now) (C := RX8) (T := TX8) (N := 29) hx hb hts hinX8_plan_X8 hown hK hP 0 rfl rfl 0 (by decide) (hts _ (List.mem_of_getElem? (i := 1) rfl)) (fun _ h9 => h9) rfl dX8_plan_85 ?_
                refine lv_bipush (v := 75) hx hb dX8_plan_88 (by decide) ?_
                refine k_iald (D := (dC, dI)) hx hb hK hP 1 1 rfl rfl (k := 75) (by decide) (show ¬ ((75 : Int32) < 0 ∨ 113 ≤ (75 : Int32).toNatClampNeg) from by decide) dX8_plan_90 ?_
                refine lv_imul hx hb dX8_plan_91 ?_
                refine lv_iadd hx hb dX8_plan_92 ?_
                refine lv_iload_n hx hb dX8_plan_93 rfl (lv_at hl 2 rfl) ?_
                obtain ⟨hg94, hm⟩ := gd_e hm
                refine k_iast (D := (dC, dI)) hx hb hK hP hD hS 1 1 rfl rfl (k := (76 + (2 * (mnow 75))).toNatClampNeg) rfl hg94 dX8_plan_94 (fun H locs hP hD hS => ?_)
                have hP : va_P (dC, dI) vwCl (fl [wdX8 kc m_o m_now m_mind m_then m_text m_rules m_sizes m_read m_names m_letters m_begins m_words m_drifts m_above m_bodies m_trace m_sorts m_lengths m_items m_moved (upd mnow ((76 + (2 * (mnow 75))).toNatClampNeg) x1) mmind mthen mkept mtext mtexted mrules msizes mruled mread msize mat mwell mwithin msum mbear mnames mletters mbegins mwords mdrifts mabove mbodies mtrace mran msorts mlengths mitems mmoved]) H := hP
                have hD : va_D A (fl [wdX8 kc m_o m_now m_mind m_then m_text m_rules m_sizes m_read m_names m_letters m_begins m_words m_drifts m_above m_bodies m_trace m_sorts m_lengths m_items m_moved (upd mnow ((76 + (2 * (mnow 75))).toNatClampNeg) x1) mmind mthen mkept mtext mtexted mrules msizes mruled mread msize mat mwell mwithin msum mbear mnames mletters mbegins mwords mdrifts mabove mbodies mtrace mran msorts mlengths mitems mmoved]) := hD
                refine lv_aload_n hx hb dX8_plan_95 rfl (lv_at hl 1 rfl) ?_
                refine va_get (D := (dC, dI)) (ci := 8) (v := .ref m_now) (C := RX8) (T := TX8) (N := 29) hx hb hts hinX8_plan_X8 hown hK hP 0 rfl rfl 0 (by decide) (hts _ (List.mem_of_getElem? (i := 1) rfl)) (fun _ h9 => h9) rfl dX8_plan_96 ?_
                refine lv_bipush (v := 77) hx hb dX8_plan_99 (by decide) ?_
                refine lv_iconst (v := 2) hx hb dX8_plan_101 (by decide) ?_
                refine lv_aload_n hx hb dX8_plan_102 rfl (lv_at hl 1 rfl) ?_
                refine va_get (D := (dC, dI)) (ci := 8) (v := .ref m_now) (C := RX8) (T := TX8) (N := 29) hx hb hts hinX8_plan_X8 hown hK hP 0 rfl rfl 0 (by decide) (hts _ (List.mem_of_getElem? (i := 1) rfl)) (fun _ h9 => h9) rfl dX8_plan_103 ?_
                refine lv_bipush (v := 75) hx hb dX8_plan_106 (by decide) ?_
                refine k_iald (D := (dC, dI)) hx hb hK hP 1 1 rfl rfl (k := 75) (by decide) (show ¬ ((75 : Int32) < 0 ∨ 113 ≤ (75 : Int32).toNatClampNeg) from by decide) dX8_plan_108 ?_
                refine lv_imul hx hb dX8_plan_109 ?_
                refine lv_iadd hx hb dX8_plan_110 ?_
                refine lv_iload_n hx hb dX8_plan_111 rfl (lv_at hl 3 rfl) ?_
                obtain ⟨hg112, hm⟩ := gd_e hm
                refine k_iast (D := (dC, dI)) hx hb hK hP hD hS 1 1 rfl rfl (k := (77 + (2 * ((upd mnow ((76 + (2 * (mnow 75))).toNatClampNeg) x1) 75))).toNatClampNeg) rfl hg112 dX8_plan_112 (fun H locs hP hD hS => ?_)
                have hP : va_P (dC, dI) vwCl (fl [wdX8 kc m_o m_now m_mind m_then m_text m_rules m_sizes m_read m_names m_letters m_begins m_words m_drifts m_above m_bodies m_trace m_sorts m_lengths m_items m_moved (upd (upd mnow ((76 + (2 * (mnow 75))).toNatClampNeg) x1) ((77 + (2 * ((upd mnow ((76 + (2 * (mnow 75))).toNatClampNeg) x1) 75))).toNatClampNeg) x2) mmind mthen mkept mtext mtexted mrules msizes mruled mread msize mat mwell mwithin msum mbear mnames mletters mbegins mwords mdrifts mabove mbodies mtrace mran msorts mlengths mitems mmoved]) H := hP
                have hD : va_D A (fl [wdX8 kc m_o m_now m_mind m_then m_text m_rules m_sizes m_read m_names m_letters m_begins m_words m_drifts m_above m_bodies m_trace m_sorts m_lengths m_items m_moved (upd (upd mnow ((76 + (2 * (mnow 75))).toNatClampNeg) x1) ((77 + (2 * ((upd mnow ((76 + (2 * (mnow 75))).toNatClampNeg) x1) 75))).toNatClampNeg) x2) mmind mthen mkept mtext mtexted mrules msizes mruled mread msize mat mwell mwithin msum mbear mnames mletters mbegins mwords mdrifts mabove mbodies mtrace mran msorts mlengths mitems mmoved]) := hD
                refine lv_aload_n hx hb dX8_plan_113 rfl (lv_at hl 1 rfl) ?_
                refine va_get (D := (dC, dI)) (ci := 8) (v := .ref m_now) (C := RX8) (T := TX8) (N := 29) hx hb hts hinX8_plan_X8 hown hK hP 0 rfl rfl 0 (by decide) (hts _ (List.mem_of_getElem? (i := 1) rfl)) (fun _ h9 => h9) rfl dX8_plan_114 ?_
                refine lv_bipush (v := 75) hx hb dX8_plan_117 (by decide) ?_
                refine lv_dup2_11 hx hb dX8_plan_119 rfl rfl ?_
                refine k_iald (D := (dC, dI)) hx hb hK hP 1 1 rfl rfl (k := 75) (by decide) (show ¬ ((75 : Int32) < 0 ∨ 113 ≤ (75 : Int32).toNatClampNeg) from by decide) dX8_plan_120 ?_
                refine lv_iconst (v := 1) hx hb dX8_plan_121 (by decide) ?_
                refine lv_iadd hx hb dX8_plan_122 ?_
                refine k_iast (D := (dC, dI)) hx hb hK hP hD hS 1 1 rfl rfl (k := 75) (by decide) (show ¬ ((75 : Int32) < 0 ∨ 113 ≤ (75 : Int32).toNatClampNeg) from by decide) dX8_plan_123 (fun H locs hP hD hS => ?_)
                have hP : va_P (dC, dI) vwCl (fl [wdX8 kc m_o m_now m_mind m_then m_text m_rules m_sizes m_read m_names m_letters m_begins m_words m_drifts m_above m_bodies m_trace m_sorts m_lengths m_items m_moved (upd (upd (upd mnow ((76 + (2 * (mnow 75))).toNatClampNeg) x1) ((77 + (2 * ((upd mnow ((76 + (2 * (mnow 75))).toNatClampNeg) x1) 75))).toNatClampNeg) x2) 75 (((upd (upd mnow ((76 + (2 * (mnow 75))).toNatClampNeg) x1) ((77 + (2 * ((upd mnow ((76 + (2 * (mnow 75))).toNatClampNeg) x1) 75))).toNatClampNeg) x2) 75) + 1)) mmind mthen mkept mtext mtexted mrules msizes mruled mread msize mat mwell mwithin msum mbear mnames mletters mbegins mwords mdrifts mabove mbodies mtrace mran msorts mlengths mitems mmoved]) H := hP
                have hD : va_D A (fl [wdX8 kc m_o m_now m_mind m_then m_text m_rules m_sizes m_read m_names m_letters m_begins m_words m_drifts m_above m_bodies m_trace m_sorts m_lengths m_items m_moved (upd (upd (upd mnow ((76 + (2 * (mnow 75))).toNatClampNeg) x1) ((77 + (2 * ((upd mnow ((76 + (2 * (mnow 75))).toNatClampNeg) x1) 75))).toNatClampNeg) x2) 75 (((upd (upd mnow ((76 + (2 * (mnow 75))).toNatClampNeg) x1) ((77 + (2 * ((upd mnow ((76 + (2 * (mnow 75))).toNatClampNeg) x1) 75))).toNatClampNeg) x2) 75) + 1)) mmind mthen mkept mtext mtexted mrules msizes mruled mread msize mat mwell mwithin msum mbear mnames mletters mbegins mwords mdrifts mabove mbodies mtrace mran msorts mlengths mitems mmoved]) := hD
                refine lv_aload_n hx hb dX8_plan_124 rfl (lv_at hl 1 rfl) ?_
                refine va_get (D := (dC, dI)) (ci := 8) (v := .ref m_now) (C := RX8) (T := TX8) (N := 29) hx hb hts hinX8_plan_X8 hown hK hP 0 rfl rfl 0 (by decide) (hts _ (List.mem_of_getElem? (i := 1) rfl)) (fun _ h9 => h9) rfl dX8_plan_125 ?_
                refine lv_bipush (v := 75) hx hb dX8_plan_128 (by decide) ?_
                refine k_iald (D := (dC, dI)) hx hb hK hP 1 1 rfl rfl (k := 75) (by decide) (show ¬ ((75 : Int32) < 0 ∨ 113 ≤ (75 : Int32).toNatClampNeg) from by decide) dX8_plan_130 ?_
                cases hm
                exact k_iret hx hb hr hlocks hP hS dX8_plan_131
              · replace hm := it_t c71 hm
                refine lv_bipush (v := (-4)) hx hb dX8_plan_74 (by decide) ?_
                cases hm
                exact k_iret hx hb hr hlocks hP hS dX8_plan_76
        · replace hm := it_t c26 hm
          refine lv_aload_n hx hb dX8_plan_29 rfl (lv_at hl 0 rfl) ?_
          refine lv_iload_n hx hb dX8_plan_30 rfl (lv_at hl 2 rfl) ?_
          obtain ⟨r31, hc31, hm⟩ := bd1_e hm
          refine k_callGVi (dC := dC) (dI := dI) (kc := kc) (As := [.int x2]) (rest := []) (Gs' := [wdX8 kc m_o m_now m_mind m_then m_text m_rules m_sizes m_read m_names m_letters m_begins m_words m_drifts m_above m_bodies m_trace m_sorts m_lengths m_items m_moved mnow mmind mthen mkept mtext mtexted mrules msizes mruled mread msize mat mwell mwithin msum mbear mnames mletters mbegins mwords mdrifts mabove mbodies mtrace mran msorts mlengths mitems mmoved]) hx hb hml hown hts hK hP hD hS hA (ctX8_isLeaf (m_o := m_o) (m_now := m_now) (m_mind := m_mind) (m_then := m_then) (m_text := m_text) (m_rules := m_rules) (m_sizes := m_sizes) (m_read := m_read) (m_names := m_names) (m_letters := m_letters) (m_begins := m_begins) (m_words := m_words) (m_drifts := m_drifts) (m_above := m_above) (m_bodies := m_bodies) (m_trace := m_trace) (m_sorts := m_sorts) (m_lengths := m_lengths) (m_items := m_items) (m_moved := m_moved) (mnow := mnow) (mmind := mmind) (mthen := mthen) (mkept := mkept) (mtext := mtext) (mtexted := mtexted) (mrules := mrules) (msizes := msizes) (mruled := mruled) (mread := mread) (msize := msize) (mat := mat) (mwell := mwell) (mwithin := mwithin) (msum := msum) (mbear := mbear) (mnames := mnames) (mletters := mletters) (mbegins := mbegins) (mwords := mwords) (mdrifts := mdrifts) (mabove := mabove) (mbodies := mbodies) (mtrace := mtrace) (mran := mran) (msorts := msorts) (mlengths := mlengths) (mitems := mitems) (mmoved := mmoved) (x1 := x2) hc31) (cwV 1 hts gX8_plan_X8_isLeaf rfl rfl rfl (by decide +kernel) ⟨Nat.le_of_ble_eq_true rfl, Nat.le_of_ble_eq_true rfl⟩) [0] rfl (by decide) 8 rfl rfl rfl rfl hl rfl (Nat.le_of_ble_eq_true rfl) dX8_plan_31 ⟨Nat.zero_le _, Nat.zero_le _⟩ rfl rfl rfl (fun H locs hP hD hS => ?_)
          refine lv_if_ne (tgt := 50) hx hb dX8_plan_34 (by decide) (fun c34 => ?_) (fun c34 => ?_)
          · replace hm := it_f c34 hm
            refine lv_iconst (v := 1) hx hb dX8_plan_50 (by decide) ?_
            refine lv_goto (tgt := 55) hx hb dX8_plan_51 (by decide) ?_
            refine lv_istore_n (lv' := [(3, .int 1), (0, .ref m_o), (1, .int x1), (2, .int x2)]) hx hb dX8_plan_55 rfl hl (by decide) rfl (fun ls hl => ?_)
            refine lv_iload_n hx hb dX8_plan_56 rfl (lv_at hl 0 rfl) ?_
            refine lv_if_ne (tgt := 62) hx hb dX8_plan_57 (by decide) (fun c57 => ?_) (fun c57 => ?_)
            rotate_left
            · exact absurd c57 (by decide)
            refine lv_aload_n hx hb dX8_plan_62 rfl (lv_at hl 1 rfl) ?_
            refine va_get (D := (dC, dI)) (ci := 8) (v := .ref m_now) (C := RX8) (T := TX8) (N := 29) hx hb hts hinX8_plan_X8 hown hK hP 0 rfl rfl 0 (by decide) (hts _ (List.mem_of_getElem? (i := 1) rfl)) (fun _ h9 => h9) rfl dX8_plan_63 ?_
            refine lv_bipush (v := 75) hx hb dX8_plan_66 (by decide) ?_
            refine k_iald (D := (dC, dI)) hx hb hK hP 1 1 rfl rfl (k := 75) (by decide) (show ¬ ((75 : Int32) < 0 ∨ 113 ≤ (75 : Int32).toNatClampNeg) from by decide) dX8_plan_68 ?_
            refine lv_bipush (v := 10) hx hb dX8_plan_69 (by decide) ?_
            refine lv_icmp_ne (tgt := 77) hx hb dX8_plan_71 (by decide) (fun c71 => ?_) (fun c71 => ?_)
            · replace hm := it_f c71 hm
              refine lv_aload_n hx hb dX8_plan_77 rfl (lv_at hl 1 rfl) ?_
              refine va_get (D := (dC, dI)) (ci := 8) (v := .ref m_now) (C := RX8) (T := TX8) (N := 29) hx hb hts hinX8_plan_X8 hown hK hP 0 rfl rfl 0 (by decide) (hts _ (List.mem_of_getElem? (i := 1) rfl)) (fun _ h9 => h9) rfl dX8_plan_78 ?_
              refine lv_bipush (v := 76) hx hb dX8_plan_81 (by decide) ?_
              refine lv_iconst (v := 2) hx hb dX8_plan_83 (by decide) ?_
              refine lv_aload_n hx hb dX8_plan_84 rfl (lv_at hl 1 rfl) ?_
              refine va_get (D := (dC, dI)) (ci := 8) (v := .ref m_now) (C := RX8) (T := TX8) (N := 29) hx hb hts hinX8_plan_X8 hown hK hP 0 rfl rfl 0 (by decide) (hts _ (List.mem_of_getElem? (i := 1) rfl)) (fun _ h9 => h9) rfl dX8_plan_85 ?_
              refine lv_bipush (v := 75) hx hb dX8_plan_88 (by decide) ?_
              refine k_iald (D := (dC, dI)) hx hb hK hP 1 1 rfl rfl (k := 75) (by decide) (show ¬ ((75 : Int32) < 0 ∨ 113 ≤ (75 : Int32).toNatClampNeg) from by decide) dX8_plan_90 ?_
              refine lv_imul hx hb dX8_plan_91 ?_
              refine lv_iadd hx hb dX8_plan_92 ?_
              refine lv_iload_n hx hb dX8_plan_93 rfl (lv_at hl 2 rfl) ?_
              obtain ⟨hg94, hm⟩ := gd_e hm
              refine k_iast (D := (dC, dI)) hx hb hK hP hD hS 1 1 rfl rfl (k := (76 + (2 * (mnow 75))).toNatClampNeg) rfl hg94 dX8_plan_94 (fun H locs hP hD hS => ?_)
              have hP : va_P (dC, dI) vwCl (fl [wdX8 kc m_o m_now m_mind m_then m_text m_rules m_sizes m_read m_names m_letters m_begins m_words m_drifts m_above m_bodies m_trace m_sorts m_lengths m_items m_moved (upd mnow ((76 + (2 * (mnow 75))).toNatClampNeg) x1) mmind mthen mkept mtext mtexted mrules msizes mruled mread msize mat mwell mwithin msum mbear mnames mletters mbegins mwords mdrifts mabove mbodies mtrace mran msorts mlengths mitems mmoved]) H := hP
              have hD : va_D A (fl [wdX8 kc m_o m_now m_mind m_then m_text m_rules m_sizes m_read m_names m_letters m_begins m_words m_drifts m_above m_bodies m_trace m_sorts m_lengths m_items m_moved (upd mnow ((76 + (2 * (mnow 75))).toNatClampNeg) x1) mmind mthen mkept mtext mtexted mrules msizes mruled mread msize mat mwell mwithin msum mbear mnames mletters mbegins mwords mdrifts mabove mbodies mtrace mran msorts mlengths mitems mmoved]) := hD
              refine lv_aload_n hx hb dX8_plan_95 rfl (lv_at hl 1 rfl) ?_
              refine va_get (D := (dC, dI)) (ci := 8) (v := .ref m_now) (C := RX8) (T := TX8) (N := 29) hx hb hts hinX8_plan_X8 hown hK hP 0 rfl rfl 0 (by decide) (hts _ (List.mem_of_getElem? (i := 1) rfl)) (fun _ h9 => h9) rfl dX8_plan_96 ?_
              refine lv_bipush (v := 77) hx hb dX8_plan_99 (by decide) ?_
              refine lv_iconst (v := 2) hx hb dX8_plan_101 (by decide) ?_
              refine lv_aload_n hx hb dX8_plan_102 rfl (lv_at hl 1 rfl) ?_
              refine va_get (D := (dC, dI)) (ci := 8) (v := .ref m_now) (C := RX8) (T := TX8) (N := 29) hx hb hts hinX8_plan_X8 hown hK hP 0 rfl rfl 0 (by decide) (hts _ (List.mem_of_getElem? (i := 1) rfl)) (fun _ h9 => h9) rfl dX8_plan_103 ?_
              refine lv_bipush (v := 75) hx hb dX8_plan_106 (by decide) ?_
              refine k_iald (D := (dC, dI)) hx hb hK hP 1 1 rfl rfl (k := 75) (by decide) (show ¬ ((75 : Int32) < 0 ∨ 113 ≤ (75 : Int32).toNatClampNeg) from by decide) dX8_plan_108 ?_
              refine lv_imul hx hb dX8_plan_109 ?_
              refine lv_iadd hx hb dX8_plan_110 ?_
              refine lv_iload_n hx hb dX8_plan_111 rfl (lv_at hl 3 rfl) ?_
              obtain ⟨hg112, hm⟩ := gd_e hm
              refine k_iast (D := (dC, dI)) hx hb hK hP hD hS 1 1 rfl rfl (k := (77 + (2 * ((upd mnow ((76 + (2 * (mnow 75))).toNatClampNeg) x1) 75))).toNatClampNeg) rfl hg112 dX8_plan_112 (fun H locs hP hD hS => ?_)
              have hP : va_P (dC, dI) vwCl (fl [wdX8 kc m_o m_now m_mind m_then m_text m_rules m_sizes m_read m_names m_letters m_begins m_words m_drifts m_above m_bodies m_trace m_sorts m_lengths m_items m_moved (upd (upd mnow ((76 + (2 * (mnow 75))).toNatClampNeg) x1) ((77 + (2 * ((upd mnow ((76 + (2 * (mnow 75))).toNatClampNeg) x1) 75))).toNatClampNeg) x2) mmind mthen mkept mtext mtexted mrules msizes mruled mread msize mat mwell mwithin msum mbear mnames mletters mbegins mwords mdrifts mabove mbodies mtrace mran msorts mlengths mitems mmoved]) H := hP
              have hD : va_D A (fl [wdX8 kc m_o m_now m_mind m_then m_text m_rules m_sizes m_read m_names m_letters m_begins m_words m_drifts m_above m_bodies m_trace m_sorts m_lengths m_items m_moved (upd (upd mnow ((76 + (2 * (mnow 75))).toNatClampNeg) x1) ((77 + (2 * ((upd mnow ((76 + (2 * (mnow 75))).toNatClampNeg) x1) 75))).toNatClampNeg) x2) mmind mthen mkept mtext mtexted mrules msizes mruled mread msize mat mwell mwithin msum mbear mnames mletters mbegins mwords mdrifts mabove mbodies mtrace mran msorts mlengths mitems mmoved]) := hD
              refine lv_aload_n hx hb dX8_plan_113 rfl (lv_at hl 1 rfl) ?_
              refine va_get (D := (dC, dI)) (ci := 8) (v := .ref m_now) (C := RX8) (T := TX8) (N := 29) hx hb hts hinX8_plan_X8 hown hK hP 0 rfl rfl 0 (by decide) (hts _ (List.mem_of_getElem? (i := 1) rfl)) (fun _ h9 => h9) rfl dX8_plan_114 ?_
              refine lv_bipush (v := 75) hx hb dX8_plan_117 (by decide) ?_
              refine lv_dup2_11 hx hb dX8_plan_119 rfl rfl ?_
              refine k_iald (D := (dC, dI)) hx hb hK hP 1 1 rfl rfl (k := 75) (by decide) (show ¬ ((75 : Int32) < 0 ∨ 113 ≤ (75 : Int32).toNatClampNeg) from by decide) dX8_plan_120 ?_
              refine lv_iconst (v := 1) hx hb dX8_plan_121 (by decide) ?_
              refine lv_iadd hx hb dX8_plan_122 ?_
              refine k_iast (D := (dC, dI)) hx hb hK hP hD hS 1 1 rfl rfl (k := 75) (by decide) (show ¬ ((75 : Int32) < 0 ∨ 113 ≤ (75 : Int32).toNatClampNeg) from by decide) dX8_plan_123 (fun H locs hP hD hS => ?_)
              have hP : va_P (dC, dI) vwCl (fl [wdX8 kc m_o m_now m_mind m_then m_text m_rules m_sizes m_read m_names m_letters m_begins m_words m_drifts m_above m_bodies m_trace m_sorts m_lengths m_items m_moved (upd (upd (upd mnow ((76 + (2 * (mnow 75))).toNatClampNeg) x1) ((77 + (2 * ((upd mnow ((76 + (2 * (mnow 75))).toNatClampNeg) x1) 75))).toNatClampNeg) x2) 75 (((upd (upd mnow ((76 + (2 * (mnow 75))).toNatClampNeg) x1) ((77 + (2 * ((upd mnow ((76 + (2 * (mnow 75))).toNatClampNeg) x1) 75))).toNatClampNeg) x2) 75) + 1)) mmind mthen mkept mtext mtexted mrules msizes mruled mread msize mat mwell mwithin msum mbear mnames mletters mbegins mwords mdrifts mabove mbodies mtrace mran msorts mlengths mitems mmoved]) H := hP
              have hD : va_D A (fl [wdX8 kc m_o m_now m_mind m_then m_text m_rules m_sizes m_read m_names m_letters m_begins m_words m_drifts m_above m_bodies m_trace m_sorts m_lengths m_items m_moved (upd (upd (upd mnow ((76 + (2 * (mnow 75))).toNatClampNeg) x1) ((77 + (2 * ((upd mnow ((76 + (2 * (mnow 75))).toNatClampNeg) x1) 75))).toNatClampNeg) x2) 75 (((upd (upd mnow ((76 + (2 * (mnow 75))).toNatClampNeg) x1) ((77 + (2 * ((upd mnow ((76 + (2 * (mnow 75))).toNatClampNeg) x1) 75))).toNatClampNeg) x2) 75) + 1)) mmind mthen mkept mtext mtexted mrules msizes mruled mread msize mat mwell mwithin msum mbear mnames mletters mbegins mwords mdrifts mabove mbodies mtrace mran msorts mlengths mitems mmoved]) := hD
              refine lv_aload_n hx hb dX8_plan_124 rfl (lv_at hl 1 rfl) ?_
              refine va_get (D := (dC, dI)) (ci := 8) (v := .ref m_now) (C := RX8) (T := TX8) (N := 29) hx hb hts hinX8_plan_X8 hown hK hP 0 rfl rfl 0 (by decide) (hts _ (List.mem_of_getElem? (i := 1) rfl)) (fun _ h9 => h9) rfl dX8_plan_125 ?_
              refine lv_bipush (v := 75) hx hb dX8_plan_128 (by decide) ?_
              refine k_iald (D := (dC, dI)) hx hb hK hP 1 1 rfl rfl (k := 75) (by decide) (show ¬ ((75 : Int32) < 0 ∨ 113 ≤ (75 : Int32).toNatClampNeg) from by decide) dX8_plan_130 ?_
              cases hm
              exact k_iret hx hb hr hlocks hP hS dX8_plan_131
            · replace hm := it_t c71 hm
              refine lv_bipush (v := (-4)) hx hb dX8_plan_74 (by decide) ?_
              cases hm
              exact k_iret hx hb hr hlocks hP hS dX8_plan_76
          · replace hm := it_t c34 hm
            refine lv_iload_n hx hb dX8_plan_37 rfl (lv_at hl 1 rfl) ?_
            refine lv_iconst (v := 3) hx hb dX8_plan_38 (by decide) ?_
            refine lv_icmp_ne (tgt := 54) hx hb dX8_plan_39 (by decide) (fun c39 => ?_) (fun c39 => ?_)
            · replace hm := it_f c39 hm
              refine lv_iconst (v := 0) hx hb dX8_plan_54 (by decide) ?_
              refine lv_istore_n (lv' := [(3, .int 0), (0, .ref m_o), (1, .int x1), (2, .int x2)]) hx hb dX8_plan_55 rfl hl (by decide) rfl (fun ls hl => ?_)
              refine lv_iload_n hx hb dX8_plan_56 rfl (lv_at hl 0 rfl) ?_
              refine lv_if_ne (tgt := 62) hx hb dX8_plan_57 (by decide) (fun c57 => ?_) (fun c57 => ?_)
              · exact absurd c57 (by decide)
              refine lv_iconst (v := (-1)) hx hb dX8_plan_60 (by decide) ?_
              cases hm
              exact k_iret hx hb hr hlocks hP hS dX8_plan_61
            · replace hm := it_t c39 hm
              refine lv_aload_n hx hb dX8_plan_42 rfl (lv_at hl 0 rfl) ?_
              refine lv_iload_n hx hb dX8_plan_43 rfl (lv_at hl 2 rfl) ?_
              obtain ⟨r44, hc44, hm⟩ := bd1_e hm
              refine k_callGVi (dC := dC) (dI := dI) (kc := kc) (As := [.int x2]) (rest := []) (Gs' := [wdX8 kc m_o m_now m_mind m_then m_text m_rules m_sizes m_read m_names m_letters m_begins m_words m_drifts m_above m_bodies m_trace m_sorts m_lengths m_items m_moved mnow mmind mthen mkept mtext mtexted mrules msizes mruled mread msize mat mwell mwithin msum mbear mnames mletters mbegins mwords mdrifts mabove mbodies mtrace mran msorts mlengths mitems mmoved]) hx hb hml hown hts hK hP hD hS hA (ctX8_isOne (m_o := m_o) (m_now := m_now) (m_mind := m_mind) (m_then := m_then) (m_text := m_text) (m_rules := m_rules) (m_sizes := m_sizes) (m_read := m_read) (m_names := m_names) (m_letters := m_letters) (m_begins := m_begins) (m_words := m_words) (m_drifts := m_drifts) (m_above := m_above) (m_bodies := m_bodies) (m_trace := m_trace) (m_sorts := m_sorts) (m_lengths := m_lengths) (m_items := m_items) (m_moved := m_moved) (mnow := mnow) (mmind := mmind) (mthen := mthen) (mkept := mkept) (mtext := mtext) (mtexted := mtexted) (mrules := mrules) (msizes := msizes) (mruled := mruled) (mread := mread) (msize := msize) (mat := mat) (mwell := mwell) (mwithin := mwithin) (msum := msum) (mbear := mbear) (mnames := mnames) (mletters := mletters) (mbegins := mbegins) (mwords := mwords) (mdrifts := mdrifts) (mabove := mabove) (mbodies := mbodies) (mtrace := mtrace) (mran := mran) (msorts := msorts) (mlengths := mlengths) (mitems := mitems) (mmoved := mmoved) (x1 := x2) hc44) (cwV 1 hts gX8_plan_X8_isOne rfl rfl rfl (by decide +kernel) ⟨Nat.le_of_ble_eq_true rfl, Nat.le_of_ble_eq_true rfl⟩) [0] rfl (by decide) 8 rfl rfl rfl rfl hl rfl (Nat.le_of_ble_eq_true rfl) dX8_plan_44 ⟨Nat.zero_le _, Nat.zero_le _⟩ rfl rfl rfl (fun H locs hP hD hS => ?_)
              refine lv_if_eq (tgt := 54) hx hb dX8_plan_47 (by decide) (fun c47 => ?_) (fun c47 => ?_)
              · replace hm := it_t c47 hm
                refine lv_iconst (v := 0) hx hb dX8_plan_54 (by decide) ?_
                refine lv_istore_n (lv' := [(3, .int 0), (0, .ref m_o), (1, .int x1), (2, .int x2)]) hx hb dX8_plan_55 rfl hl (by decide) rfl (fun ls hl => ?_)
                refine lv_iload_n hx hb dX8_plan_56 rfl (lv_at hl 0 rfl) ?_
                refine lv_if_ne (tgt := 62) hx hb dX8_plan_57 (by decide) (fun c57 => ?_) (fun c57 => ?_)
                · exact absurd c57 (by decide)
                refine lv_iconst (v := (-1)) hx hb dX8_plan_60 (by decide) ?_
                cases hm
                exact k_iret hx hb hr hlocks hP hS dX8_plan_61
              · replace hm := it_f c47 hm
                refine lv_iconst (v := 1) hx hb dX8_plan_50 (by decide) ?_
                refine lv_goto (tgt := 55) hx hb dX8_plan_51 (by decide) ?_
                refine lv_istore_n (lv' := [(3, .int 1), (0, .ref m_o), (1, .int x1), (2, .int x2)]) hx hb dX8_plan_55 rfl hl (by decide) rfl (fun ls hl => ?_)
                refine lv_iload_n hx hb dX8_plan_56 rfl (lv_at hl 0 rfl) ?_
                refine lv_if_ne (tgt := 62) hx hb dX8_plan_57 (by decide) (fun c57 => ?_) (fun c57 => ?_)
                rotate_left
                · exact absurd c57 (by decide)
                refine lv_aload_n hx hb dX8_plan_62 rfl (lv_at hl 1 rfl) ?_
                refine va_get (D := (dC, dI)) (ci := 8) (v := .ref m_now) (C := RX8) (T := TX8) (N := 29) hx hb hts hinX8_plan_X8 hown hK hP 0 rfl rfl 0 (by decide) (hts _ (List.mem_of_getElem? (i := 1) rfl)) (fun _ h9 => h9) rfl dX8_plan_63 ?_
                refine lv_bipush (v := 75) hx hb dX8_plan_66 (by decide) ?_
                refine k_iald (D := (dC, dI)) hx hb hK hP 1 1 rfl rfl (k := 75) (by decide) (show ¬ ((75 : Int32) < 0 ∨ 113 ≤ (75 : Int32).toNatClampNeg) from by decide) dX8_plan_68 ?_
                refine lv_bipush (v := 10) hx hb dX8_plan_69 (by decide) ?_
                refine lv_icmp_ne (tgt := 77) hx hb dX8_plan_71 (by decide) (fun c71 => ?_) (fun c71 => ?_)
                · replace hm := it_f c71 hm
                  refine lv_aload_n hx hb dX8_plan_77 rfl (lv_at hl 1 rfl) ?_
                  refine va_get (D := (dC, dI)) (ci := 8) (v := .ref m_now) (C := RX8) (T := TX8) (N := 29) hx hb hts hinX8_plan_X8 hown hK hP 0 rfl rfl 0 (by decide) (hts _ (List.mem_of_getElem? (i := 1) rfl)) (fun _ h9 => h9) rfl dX8_plan_78 ?_
                  refine lv_bipush (v := 76) hx hb dX8_plan_81 (by decide) ?_
                  refine lv_iconst (v := 2) hx hb dX8_plan_83 (by decide) ?_
                  refine lv_aload_n hx hb dX8_plan_84 rfl (lv_at hl 1 rfl) ?_
                  refine va_get (D := (dC, dI)) (ci := 8) (v := .ref m_now) (C := RX8) (T := TX8) (N := 29) hx hb hts hinX8_plan_X8 hown hK hP 0 rfl rfl 0 (by decide) (hts _ (List.mem_of_getElem? (i := 1) rfl)) (fun _ h9 => h9) rfl dX8_plan_85 ?_
                  refine lv_bipush (v := 75) hx hb dX8_plan_88 (by decide) ?_
                  refine k_iald (D := (dC, dI)) hx hb hK hP 1 1 rfl rfl (k := 75) (by decide) (show ¬ ((75 : Int32) < 0 ∨ 113 ≤ (75 : Int32).toNatClampNeg) from by decide) dX8_plan_90 ?_
                  refine lv_imul hx hb dX8_plan_91 ?_
                  refine lv_iadd hx hb dX8_plan_92 ?_
                  refine lv_iload_n hx hb dX8_plan_93 rfl (lv_at hl 2 rfl) ?_
                  obtain ⟨hg94, hm⟩ := gd_e hm
                  refine k_iast (D := (dC, dI)) hx hb hK hP hD hS 1 1 rfl rfl (k := (76 + (2 * (mnow 75))).toNatClampNeg) rfl hg94 dX8_plan_94 (fun H locs hP hD hS => ?_)
                  have hP : va_P (dC, dI) vwCl (fl [wdX8 kc m_o m_now m_mind m_then m_text m_rules m_sizes m_read m_names m_letters m_begins m_words m_drifts m_above m_bodies m_trace m_sorts m_lengths m_items m_moved (upd mnow ((76 + (2 * (mnow 75))).toNatClampNeg) x1) mmind mthen mkept mtext mtexted mrules msizes mruled mread msize mat mwell mwithin msum mbear mnames mletters mbegins mwords mdrifts mabove mbodies mtrace mran msorts mlengths mitems mmoved]) H := hP
                  have hD : va_D A (fl [wdX8 kc m_o m_now m_mind m_then m_text m_rules m_sizes m_read m_names m_letters m_begins m_words m_drifts m_above m_bodies m_trace m_sorts m_lengths m_items m_moved (upd mnow ((76 + (2 * (mnow 75))).toNatClampNeg) x1) mmind mthen mkept mtext mtexted mrules msizes mruled mread msize mat mwell mwithin msum mbear mnames mletters mbegins mwords mdrifts mabove mbodies mtrace mran msorts mlengths mitems mmoved]) := hD
                  refine lv_aload_n hx hb dX8_plan_95 rfl (lv_at hl 1 rfl) ?_
                  refine va_get (D := (dC, dI)) (ci := 8) (v := .ref m_now) (C := RX8) (T := TX8) (N := 29) hx hb hts hinX8_plan_X8 hown hK hP 0 rfl rfl 0 (by decide) (hts _ (List.mem_of_getElem? (i := 1) rfl)) (fun _ h9 => h9) rfl dX8_plan_96 ?_
                  refine lv_bipush (v := 77) hx hb dX8_plan_99 (by decide) ?_
                  refine lv_iconst (v := 2) hx hb dX8_plan_101 (by decide) ?_
                  refine lv_aload_n hx hb dX8_plan_102 rfl (lv_at hl 1 rfl) ?_
                  refine va_get (D := (dC, dI)) (ci := 8) (v := .ref m_now) (C := RX8) (T := TX8) (N := 29) hx hb hts hinX8_plan_X8 hown hK hP 0 rfl rfl 0 (by decide) (hts _ (List.mem_of_getElem? (i := 1) rfl)) (fun _ h9 => h9) rfl dX8_plan_103 ?_
                  refine lv_bipush (v := 75) hx hb dX8_plan_106 (by decide) ?_
                  refine k_iald (D := (dC, dI)) hx hb hK hP 1 1 rfl rfl (k := 75) (by decide) (show ¬ ((75 : Int32) < 0 ∨ 113 ≤ (75 : Int32).toNatClampNeg) from by decide) dX8_plan_108 ?_
                  refine lv_imul hx hb dX8_plan_109 ?_
                  refine lv_iadd hx hb dX8_plan_110 ?_
                  refine lv_iload_n hx hb dX8_plan_111 rfl (lv_at hl 3 rfl) ?_
                  obtain ⟨hg112, hm⟩ := gd_e hm
                  refine k_iast (D := (dC, dI)) hx hb hK hP hD hS 1 1 rfl rfl (k := (77 + (2 * ((upd mnow ((76 + (2 * (mnow 75))).toNatClampNeg) x1) 75))).toNatClampNeg) rfl hg112 dX8_plan_112 (fun H locs hP hD hS => ?_)
                  have hP : va_P (dC, dI) vwCl (fl [wdX8 kc m_o m_now m_mind m_then m_text m_rules m_sizes m_read m_names m_letters m_begins m_words m_drifts m_above m_bodies m_trace m_sorts m_lengths m_items m_moved (upd (upd mnow ((76 + (2 * (mnow 75))).toNatClampNeg) x1) ((77 + (2 * ((upd mnow ((76 + (2 * (mnow 75))).toNatClampNeg) x1) 75))).toNatClampNeg) x2) mmind mthen mkept mtext mtexted mrules msizes mruled mread msize mat mwell mwithin msum mbear mnames mletters mbegins mwords mdrifts mabove mbodies mtrace mran msorts mlengths mitems mmoved]) H := hP
                  have hD : va_D A (fl [wdX8 kc m_o m_now m_mind m_then m_text m_rules m_sizes m_read m_names m_letters m_begins m_words m_drifts m_above m_bodies m_trace m_sorts m_lengths m_items m_moved (upd (upd mnow ((76 + (2 * (mnow 75))).toNatClampNeg) x1) ((77 + (2 * ((upd mnow ((76 + (2 * (mnow 75))).toNatClampNeg) x1) 75))).toNatClampNeg) x2) mmind mthen mkept mtext mtexted mrules msizes mruled mread msize mat mwell mwithin msum mbear mnames mletters mbegins mwords mdrifts mabove mbodies mtrace mran msorts mlengths mitems mmoved]) := hD
                  refine lv_aload_n hx hb dX8_plan_113 rfl (lv_at hl 1 rfl) ?_
                  refine va_get (D := (dC, dI)) (ci := 8) (v := .ref m_now) (C := RX8) (T := TX8) (N := 29) hx hb hts hinX8_plan_X8 hown hK hP 0 rfl rfl 0 (by decide) (hts _ (List.mem_of_getElem? (i := 1) rfl)) (fun _ h9 => h9) rfl dX8_plan_114 ?_
                  refine lv_bipush (v := 75) hx hb dX8_plan_117 (by decide) ?_
                  refine lv_dup2_11 hx hb dX8_plan_119 rfl rfl ?_
                  refine k_iald (D := (dC, dI)) hx hb hK hP 1 1 rfl rfl (k := 75) (by decide) (show ¬ ((75 : Int32) < 0 ∨ 113 ≤ (75 : Int32).toNatClampNeg) from by decide) dX8_plan_120 ?_
                  refine lv_iconst (v := 1) hx hb dX8_plan_121 (by decide) ?_
                  refine lv_iadd hx hb dX8_plan_122 ?_
                  refine k_iast (D := (dC, dI)) hx hb hK hP hD hS 1 1 rfl rfl (k := 75) (by decide) (show ¬ ((75 : Int32) < 0 ∨ 113 ≤ (75 : Int32).toNatClampNeg) from by decide) dX8_plan_123 (fun H locs hP hD hS => ?_)
                  have hP : va_P (dC, dI) vwCl (fl [wdX8 kc m_o m_now m_mind m_then m_text m_rules m_sizes m_read m_names m_letters m_begins m_words m_drifts m_above m_bodies m_trace m_sorts m_lengths m_items m_moved (upd (upd (upd mnow ((76 + (2 * (mnow 75))).toNatClampNeg) x1) ((77 + (2 * ((upd mnow ((76 + (2 * (mnow 75))).toNatClampNeg) x1) 75))).toNatClampNeg) x2) 75 (((upd (upd mnow ((76 + (2 * (mnow 75))).toNatClampNeg) x1) ((77 + (2 * ((upd mnow ((76 + (2 * (mnow 75))).toNatClampNeg) x1) 75))).toNatClampNeg) x2) 75) + 1)) mmind mthen mkept mtext mtexted mrules msizes mruled mread msize mat mwell mwithin msum mbear mnames mletters mbegins mwords mdrifts mabove mbodies mtrace mran msorts mlengths mitems mmoved]) H := hP
                  have hD : va_D A (fl [wdX8 kc m_o m_now m_mind m_then m_text m_rules m_sizes m_read m_names m_letters m_begins m_words m_drifts m_above m_bodies m_trace m_sorts m_lengths m_items m_moved (upd (upd (upd mnow ((76 + (2 * (mnow 75))).toNatClampNeg) x1) ((77 + (2 * ((upd mnow ((76 + (2 * (mnow 75))).toNatClampNeg) x1) 75))).toNatClampNeg) x2) 75 (((upd (upd mnow ((76 + (2 * (mnow 75))).toNatClampNeg) x1) ((77 + (2 * ((upd mnow ((76 + (2 * (mnow 75))).toNatClampNeg) x1) 75))).toNatClampNeg) x2) 75) + 1)) mmind mthen mkept mtext mtexted mrules msizes mruled mread msize mat mwell mwithin msum mbear mnames mletters mbegins mwords mdrifts mabove mbodies mtrace mran msorts mlengths mitems mmoved]) := hD
                  refine lv_aload_n hx hb dX8_plan_124 rfl (lv_at hl 1 rfl) ?_
                  refine va_get (D := (dC, dI)) (ci := 8) (v := .ref m_now) (C := RX8) (T := TX8) (N := 29) hx hb hts hinX8_plan_X8 hown hK hP 0 rfl rfl 0 (by decide) (hts _ (List.mem_of_getElem? (i := 1) rfl)) (fun _ h9 => h9) rfl dX8_plan_125 ?_
                  refine lv_bipush (v := 75) hx hb dX8_plan_128 (by decide) ?_
                  refine k_iald (D := (dC, dI)) hx hb hK hP 1 1 rfl rfl (k := 75) (by decide) (show ¬ ((75 : Int32) < 0 ∨ 113 ≤ (75 : Int32).toNatClampNeg) from by decide) dX8_plan_130 ?_
                  cases hm
                  exact k_iret hx hb hr hlocks hP hS dX8_plan_131
                · replace hm := it_t c71 hm
                  refine lv_bipush (v := (-4)) hx hb dX8_plan_74 (by decide) ?_
                  cases hm
                  exact k_iret hx hb hr hlocks hP hS dX8_plan_76
  · replace hm := it_t c2 hm
    refine lv_aload_n hx hb dX8_plan_5 rfl (lv_at hl 0 rfl) ?_
    refine va_get (D := (dC, dI)) (ci := 8) (v := .ref m_now) (C := RX8) (T := TX8) (N := 29) hx hb hts hinX8_plan_X8 hown hK hP 0 rfl rfl 0 (by decide) (hts _ (List.mem_of_getElem? (i := 1) rfl)) (fun _ h9 => h9) rfl dX8_plan_6 ?_
    refine lv_bipush (v := 75) hx hb dX8_plan_9 (by decide) ?_
    refine lv_iconst (v := 0) hx hb dX8_plan_11 (by decide) ?_
    refine k_iast (D := (dC, dI)) hx hb hK hP hD hS 1 1 rfl rfl (k := 75) (by decide) (show ¬ ((75 : Int32) < 0 ∨ 113 ≤ (75 : Int32).toNatClampNeg) from by decide) dX8_plan_12 (fun H locs hP hD hS => ?_)
    have hP : va_P (dC, dI) vwCl (fl [wdX8 kc m_o m_now m_mind m_then m_text m_rules m_sizes m_read m_names m_letters m_begins m_words m_drifts m_above m_bodies m_trace m_sorts m_lengths m_items m_moved (upd mnow 75 0) mmind mthen mkept mtext mtexted mrules msizes mruled mread msize mat mwell mwithin msum mbear mnames mletters mbegins mwords mdrifts mabove mbodies mtrace mran msorts mlengths mitems mmoved]) H := hP
    have hD : va_D A (fl [wdX8 kc m_o m_now m_mind m_then m_text m_rules m_sizes m_read m_names m_letters m_begins m_words m_drifts m_above m_bodies m_trace m_sorts m_lengths m_items m_moved (upd mnow 75 0) mmind mthen mkept mtext mtexted mrules msizes mruled mread msize mat mwell mwithin msum mbear mnames mletters mbegins mwords mdrifts mabove mbodies mtrace mran msorts mlengths mitems mmoved]) := hD
    refine lv_iconst (v := 0) hx hb dX8_plan_13 (by decide) ?_
    cases hm
    exact k_iret hx hb hr hlocks hP hS dX8_plan_14
