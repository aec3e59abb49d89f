abbrev wdX7 (kc : Nat → ClassId) (a_o a_x_now a_x_imageHall a_x_ahead a_x_notes a_x_imageNotes a_x_libraries a_x_reader a_x_acts a_x_tapes : Nat) (c_hasImage : Int32) (c_libraryCount : Int32) : va_W := [(a_o, .inr (7, [.ref a_x_now, .ref a_x_imageHall, .ref a_x_ahead, .ref a_x_notes, .ref a_x_imageNotes, .int c_hasImage, .ref a_x_libraries, .int c_libraryCount, .ref a_x_reader, .ref a_x_acts, .ref a_x_tapes]))]
abbrev wdQL (kc : Nat → ClassId) (a_o : Nat) (arr : Nat → Option Nat) : va_W := [(a_o, .inl (kc 4, 6, .inr (.inr (.inr (.inr arr)))))]
abbrev wdQT (kc : Nat → ClassId) (a_o : Nat) (arr : Nat → Option Nat) : va_W := [(a_o, .inl (kc 5, 6, .inr (.inr (.inr (.inr arr)))))]
def fX7_isWithin (x1 : Int32) (x2 : Int32) : Option Int32 := if x1 < 0 then (some (0 : Int32)) else (if x2 < x1 then (some (0 : Int32)) else (some (1 : Int32)))
abbrev rmX7_isWithin : Room := { frames := 0, cells := 0, slots := 0, locals := 12 }
set_option maxHeartbeats 4000000 in
set_option maxRecDepth 100000 in
theorem ctX7_isWithin {l : Launch} {dC : Nat → ClassId} {dI : Nat → Nat → Nat} {kc : Nat → ClassId} {x1 : Int32} {x2 : Int32} {r : Int32} (hm : fX7_isWithin x1 x2 = some r) : ∀ sz : Nat, Met l yX7_isWithin wsX7_isWithin rmX7_isWithin (kPc dC dI kc [.int x1, .int x2] (fl []) sz) (kQi dC dI r (fl []) (va_A (fl []) sz)) 0 0 (va_A (fl []) sz) := by
  intro sz
  refine kMet (cc := cX7_isWithin) (maxL := 2) (ret := (some .boolean)) (Qf := fun A => kQi dC dI r (fl []) A) (by decide) rfl (Nat.le_of_ble_eq_true rfl) ?_
  intro p e s m below meth c A ls hx hb hr hml hts hown hlocks hname hsz hA hP hK hD hl
  have hS : va_S A s.heap s.heap [] := va_S.rf
  have hl : lv_has ls 2 [(0, .int x1), (1, .int x2)] := hl
  unfold fX7_isWithin at hm
  refine lv_iload_n hx hb dX7_isWithin_0 rfl (lv_at hl 0 rfl) ?_
  refine lv_if_lt (tgt := 13) hx hb dX7_isWithin_1 (by decide) (fun c1 => ?_) (fun c1 => ?_)
  · replace hm := it_t c1 hm
    refine lv_iconst (v := 0) hx hb dX7_isWithin_13 (by decide) ?_
    cases hm
    exact k_zret hx hb hr hlocks (by decide) hP hS dX7_isWithin_14
  · replace hm := it_f c1 hm
    refine lv_iload_n hx hb dX7_isWithin_4 rfl (lv_at hl 0 rfl) ?_
    refine lv_iload_n hx hb dX7_isWithin_5 rfl (lv_at hl 1 rfl) ?_
    refine lv_icmp_gt (tgt := 13) hx hb dX7_isWithin_6 (by decide) (fun c6 => ?_) (fun c6 => ?_)
    · replace hm := it_t c6 hm
      refine lv_iconst (v := 0) hx hb dX7_isWithin_13 (by decide) ?_
      cases hm
      exact k_zret hx hb hr hlocks (by decide) hP hS dX7_isWithin_14
    · replace hm := it_f c6 hm
      refine lv_iconst (v := 1) hx hb dX7_isWithin_9 (by decide) ?_
      refine lv_goto (tgt := 14) hx hb dX7_isWithin_10 (by decide) ?_
      cases hm
      exact k_zret hx hb hr hlocks (by decide) hP hS dX7_isWithin_14
def fX7_isTape (x1 : Int32) : Option Int32 := bd1 (fX7_isWithin x1 5) (fun r2 => gd (r2 = 0 ∨ r2 = 1) (some r2))
abbrev rmX7_isTape : Room := { frames := 1, cells := 0, slots := 0, locals := 33 }
set_option maxHeartbeats 4000000 in
set_option maxRecDepth 100000 in
theorem ctX7_isTape {l : Launch} {dC : Nat → ClassId} {dI : Nat → Nat → Nat} {kc : Nat → ClassId} {x1 : Int32} {r : Int32} (hm : fX7_isTape x1 = some r) : ∀ sz : Nat, Met l yX7_isTape wsX7_isTape rmX7_isTape (kPc dC dI kc [.int x1] (fl []) sz) (kQi dC dI r (fl []) (va_A (fl []) sz)) 0 0 (va_A (fl []) sz) := by
  intro sz
  refine kMet (cc := cX7_isTape) (maxL := 1) (ret := (some .boolean)) (Qf := fun A => kQi dC dI r (fl []) A) (by decide) rfl (Nat.le_of_ble_eq_true rfl) ?_
  intro p e s m below meth c A ls hx hb hr hml hts hown hlocks hname hsz hA hP hK hD hl
  have hS : va_S A s.heap s.heap [] := va_S.rf
  have hl : lv_has ls 1 [(0, .int x1)] := hl
  unfold fX7_isTape at hm
  refine lv_iload_n hx hb dX7_isTape_0 rfl (lv_at hl 0 rfl) ?_
  refine lv_iconst (v := 5) hx hb dX7_isTape_1 (by decide) ?_
  obtain ⟨r2, hc2, hm⟩ := bd1_e hm
  refine k_callGSi (dC := dC) (dI := dI) (kc := kc) (As := [.int x1, .int 5]) (rest := []) (Gs' := []) hx hb hml hown hts hK hP hD hS hA (ctX7_isWithin (x1 := x1) (x2 := 5) hc2) (va_cwS 2 hts gX7_isTape_X7_isWithin rfl rfl rfl (by decide +kernel) ⟨Nat.le_of_ble_eq_true rfl, Nat.le_of_ble_eq_true rfl⟩) [] rfl (by decide) rfl hl rfl (Nat.le_of_ble_eq_true rfl) dX7_isTape_2 ⟨Nat.zero_le _, Nat.zero_le _⟩ rfl rfl rfl (fun H locs hP hD hS => ?_)
  obtain ⟨hz5, hm⟩ := gd_e hm
  cases hm
  exact k_zret hx hb hr hlocks hz5 hP hS dX7_isTape_5
def fX7_asItem (x1 : Int32) (x2 : Int64) : Option Int64 := if x1 = 0 then (some x2.toInt32.toInt8.toInt32.toInt64) else (if x1 = 1 then (some x2.toInt32.toInt16.toInt32.toInt64) else (if x1 = 2 then (some x2.toInt32.toInt64) else (if x1 = 4 then (if (lg_cmp x2 0) = 0 then (some (0 : Int64)) else (some (1 : Int64))) else (some x2))))
abbrev rmX7_asItem : Room := { frames := 0, cells := 0, slots := 0, locals := 12 }
set_option maxHeartbeats 4000000 in
set_option maxRecDepth 100000 in
theorem ctX7_asItem {l : Launch} {dC : Nat → ClassId} {dI : Nat → Nat → Nat} {kc : Nat → ClassId} {x1 : Int32} {x2 : Int64} {r : Int64} (hm : fX7_asItem x1 x2 = some r) : ∀ sz : Nat, Met l yX7_asItem wsX7_asItem rmX7_asItem (kPc dC dI kc [.int x1, .long x2] (fl []) sz) (kQl dC dI r (fl []) (va_A (fl []) sz)) 0 0 (va_A (fl []) sz) := by
  intro sz
  refine kMet (cc := cX7_asItem) (maxL := 3) (ret := (some .long)) (Qf := fun A => kQl dC dI r (fl []) A) (by decide) rfl (Nat.le_of_ble_eq_true rfl) ?_
  intro p e s m below meth c A ls hx hb hr hml hts hown hlocks hname hsz hA hP hK hD hl
  have hS : va_S A s.heap s.heap [] := va_S.rf
  have hl : lv_has ls 3 [(0, .int x1), (1, .long x2)] := hl
  unfold fX7_asItem at hm
  refine lv_iload_n hx hb dX7_asItem_0 rfl (lv_at hl 0 rfl) ?_
  by_cases cs1_0 : x1 = 0
  · replace hm := it_t cs1_0 hm
    refine lv_tableIn (off := 35) (tgt := 36) hx hb dX7_asItem_1 (by rw [cs1_0]; decide) (by rw [cs1_0]; decide) (by rw [cs1_0]; rfl) (by decide) ?_
    refine lv_lload_n hx hb dX7_asItem_36 rfl (lv_at hl 1 rfl) ?_
    refine lv_l2i hx hb dX7_asItem_37 rfl ?_
    refine lv_i2b hx hb dX7_asItem_38 rfl ?_
    refine lv_i2l hx hb dX7_asItem_39 rfl ?_
    cases hm
    exact k_lret hx hb hr hlocks hP hS dX7_asItem_40
  replace hm := it_f cs1_0 hm
  by_cases cs1_1 : x1 = 1
  · replace hm := it_t cs1_1 hm
    refine lv_tableIn (off := 40) (tgt := 41) hx hb dX7_asItem_1 (by rw [cs1_1]; decide) (by rw [cs1_1]; decide) (by rw [cs1_1]; rfl) (by decide) ?_
    refine lv_lload_n hx hb dX7_asItem_41 rfl (lv_at hl 1 rfl) ?_
    refine lv_l2i hx hb dX7_asItem_42 rfl ?_
    refine lv_i2s hx hb dX7_asItem_43 rfl ?_
    refine lv_i2l hx hb dX7_asItem_44 rfl ?_
    cases hm
    exact k_lret hx hb hr hlocks hP hS dX7_asItem_45
  replace hm := it_f cs1_1 hm
  by_cases cs1_2 : x1 = 2
  · replace hm := it_t cs1_2 hm
    refine lv_tableIn (off := 45) (tgt := 46) hx hb dX7_asItem_1 (by rw [cs1_2]; decide) (by rw [cs1_2]; decide) (by rw [cs1_2]; rfl) (by decide) ?_
    refine lv_lload_n hx hb dX7_asItem_46 rfl (lv_at hl 1 rfl) ?_
    refine lv_l2i hx hb dX7_asItem_47 rfl ?_
    refine lv_i2l hx hb dX7_asItem_48 rfl ?_
    cases hm
    exact k_lret hx hb hr hlocks hP hS dX7_asItem_49
  replace hm := it_f cs1_2 hm
  by_cases cs1_3 : x1 = 4
  · replace hm := it_t cs1_3 hm
    refine lv_tableIn (off := 49) (tgt := 50) hx hb dX7_asItem_1 (by rw [cs1_3]; decide) (by rw [cs1_3]; decide) (by rw [cs1_3]; rfl) (by decide) ?_
    refine lv_lload_n hx hb dX7_asItem_50 rfl (lv_at hl 1 rfl) ?_
    refine lv_lconst (v := 0) hx hb dX7_asItem_51 (by decide) ?_
    refine W.lcmp hx hb dX7_asItem_52 ?_
    refine lv_if_eq (tgt := 60) hx hb dX7_asItem_53 (by decide) (fun c53 => ?_) (fun c53 => ?_)
    · replace hm := it_t c53 hm
      refine lv_lconst (v := 0) hx hb dX7_asItem_60 (by decide) ?_
      cases hm
      exact k_lret hx hb hr hlocks hP hS dX7_asItem_61
    · replace hm := it_f c53 hm
      refine lv_lconst (v := 1) hx hb dX7_asItem_56 (by decide) ?_
      refine lv_goto (tgt := 61) hx hb dX7_asItem_57 (by decide) ?_
      cases hm
      exact k_lret hx hb hr hlocks hP hS dX7_asItem_61
  replace hm := it_f cs1_3 hm
  by_cases cd1_3 : x1 = 3
  · refine lv_tableIn (off := 61) (tgt := 62) hx hb dX7_asItem_1 (by rw [cd1_3]; decide) (by rw [cd1_3]; decide) (by rw [cd1_3]; rfl) (by decide) ?_
    refine lv_lload_n hx hb dX7_asItem_62 rfl (lv_at hl 1 rfl) ?_
    cases hm
    exact k_lret hx hb hr hlocks hP hS dX7_asItem_63
  have nt1_0 := lv_neT (k := 0) (a := 0) cs1_0 (by decide)
  have nt1_1 := lv_neT (k := 1) (a := 1) cs1_1 (by decide)
  have nt1_2 := lv_neT (k := 2) (a := 2) cs1_2 (by decide)
  have nt1_3 := lv_neT (k := 4) (a := 4) cs1_3 (by decide)
  have nt1_4 := lv_neT (k := 3) (a := 3) cd1_3 (by decide)
  refine lv_tableOut (tgt := 62) hx hb dX7_asItem_1 (by omega) (by decide) ?_
  refine lv_lload_n hx hb dX7_asItem_62 rfl (lv_at hl 1 rfl) ?_
  cases hm
  exact k_lret hx hb hr hlocks hP hS dX7_asItem_63
def LX7_greatestShared_7 (x1 : Int32) : Nat → Int32 → Int32 → Int32 → Option Int32
  | 0, _, _, _ => none
  | n7 + 1, l2_7, l3_7, l4_7 => if x1 < l4_7 then (some l2_7) else (if l3_7 ≤ 0 then (some l2_7) else (gd (¬ l3_7 = 0) (LX7_greatestShared_7 x1 n7 l3_7 (l2_7 - l2_7 / l3_7 * l3_7) (l4_7 + 1))))
def fX7_greatestShared (fu : Nat) (x1 : Int32) (x2 : Int32) : Option Int32 := LX7_greatestShared_7 x1 fu x2 x1 0
abbrev rmX7_greatestShared : Room := { frames := 0, cells := 0, slots := 0, locals := 12 }
set_option maxHeartbeats 4000000 in
set_option maxRecDepth 100000 in
theorem ctX7_greatestShared {l : Launch} {dC : Nat → ClassId} {dI : Nat → Nat → Nat} {kc : Nat → ClassId} {x1 : Int32} {x2 : Int32} {fu : Nat} {r : Int32} (hm : fX7_greatestShared fu x1 x2 = some r) : ∀ sz : Nat, Met l yX7_greatestShared wsX7_greatestShared rmX7_greatestShared (kPc dC dI kc [.int x1, .int x2] (fl []) sz) (kQi dC dI r (fl []) (va_A (fl []) sz)) 0 0 (va_A (fl []) sz) := by
  intro sz
  refine kMet (cc := cX7_greatestShared) (maxL := 6) (ret := (some .int)) (Qf := fun A => kQi dC dI r (fl []) A) (by decide) rfl (Nat.le_of_ble_eq_true rfl) ?_
  intro p e s m below meth c A ls hx hb hr hml hts hown hlocks hname hsz hA hP hK hD hl
  have hS : va_S A s.heap s.heap [] := va_S.rf
  have hl : lv_has ls 6 [(0, .int x1), (1, .int x2)] := hl
  unfold fX7_greatestShared at hm
  refine lv_iload_n hx hb dX7_greatestShared_0 rfl (lv_at hl 1 rfl) ?_
  refine lv_istore_n (lv' := [(2, .int x2), (0, .int x1), (1, .int x2)]) hx hb dX7_greatestShared_1 rfl hl (by decide) rfl (fun ls hl => ?_)
  refine lv_iload_n hx hb dX7_greatestShared_2 rfl (lv_at hl 1 rfl) ?_
  refine lv_istore_n (lv' := [(3, .int x1), (2, .int x2), (0, .int x1), (1, .int x2)]) hx hb dX7_greatestShared_3 rfl hl (by decide) rfl (fun ls hl => ?_)
  refine lv_iconst (v := 0) hx hb dX7_greatestShared_4 (by decide) ?_
  refine lv_istore (lv' := [(4, .int 0), (3, .int x1), (2, .int x2), (0, .int x1), (1, .int x2)]) hx hb dX7_greatestShared_5 hl (by decide) rfl (fun ls hl => ?_)
  have hL7 : ∀ (fn : Nat) (l2_7 : Int32) (l3_7 : Int32) (l4_7 : Int32), LX7_greatestShared_7 x1 fn l2_7 l3_7 l4_7 = some r → ∀ (H : Heap) (locs : List Loc), va_P (dC, dI) vwCl (fl []) H → va_D A (fl []) → va_S A s.heap H locs → ∀ ls : Array Slot, lv_has ls 6 [(0, .int x1), (2, .int l2_7), (3, .int l3_7), (4, .int l4_7)] → W p l e (headSpec wsX7_greatestShared rmX7_greatestShared).room s m [.int x1, .int x2].toArray below meth c H locs 0 0 (MQ below (kQi dC dI r (fl []) A) [.int x1, .int x2].toArray s 0 0 A) (F0 m 7 ls []) := by
    clear hm hP hD hS hl
    intro n7
    induction n7 with
    | zero => intro l2_7 l3_7 l4_7 hm; rw [LX7_greatestShared_7] at hm; cases hm
    | succ n7 ih7 =>
      intro l2_7 l3_7 l4_7 hm H locs hP hD hS ls hl
      rw [LX7_greatestShared_7] at hm
      refine lv_iload hx hb dX7_greatestShared_7 (lv_at hl 3 rfl) ?_
      refine lv_iload_n hx hb dX7_greatestShared_9 rfl (lv_at hl 0 rfl) ?_
      refine lv_icmp_gt (tgt := 33) hx hb dX7_greatestShared_10 (by decide) (fun c10 => ?_) (fun c10 => ?_)
      · replace hm := it_t c10 hm
        refine lv_iload_n hx hb dX7_greatestShared_33 rfl (lv_at hl 1 rfl) ?_
        cases hm
        exact k_iret hx hb hr hlocks hP hS dX7_greatestShared_34
      · replace hm := it_f c10 hm
        refine lv_iload_n hx hb dX7_greatestShared_13 rfl (lv_at hl 2 rfl) ?_
        refine lv_if_le (tgt := 33) hx hb dX7_greatestShared_14 (by decide) (fun c14 => ?_) (fun c14 => ?_)
        · replace hm := it_t c14 hm
          refine lv_iload_n hx hb dX7_greatestShared_33 rfl (lv_at hl 1 rfl) ?_
          cases hm
          exact k_iret hx hb hr hlocks hP hS dX7_greatestShared_34
        · replace hm := it_f c14 hm
          refine lv_iload_n hx hb dX7_greatestShared_17 rfl (lv_at hl 1 rfl) ?_
          refine lv_iload_n hx hb dX7_greatestShared_18 rfl (lv_at hl 2 rfl) ?_
          obtain ⟨hg19, hm⟩ := gd_e hm
          refine lv_irem hx hb dX7_greatestShared_19 hg19 ?_
          refine lv_istore (lv' := [(5, .int (l2_7 - l2_7 / l3_7 * l3_7)), (0, .int x1), (2, .int l2_7), (3, .int l3_7), (4, .int l4_7)]) hx hb dX7_greatestShared_20 hl (by decide) rfl (fun ls hl => ?_)
          refine lv_iload_n hx hb dX7_greatestShared_22 rfl (lv_at hl 3 rfl) ?_
          refine lv_istore_n (lv' := [(2, .int l3_7), (5, .int (l2_7 - l2_7 / l3_7 * l3_7)), (0, .int x1), (3, .int l3_7), (4, .int l4_7)]) hx hb dX7_greatestShared_23 rfl hl (by decide) rfl (fun ls hl => ?_)
          refine lv_iload hx hb dX7_greatestShared_24 (lv_at hl 1 rfl) ?_
          refine lv_istore_n (lv' := [(3, .int (l2_7 - l2_7 / l3_7 * l3_7)), (2, .int l3_7), (5, .int (l2_7 - l2_7 / l3_7 * l3_7)), (0, .int x1), (4, .int l4_7)]) hx hb dX7_greatestShared_26 rfl hl (by decide) rfl (fun ls hl => ?_)
          refine lv_iinc (v := l4_7 + 1) (lv' := [(4, .int (l4_7 + 1)), (3, .int (l2_7 - l2_7 / l3_7 * l3_7)), (2, .int l3_7), (5, .int (l2_7 - l2_7 / l3_7 * l3_7)), (0, .int x1)]) hx hb dX7_greatestShared_27 hl (k := 4) rfl rfl (by decide) rfl (fun ls hl => ?_)
          refine lv_goto (tgt := 7) hx hb dX7_greatestShared_30 (by decide) ?_
          exact ih7 l3_7 (l2_7 - l2_7 / l3_7 * l3_7) (l4_7 + 1) hm _ _ hP hD hS _ (lv_sub hl [4, 2, 1, 0] rfl)
  exact hL7 _ _ _ _ hm _ _ hP hD hS _ (lv_sub hl [3, 2, 1, 0] rfl)
def fX7_partOfLowest (fu : Nat) (x1 : Int32) (x2 : Int32) (x3 : Int32) : Option Int64 := bd1 (fX7_greatestShared fu x1 x2) (fun r2 => if 1 ≤ r2 then (if x3 = 0 then (gd (¬ r2 = 0) (some ((x1 / r2).toInt64))) else (gd (¬ r2 = 0) (some ((x2 / r2).toInt64)))) else (some ((-9223372036854775808) : Int64)))
abbrev rmX7_partOfLowest : Room := { frames := 1, cells := 0, slots := 0, locals := 37 }
set_option maxHeartbeats 4000000 in
set_option maxRecDepth 100000 in
theorem ctX7_partOfLowest {l : Launch} {dC : Nat → ClassId} {dI : Nat → Nat → Nat} {kc : Nat → ClassId} {x1 : Int32} {x2 : Int32} {x3 : Int32} {fu : Nat} {r : Int64} (hm : fX7_partOfLowest fu x1 x2 x3 = some r) : ∀ sz : Nat, Met l yX7_partOfLowest wsX7_partOfLowest rmX7_partOfLowest (kPc dC dI kc [.int x1, .int x2, .int x3] (fl []) sz) (kQl dC dI r (fl []) (va_A (fl []) sz)) 0 0 (va_A (fl []) sz) := by
  intro sz
  refine kMet (cc := cX7_partOfLowest) (maxL := 4) (ret := (some .long)) (Qf := fun A => kQl dC dI r (fl []) A) (by decide) rfl (Nat.le_of_ble_eq_true rfl) ?_
  intro p e s m below meth c A ls hx hb hr hml hts hown hlocks hname hsz hA hP hK hD hl
  have hS : va_S A s.heap s.heap [] := va_S.rf
  have hl : lv_has ls 4 [(0, .int x1), (1, .int x2), (2, .int x3)] := hl
  unfold fX7_partOfLowest at hm
  refine lv_iload_n hx hb dX7_partOfLowest_0 rfl (lv_at hl 0 rfl) ?_
  refine lv_iload_n hx hb dX7_partOfLowest_1 rfl (lv_at hl 1 rfl) ?_
  obtain ⟨r2, hc2, hm⟩ := bd1_e hm
  refine k_callGSi (dC := dC) (dI := dI) (kc := kc) (As := [.int x1, .int x2]) (rest := []) (Gs' := []) hx hb hml hown hts hK hP hD hS hA (ctX7_greatestShared (x1 := x1) (x2 := x2) hc2) (va_cwS 2 hts gX7_partOfLowest_X7_greatestShared rfl rfl rfl (by decide +kernel) ⟨Nat.le_of_ble_eq_true rfl, Nat.le_of_ble_eq_true rfl⟩) [] rfl (by decide) rfl hl rfl (Nat.le_of_ble_eq_true rfl) dX7_partOfLowest_2 ⟨Nat.zero_le _, Nat.zero_le _⟩ rfl rfl rfl (fun H locs hP hD hS => ?_)
  refine lv_istore_n (lv' := [(3, .int r2), (0, .int x1), (1, .int x2), (2, .int x3)]) hx hb dX7_partOfLowest_5 rfl hl (by decide) rfl (fun ls hl => ?_)
  refine lv_iload_n hx hb dX7_partOfLowest_6 rfl (lv_at hl 0 rfl) ?_
  refine lv_iconst (v := 1) hx hb dX7_partOfLowest_7 (by decide) ?_
  refine lv_icmp_ge (tgt := 15) hx hb dX7_partOfLowest_8 (by decide) (fun c8 => ?_) (fun c8 => ?_)
  · replace hm := it_t c8 hm
    refine lv_iload_n hx hb dX7_partOfLowest_15 rfl (lv_at hl 3 rfl) ?_
    refine lv_if_ne (tgt := 26) hx hb dX7_partOfLowest_16 (by decide) (fun c16 => ?_) (fun c16 => ?_)
    · replace hm := it_f c16 hm
      refine lv_iload_n hx hb dX7_partOfLowest_26 rfl (lv_at hl 2 rfl) ?_
      refine lv_iload_n hx hb dX7_partOfLowest_27 rfl (lv_at hl 0 rfl) ?_
      obtain ⟨hg28, hm⟩ := gd_e hm
      refine lv_idiv hx hb dX7_partOfLowest_28 hg28 ?_
      refine lv_i2l hx hb dX7_partOfLowest_29 rfl ?_
      cases hm
      exact k_lret hx hb hr hlocks hP hS dX7_partOfLowest_30
    · replace hm := it_t c16 hm
      refine lv_iload_n hx hb dX7_partOfLowest_19 rfl (lv_at hl 1 rfl) ?_
      refine lv_iload_n hx hb dX7_partOfLowest_20 rfl (lv_at hl 0 rfl) ?_
      obtain ⟨hg21, hm⟩ := gd_e hm
      refine lv_idiv hx hb dX7_partOfLowest_21 hg21 ?_
      refine lv_i2l hx hb dX7_partOfLowest_22 rfl ?_
      refine lv_goto (tgt := 30) hx hb dX7_partOfLowest_23 (by decide) ?_
      cases hm
      exact k_lret hx hb hr hlocks hP hS dX7_partOfLowest_30
  · replace hm := it_f c8 hm
    refine lv_ldc2 hx hb hown (hts _ (List.mem_of_getElem? (i := 1) rfl)) dX7_partOfLowest_11 ?_
    cases hm
    exact k_lret hx hb hr hlocks hP hS dX7_partOfLowest_14
def LX7_isKindOrUnder_4 (x2 : Int32) : Nat → Int32 → Int32 → Option Int32
  | 0, _, _ => none
  | n4 + 1, l2_4, l3_4 => if 6 < l3_4 then (some (0 : Int32)) else (bd1 (fX7_isWithin l2_4 6) (fun r13 => if r13 = 0 then (some (0 : Int32)) else (if l2_4 = x2 then (some (1 : Int32)) else (gd (inb l2_4 7) (LX7_isKindOrUnder_4 x2 n4 (tabK (l2_4.toNatClampNeg)) (l3_4 + 1))))))
def fX7_isKindOrUnder (fu : Nat) (x1 : Int32) (x2 : Int32) : Option Int32 := LX7_isKindOrUnder_4 x2 fu x1 0
abbrev rmX7_isKindOrUnder : Room := { frames := 1, cells := 0, slots := 0, locals := 33 }
set_option maxHeartbeats 4000000 in
set_option maxRecDepth 100000 in
theorem ctX7_isKindOrUnder {l : Launch} {dC : Nat → ClassId} {dI : Nat → Nat → Nat} {kc : Nat → ClassId} {tB tK : Nat} {x1 : Int32} {x2 : Int32} {fu : Nat} {r : Int32} (hm : fX7_isKindOrUnder fu x1 x2 = some r) : ∀ sz : Nat, Met l yX7_isKindOrUnder wsX7_isKindOrUnder rmX7_isKindOrUnder (kPcX dC dI kc (xB tB tK) [.int x1, .int x2] (fl []) sz) (kQi dC dI r (fl []) (va_A (fl []) sz)) 0 0 (va_A (fl []) sz) := by
  intro sz
  refine kMetX (cc := cX7_isKindOrUnder) (maxL := 4) (ret := (some .boolean)) (Qf := fun A => kQi dC dI r (fl []) A) (by decide) rfl (Nat.le_of_ble_eq_true rfl) ?_
  intro p e s m below meth c A ls hx hb hr hml hts hown hlocks hname hsz hA hP hK hD hX hl
  have hS : va_S A s.heap s.heap [] := va_S.rf
  have hl : lv_has ls 4 [(0, .int x1), (1, .int x2)] := hl
  unfold fX7_isKindOrUnder at hm
  refine lv_iload_n hx hb dX7_isKindOrUnder_0 rfl (lv_at hl 0 rfl) ?_
  refine lv_istore_n (lv' := [(2, .int x1), (0, .int x1), (1, .int x2)]) hx hb dX7_isKindOrUnder_1 rfl hl (by decide) rfl (fun ls hl => ?_)
  refine lv_iconst (v := 0) hx hb dX7_isKindOrUnder_2 (by decide) ?_
  refine lv_istore_n (lv' := [(3, .int 0), (2, .int x1), (0, .int x1), (1, .int x2)]) hx hb dX7_isKindOrUnder_3 rfl hl (by decide) rfl (fun ls hl => ?_)
  have hL4 : ∀ (fn : Nat) (l2_4 : Int32) (l3_4 : Int32), LX7_isKindOrUnder_4 x2 fn l2_4 l3_4 = some r → ∀ (H : Heap) (locs : List Loc), va_P (dC, dI) vwCl (fl []) H → va_D A (fl []) → va_S A s.heap H locs → ∀ ls : Array Slot, lv_has ls 4 [(1, .int x2), (2, .int l2_4), (3, .int l3_4)] → W p l e (headSpec wsX7_isKindOrUnder rmX7_isKindOrUnder).room s m [.int x1, .int x2].toArray below meth c H locs 0 0 (MQ below (kQi dC dI r (fl []) A) [.int x1, .int x2].toArray s 0 0 A) (F0 m 4 ls []) := by
    clear hm hP hD hS hl
    intro n4
    induction n4 with
    | zero => intro l2_4 l3_4 hm; rw [LX7_isKindOrUnder_4] at hm; cases hm
    | succ n4 ih4 =>
      intro l2_4 l3_4 hm H locs hP hD hS ls hl
      rw [LX7_isKindOrUnder_4] at hm
      refine lv_iload_n hx hb dX7_isKindOrUnder_4 rfl (lv_at hl 2 rfl) ?_
      refine lv_bipush (v := 6) hx hb dX7_isKindOrUnder_5 (by decide) ?_
      refine lv_icmp_gt (tgt := 38) hx hb dX7_isKindOrUnder_7 (by decide) (fun c7 => ?_) (fun c7 => ?_)
      · replace hm := it_t c7 hm
        refine lv_iconst (v := 0) hx hb dX7_isKindOrUnder_38 (by decide) ?_
        cases hm
        exact k_zret hx hb hr hlocks (by decide) hP hS dX7_isKindOrUnder_39
      · replace hm := it_f c7 hm
        refine lv_iload_n hx hb dX7_isKindOrUnder_10 rfl (lv_at hl 1 rfl) ?_
        refine lv_bipush (v := 6) hx hb dX7_isKindOrUnder_11 (by decide) ?_
        obtain ⟨r13, hc13, hm⟩ := bd1_e hm
        refine k_callGSi (dC := dC) (dI := dI) (kc := kc) (As := [.int l2_4, .int 6]) (rest := []) (Gs' := []) hx hb hml hown hts hK hP hD hS hA (ctX7_isWithin (x1 := l2_4) (x2 := 6) hc13) (va_cwS 2 hts gX7_isKindOrUnder_X7_isWithin rfl rfl rfl (by decide +kernel) ⟨Nat.le_of_ble_eq_true rfl, Nat.le_of_ble_eq_true rfl⟩) [] rfl (by decide) rfl hl rfl (Nat.le_of_ble_eq_true rfl) dX7_isKindOrUnder_13 ⟨Nat.zero_le _, Nat.zero_le _⟩ rfl rfl rfl (fun H locs hP hD hS => ?_)
        refine lv_if_eq (tgt := 38) hx hb dX7_isKindOrUnder_16 (by decide) (fun c16 => ?_) (fun c16 => ?_)
        · replace hm := it_t c16 hm
          refine lv_iconst (v := 0) hx hb dX7_isKindOrUnder_38 (by decide) ?_
          cases hm
          exact k_zret hx hb hr hlocks (by decide) hP hS dX7_isKindOrUnder_39
        · replace hm := it_f c16 hm
          refine lv_iload_n hx hb dX7_isKindOrUnder_19 rfl (lv_at hl 1 rfl) ?_
          refine lv_iload_n hx hb dX7_isKindOrUnder_20 rfl (lv_at hl 0 rfl) ?_
          refine lv_icmp_ne (tgt := 26) hx hb dX7_isKindOrUnder_21 (by decide) (fun c21 => ?_) (fun c21 => ?_)
          · replace hm := it_f c21 hm
            refine va_gets hx hb hX.2.2.1 hS hown (hts _ (List.mem_of_getElem? (i := 1) rfl)) (fun _ h9 => h9) dX7_isKindOrUnder_26 ?_
            refine lv_iload_n hx hb dX7_isKindOrUnder_29 rfl (lv_at hl 1 rfl) ?_
            obtain ⟨hg30, hm⟩ := gd_e hm
            refine va_ti hx hb hX.2.2.2.1 hS hg30 (v := .int (tabK (l2_4.toNatClampNeg))) rfl dX7_isKindOrUnder_30 ?_
            refine lv_istore_n (lv' := [(2, .int (tabK (l2_4.toNatClampNeg))), (1, .int x2), (3, .int l3_4)]) hx hb dX7_isKindOrUnder_31 rfl hl (by decide) rfl (fun ls hl => ?_)
            refine lv_iinc (v := l3_4 + 1) (lv' := [(3, .int (l3_4 + 1)), (2, .int (tabK (l2_4.toNatClampNeg))), (1, .int x2)]) hx hb dX7_isKindOrUnder_32 hl (k := 2) rfl rfl (by decide) rfl (fun ls hl => ?_)
            refine lv_goto (tgt := 4) hx hb dX7_isKindOrUnder_35 (by decide) ?_
            exact ih4 (tabK (l2_4.toNatClampNeg)) (l3_4 + 1) hm _ _ hP hD hS _ (lv_sub hl [2, 1, 0] rfl)
          · replace hm := it_t c21 hm
            refine lv_iconst (v := 1) hx hb dX7_isKindOrUnder_24 (by decide) ?_
            cases hm
            exact k_zret hx hb hr hlocks (by decide) hP hS dX7_isKindOrUnder_25
  exact hL4 _ _ _ hm _ _ hP hD hS _ (lv_sub hl [3, 1, 0] rfl)
def fX7_one (wpeople : Int32) (wkind : Nat → Int32) (wv : Nat → Int32) (wplace : Nat → Int32) (x1 : Int32) (x2 : Int32) (x3 : Int32) : Option (Int32 × Int32 × (Nat → Int32) × (Nat → Int32) × (Nat → Int32)) := bd1 (fX7_isWithin x1 6) (fun r3 => if r3 = 0 then (some (((-1) : Int32), wpeople, wkind, wv, wplace)) else (bd1 (fX7_isWithin x2 9) (fun r14 => if r14 = 0 then (some (((-2) : Int32), wpeople, wkind, wv, wplace)) else (bd1 (fX7_isWithin x3 99) (fun r23 => if r23 = 0 then (some (((-2) : Int32), wpeople, wkind, wv, wplace)) else (if wpeople < 6 then (bd5 (fX2_addPerson wpeople wkind wv wplace x1 x2 x3) (fun r54 wpeople_54 wkind_54 wv_54 wplace_54 => some (r54, wpeople_54, wkind_54, wv_54, wplace_54))) else (some (((-4) : Int32), wpeople, wkind, wv, wplace))))))))
theorem hinX7_one_X2 : ∀ w ∈ u_ws RX2 TX2 14, w ∈ wsX7_one := fun _ h => List.mem_cons_of_mem _ (List.mem_append_right _ h)
theorem hinX7_one_X7 : ∀ w ∈ u_ws RX7 TX7 11, w ∈ wsX7_one := fun _ h => List.mem_cons_of_mem _ (List.mem_append_left _ (List.mem_append_right _ h))
abbrev rmX7_one : Room := { frames := 1, cells := 0, slots := 0, locals := 35 }
set_option maxHeartbeats 4000000 in
set_option maxRecDepth 100000 in
theorem ctX7_one {l : Launch} {dC : Nat → ClassId} {dI : Nat → Nat → Nat} {kc : Nat → ClassId} {o_o w_o w_kind w_v w_place w_rows w_length w_first w_second w_drifts w_traits o_x_imageHall o_x_ahead o_x_notes o_x_imageNotes o_x_libraries o_x_reader o_x_acts o_x_tapes : Nat} {ohasImage : Int32} {olibraryCount : Int32} {wpeople : Int32} {wkind : Nat → Int32} {wv : Nat → Int32} {wplace : Nat → Int32} {wrows : Nat → Int32} {wleaves : Int32} {wlength : Nat → Int32} {wfirst : Nat → Int32} {wsecond : Nat → Int32} {wdrops : Int32} {wstep : Int32} {wlibrary : Option Nat} {wdrifts : Nat → Int32} {wtraits : Nat → Int32} {x1 : Int32} {x2 : Int32} {x3 : Int32} {r : Int32} {wpeople' : Int32} {wkind' : Nat → Int32} {wv' : Nat → Int32} {wplace' : Nat → Int32} (hm : fX7_one wpeople wkind wv wplace x1 x2 x3 = some (r, wpeople', wkind', wv', wplace')) : ∀ sz : Nat, Met l yX7_one wsX7_one rmX7_one (kPc dC dI kc [.ref o_o, .int x1, .int x2, .int x3] (fl [wdX7 kc o_o w_o o_x_imageHall o_x_ahead o_x_notes o_x_imageNotes o_x_libraries o_x_reader o_x_acts o_x_tapes ohasImage olibraryCount, wdX2 kc w_o w_kind w_v w_place w_rows w_length w_first w_second w_drifts w_traits wpeople wkind wv wplace wrows wleaves wlength wfirst wsecond wdrops wstep wlibrary wdrifts wtraits]) sz) (kQi dC dI r (fl [wdX7 kc o_o w_o o_x_imageHall o_x_ahead o_x_notes o_x_imageNotes o_x_libraries o_x_reader o_x_acts o_x_tapes ohasImage olibraryCount, wdX2 kc w_o w_kind w_v w_place w_rows w_length w_first w_second w_drifts w_traits wpeople' wkind' wv' wplace' wrows wleaves wlength wfirst wsecond wdrops wstep wlibrary wdrifts wtraits]) (va_A (fl [wdX7 kc o_o w_o o_x_imageHall o_x_ahead o_x_notes o_x_imageNotes o_x_libraries o_x_reader o_x_acts o_x_tapes ohasImage olibraryCount, wdX2 kc w_o w_kind w_v w_place w_rows w_length w_first w_second w_drifts w_traits wpeople wkind wv wplace wrows wleaves wlength wfirst wsecond wdrops wstep wlibrary wdrifts wtraits]) sz)) 0 0 (va_A (fl [wdX7 kc o_o w_o o_x_imageHall o_x_ahead o_x_notes o_x_imageNotes o_x_libraries o_x_reader o_x_acts o_x_tapes ohasImage olibraryCount, wdX2 kc w_o w_kind w_v w_place w_rows w_length w_first w_second w_drifts w_traits wpeople wkind wv wplace wrows wleaves wlength wfirst wsecond wdrops wstep wlibrary wdrifts wtraits]) sz) := by
  intro sz
  refine kMet (cc := cX7_one) (maxL := 4) (ret := (some .int)) (Qf := fun A => kQi dC dI r (fl [wdX7 kc o_o w_o o_x_imageHall o_x_ahead o_x_notes o_x_imageNotes o_x_libraries o_x_reader o_x_acts o_x_tapes ohasImage olibraryCount, wdX2 kc w_o w_kind w_v w_place w_rows w_length w_first w_second w_drifts w_traits wpeople' wkind' wv' wplace' wrows wleaves wlength wfirst wsecond wdrops wstep wlibrary wdrifts wtraits]) A) (by decide) rfl (Nat.le_of_ble_eq_true rfl) ?_
  intro p e s m below meth c A ls hx hb hr hml hts hown hlocks hname hsz hA hP hK hD hl
  have hS : va_S A s.heap s.heap [] := va_S.rf
  have hl : lv_has ls 4 [(0, .ref o_o), (1, .int x1), (2, .int x2), (3, .int x3)] := hl
  unfold fX7_one at hm
  refine lv_iload_n hx hb dX7_one_0 rfl (lv_at hl 1 rfl) ?_
  refine lv_bipush (v := 6) hx hb dX7_one_1 (by decide) ?_
  obtain ⟨r3, hc3, hm⟩ := bd1_e hm
  refine k_callGSi (dC := dC) (dI := dI) (kc := kc) (As := [.int x1, .int 6]) (rest := []) (Gs' := [wdX7 kc o_o w_o o_x_imageHall o_x_ahead o_x_notes o_x_imageNotes o_x_libraries o_x_reader o_x_acts o_x_tapes ohasImage olibraryCount, wdX2 kc w_o w_kind w_v w_place w_rows w_length w_first w_second w_drifts w_traits wpeople wkind wv wplace wrows wleaves wlength wfirst wsecond wdrops wstep wlibrary wdrifts wtraits]) hx hb hml hown hts hK hP hD hS hA (ctX7_isWithin (x1 := x1) (x2 := 6) hc3) (va_cwS 2 hts gX7_one_X7_isWithin rfl rfl rfl (by decide +kernel) ⟨Nat.le_of_ble_eq_true rfl, Nat.le_of_ble_eq_true rfl⟩) [] rfl (by decide) rfl hl rfl (Nat.le_of_ble_eq_true rfl) dX7_one_3 ⟨Nat.zero_le _, Nat.zero_le _⟩ rfl rfl rfl (fun H locs hP hD hS => ?_)
  refine lv_if_ne (tgt := 11) hx hb dX7_one_6 (by decide) (fun c6 => ?_) (fun c6 => ?_)
  · replace hm := it_f c6 hm
    refine lv_iload_n hx hb dX7_one_11 rfl (lv_at hl 2 rfl) ?_
    refine lv_bipush (v := 9) hx hb dX7_one_12 (by decide) ?_
    obtain ⟨r14, hc14, hm⟩ := bd1_e hm
    refine k_callGSi (dC := dC) (dI := dI) (kc := kc) (As := [.int x2, .int 9]) (rest := []) (Gs' := [wdX7 kc o_o w_o o_x_imageHall o_x_ahead o_x_notes o_x_imageNotes o_x_libraries o_x_reader o_x_acts o_x_tapes ohasImage olibraryCount, wdX2 kc w_o w_kind w_v w_place w_rows w_length w_first w_second w_drifts w_traits wpeople wkind wv wplace wrows wleaves wlength wfirst wsecond wdrops wstep wlibrary wdrifts wtraits]) hx hb hml hown hts hK hP hD hS hA (ctX7_isWithin (x1 := x2) (x2 := 9) hc14) (va_cwS 2 hts gX7_one_X7_isWithin rfl rfl rfl (by decide +kernel) ⟨Nat.le_of_ble_eq_true rfl, Nat.le_of_ble_eq_true rfl⟩) [] rfl (by decide) rfl hl rfl (Nat.le_of_ble_eq_true rfl) dX7_one_14 ⟨Nat.zero_le _, Nat.zero_le _⟩ rfl rfl rfl (fun H locs hP hD hS => ?_)
    refine lv_if_eq (tgt := 29) hx hb dX7_one_17 (by decide) (fun c17 => ?_) (fun c17 => ?_)
    · replace hm := it_t c17 hm
      refine lv_bipush (v := (-2)) hx hb dX7_one_29 (by decide) ?_
      cases hm
      exact k_iret hx hb hr hlocks hP hS dX7_one_31
    · replace hm := it_f c17 hm
      refine lv_iload_n hx hb dX7_one_20 rfl (lv_at hl 3 rfl) ?_
      refine lv_bipush (v := 99) hx hb dX7_one_21 (by decide) ?_
      obtain ⟨r23, hc23, hm⟩ := bd1_e hm
      refine k_callGSi (dC := dC) (dI := dI) (kc := kc) (As := [.int x3, .int 99]) (rest := []) (Gs' := [wdX7 kc o_o w_o o_x_imageHall o_x_ahead o_x_notes o_x_imageNotes o_x_libraries o_x_reader o_x_acts o_x_tapes ohasImage olibraryCount, wdX2 kc w_o w_kind w_v w_place w_rows w_length w_first w_second w_drifts w_traits wpeople wkind wv wplace wrows wleaves wlength wfirst wsecond wdrops wstep wlibrary wdrifts wtraits]) hx hb hml hown hts hK hP hD hS hA (ctX7_isWithin (x1 := x3) (x2 := 99) hc23) (va_cwS 2 hts gX7_one_X7_isWithin rfl rfl rfl (by decide +kernel) ⟨Nat.le_of_ble_eq_true rfl, Nat.le_of_ble_eq_true rfl⟩) [] rfl (by decide) rfl hl rfl (Nat.le_of_ble_eq_true rfl) dX7_one_23 ⟨Nat.zero_le _, Nat.zero_le _⟩ rfl rfl rfl (fun H locs hP hD hS => ?_)
      refine lv_if_ne (tgt := 32) hx hb dX7_one_26 (by decide) (fun c26 => ?_) (fun c26 => ?_)
      · replace hm := it_f c26 hm
        refine lv_aload_n hx hb dX7_one_32 rfl (lv_at hl 0 rfl) ?_
        refine va_get (D := (dC, dI)) (ci := 7) (v := .ref w_o) (C := RX7) (T := TX7) (N := 11) hx hb hts hinX7_one_X7 hown hK hP 0 rfl rfl 0 (by decide) (hts _ (List.mem_of_getElem? (i := 1) rfl)) (fun _ h9 => h9) rfl dX7_one_33 ?_
        refine va_get (D := (dC, dI)) (ci := 2) (v := .int wpeople) (C := RX2) (T := TX2) (N := 14) hx hb hts hinX7_one_X2 hown hK hP 1 rfl rfl 0 (by decide) (hts _ (List.mem_of_getElem? (i := 2) rfl)) (fun _ h9 => h9) rfl dX7_one_36 ?_
        refine lv_bipush (v := 6) hx hb dX7_one_39 (by decide) ?_
        refine lv_icmp_lt (tgt := 47) hx hb dX7_one_41 (by decide) (fun c41 => ?_) (fun c41 => ?_)
        · replace hm := it_t c41 hm
          refine lv_aload_n hx hb dX7_one_47 rfl (lv_at hl 0 rfl) ?_
          refine va_get (D := (dC, dI)) (ci := 7) (v := .ref w_o) (C := RX7) (T := TX7) (N := 11) hx hb hts hinX7_one_X7 hown hK hP 0 rfl rfl 0 (by decide) (hts _ (List.mem_of_getElem? (i := 1) rfl)) (fun _ h9 => h9) rfl dX7_one_48 ?_
          refine lv_iload_n hx hb dX7_one_51 rfl (lv_at hl 1 rfl) ?_
          refine lv_iload_n hx hb dX7_one_52 rfl (lv_at hl 2 rfl) ?_
          refine lv_iload_n hx hb dX7_one_53 rfl (lv_at hl 3 rfl) ?_
          obtain ⟨r54, wpeople_54, wkind_54, wv_54, wplace_54, hc54, hm⟩ := bd5_e hm
          refine k_callGVi (dC := dC) (dI := dI) (kc := kc) (As := [.int x1, .int x2, .int x3]) (rest := []) (Gs' := [wdX7 kc o_o w_o o_x_imageHall o_x_ahead o_x_notes o_x_imageNotes o_x_libraries o_x_reader o_x_acts o_x_tapes ohasImage olibraryCount, wdX2 kc w_o w_kind w_v w_place w_rows w_length w_first w_second w_drifts w_traits wpeople_54 wkind_54 wv_54 wplace_54 wrows wleaves wlength wfirst wsecond wdrops wstep wlibrary wdrifts wtraits]) hx hb hml hown hts hK hP hD hS hA (ctX2_addPerson (w_o := w_o) (w_kind := w_kind) (w_v := w_v) (w_place := w_place) (w_rows := w_rows) (w_length := w_length) (w_first := w_first) (w_second := w_second) (w_drifts := w_drifts) (w_traits := w_traits) (wpeople := wpeople) (wkind := wkind) (wv := wv) (wplace := wplace) (wrows := wrows) (wleaves := wleaves) (wlength := wlength) (wfirst := wfirst) (wsecond := wsecond) (wdrops := wdrops) (wstep := wstep) (wlibrary := wlibrary) (wdrifts := wdrifts) (wtraits := wtraits) (x1 := x1) (x2 := x2) (x3 := x3) hc54) (cwV 3 hts gX7_one_X2_addPerson rfl rfl rfl (by decide +kernel) ⟨Nat.le_of_ble_eq_true rfl, Nat.le_of_ble_eq_true rfl⟩) [1] rfl (by decide) 2 rfl rfl rfl rfl hl rfl (Nat.le_of_ble_eq_true rfl) dX7_one_54 ⟨Nat.zero_le _, Nat.zero_le _⟩ rfl rfl rfl (fun H locs hP hD hS => ?_)
          cases hm
          exact k_iret hx hb hr hlocks hP hS dX7_one_57
        · replace hm := it_f c41 hm
          refine lv_bipush (v := (-4)) hx hb dX7_one_44 (by decide) ?_
          cases hm
          exact k_iret hx hb hr hlocks hP hS dX7_one_46
      · replace hm := it_t c26 hm
        refine lv_bipush (v := (-2)) hx hb dX7_one_29 (by decide) ?_
        cases hm
        exact k_iret hx hb hr hlocks hP hS dX7_one_31
  · replace hm := it_t c6 hm
    refine lv_iconst (v := (-1)) hx hb dX7_one_9 (by decide) ?_
    cases hm
    exact k_iret hx hb hr hlocks hP hS dX7_one_10
def fX7_of (fu : Nat) (wpeople : Int32) (wkind : Nat → Int32) (wv : Nat → Int32) (wplace : Nat → Int32) (wrows : Nat → Int32) (wleaves : Int32) (wfirst : Nat → Int32) (wsecond : Nat → Int32) (wstep : Int32) (wlibrary : Option Nat) (wtraits : Nat → Int32) (bsorts : Nat → Int32) (bletters : Nat → Int32) (bnumbers : Nat → Int32) (bsize : Int32) (x1 : Int32) (x2 : Int32) : Option (Int32 × (Nat → Int32)) := bd1 (fX2_isPerson wpeople x1) (fun r5 => if r5 = 0 then (some (((-10001) : Int32), wtraits)) else (if x2 = 0 then (gd (inb x1 6) (some (wkind (x1.toNatClampNeg), wtraits))) else (if x2 = 1 then (gd (inb x1 6) (some (wv (x1.toNatClampNeg), wtraits))) else (if x2 = 2 then (gd (inb x1 6) (some (wplace (x1.toNatClampNeg), wtraits))) else (if x2 = 3 then (bd1 (fX2_holdsHowMany fu wleaves wfirst wsecond x1) (fun r87 => some (r87, wtraits))) else (if x2 = 4 then (bd2 (fX2_driftOf fu wkind wv wplace wrows wleaves wfirst wsecond wstep wlibrary wtraits bsorts bletters bnumbers bsize x1) (fun r96 wtraits_96 => some (r96, wtraits_96))) else (some (((-10001) : Int32), wtraits))))))))
theorem hinX7_of_X2 : ∀ w ∈ u_ws RX2 TX2 14, w ∈ wsX7_of := fun _ h => List.mem_cons_of_mem _ (List.mem_append_left _ (List.mem_append_right _ h))
theorem hinX7_of_X7 : ∀ w ∈ u_ws RX7 TX7 11, w ∈ wsX7_of := fun _ h => List.mem_cons_of_mem _ (List.mem_append_left _ (List.mem_append_left _ (List.mem_append_right _ h)))
abbrev rmX7_of : Room := { frames := 3, cells := 0, slots := 0, locals := 81 }
set_option maxHeartbeats 4000000 in
set_option maxRecDepth 100000 in
theorem ctX7_of {l : Launch} {dC : Nat → ClassId} {dI : Nat → Nat → Nat} {kc : Nat → ClassId} {o_o w_o w_kind w_v w_place w_rows w_length w_first w_second w_drifts w_traits b_o b_sorts b_letters b_numbers o_x_imageHall o_x_ahead o_x_notes o_x_imageNotes o_x_libraries o_x_reader o_x_acts o_x_tapes : Nat} {ohasImage : Int32} {olibraryCount : Int32} {wpeople : Int32} {wkind : Nat → Int32} {wv : Nat → Int32} {wplace : Nat → Int32} {wrows : Nat → Int32} {wleaves : Int32} {wlength : Nat → Int32} {wfirst : Nat → Int32} {wsecond : Nat → Int32} {wdrops : Int32} {wstep : Int32} {wlibrary : Option Nat} {wdrifts : Nat → Int32} {wtraits : Nat → Int32} {bsorts : Nat → Int32} {bletters : Nat → Int32} {bnumbers : Nat → Int32} {bsize : Int32} {bbear : Int32} {x1 : Int32} {x2 : Int32} {fu : Nat} {r : Int32} {wtraits' : Nat → Int32} (hm : fX7_of fu wpeople wkind wv wplace wrows wleaves wfirst wsecond wstep wlibrary wtraits bsorts bletters bnumbers bsize x1 x2 = some (r, wtraits')) (hlowlibrary : ∀ q : Nat, wlibrary = some q → q = b_o) : ∀ sz : Nat, Met l yX7_of wsX7_of rmX7_of (kPc dC dI kc [.ref o_o, .int x1, .int x2] (fl [wdX7 kc o_o w_o o_x_imageHall o_x_ahead o_x_notes o_x_imageNotes o_x_libraries o_x_reader o_x_acts o_x_tapes ohasImage olibraryCount, wdX2 kc w_o w_kind w_v w_place w_rows w_length w_first w_second w_drifts w_traits wpeople wkind wv wplace wrows wleaves wlength wfirst wsecond wdrops wstep wlibrary wdrifts wtraits, wdX3 kc b_o b_sorts b_letters b_numbers bsorts bletters bnumbers bsize bbear]) sz) (kQi dC dI r (fl [wdX7 kc o_o w_o o_x_imageHall o_x_ahead o_x_notes o_x_imageNotes o_x_libraries o_x_reader o_x_acts o_x_tapes ohasImage olibraryCount, wdX2 kc w_o w_kind w_v w_place w_rows w_length w_first w_second w_drifts w_traits wpeople wkind wv wplace wrows wleaves wlength wfirst wsecond wdrops wstep wlibrary wdrifts wtraits', wdX3 kc b_o b_sorts b_letters b_numbers bsorts bletters bnumbers bsize bbear]) (va_A (fl [wdX7 kc o_o w_o o_x_imageHall o_x_ahead o_x_notes o_x_imageNotes o_x_libraries o_x_reader o_x_acts o_x_tapes ohasImage olibraryCount, wdX2 kc w_o w_kind w_v w_place w_rows w_length w_first w_second w_drifts w_traits wpeople wkind wv wplace wrows wleaves wlength wfirst wsecond wdrops wstep wlibrary wdrifts wtraits, wdX3 kc b_o b_sorts b_letters b_numbers bsorts bletters bnumbers bsize bbear]) sz)) 0 0 (va_A (fl [wdX7 kc o_o w_o o_x_imageHall o_x_ahead o_x_notes o_x_imageNotes o_x_libraries o_x_reader o_x_acts o_x_tapes ohasImage olibraryCount, wdX2 kc w_o w_kind w_v w_place w_rows w_length w_first w_second w_drifts w_traits wpeople wkind wv wplace wrows wleaves wlength wfirst wsecond wdrops wstep wlibrary wdrifts wtraits, wdX3 kc b_o b_sorts b_letters b_numbers bsorts bletters bnumbers bsize bbear]) sz) := by
  intro sz
  refine kMet (cc := cX7_of) (maxL := 3) (ret := (some .int)) (Qf := fun A => kQi dC dI r (fl [wdX7 kc o_o w_o o_x_imageHall o_x_ahead o_x_notes o_x_imageNotes o_x_libraries o_x_reader o_x_acts o_x_tapes ohasImage olibraryCount, wdX2 kc w_o w_kind w_v w_place w_rows w_length w_first w_second w_drifts w_traits wpeople wkind wv wplace wrows wleaves wlength wfirst wsecond wdrops wstep wlibrary wdrifts wtraits', wdX3 kc b_o b_sorts b_letters b_numbers bsorts bletters bnumbers bsize bbear]) A) (by decide) rfl (Nat.le_of_ble_eq_true rfl) ?_
  intro p e s m below meth c A ls hx hb hr hml hts hown hlocks hname hsz hA hP hK hD hl
  have hS : va_S A s.heap s.heap [] := va_S.rf
  have hl : lv_has ls 3 [(0, .ref o_o), (1, .int x1), (2, .int x2)] := hl
  unfold fX7_of at hm
  refine lv_aload_n hx hb dX7_of_0 rfl (lv_at hl 0 rfl) ?_
  refine va_get (D := (dC, dI)) (ci := 7) (v := .ref w_o) (C := RX7) (T := TX7) (N := 11) hx hb hts hinX7_of_X7 hown hK hP 0 rfl rfl 0 (by decide) (hts _ (List.mem_of_getElem? (i := 1) rfl)) (fun _ h9 => h9) rfl dX7_of_1 ?_
  refine lv_iload_n hx hb dX7_of_4 rfl (lv_at hl 1 rfl) ?_
  obtain ⟨r5, hc5, hm⟩ := bd1_e hm
  refine k_callGVi (dC := dC) (dI := dI) (kc := kc) (As := [.int x1]) (rest := []) (Gs' := [wdX7 kc o_o w_o o_x_imageHall o_x_ahead o_x_notes o_x_imageNotes o_x_libraries o_x_reader o_x_acts o_x_tapes ohasImage olibraryCount, wdX2 kc w_o w_kind w_v w_place w_rows w_length w_first w_second w_drifts w_traits wpeople wkind wv wplace wrows wleaves wlength wfirst wsecond wdrops wstep wlibrary wdrifts wtraits, wdX3 kc b_o b_sorts b_letters b_numbers bsorts bletters bnumbers bsize bbear]) hx hb hml hown hts hK hP hD hS hA (ctX2_isPerson (w_o := w_o) (w_kind := w_kind) (w_v := w_v) (w_place := w_place) (w_rows := w_rows) (w_length := w_length) (w_first := w_first) (w_second := w_second) (w_drifts := w_drifts) (w_traits := w_traits) (wpeople := wpeople) (wkind := wkind) (wv := wv) (wplace := wplace) (wrows := wrows) (wleaves := wleaves) (wlength := wlength) (wfirst := wfirst) (wsecond := wsecond) (wdrops := wdrops) (wstep := wstep) (wlibrary := wlibrary) (wdrifts := wdrifts) (wtraits := wtraits) (x1 := x1) hc5) (cwV 1 hts gX7_of_X2_isPerson rfl rfl rfl (by decide +kernel) ⟨Nat.le_of_ble_eq_true rfl, Nat.le_of_ble_eq_true rfl⟩) [1] rfl (by decide) 2 rfl rfl rfl rfl hl rfl (Nat.le_of_ble_eq_true rfl) dX7_of_5 ⟨Nat.zero_le _, Nat.zero_le _⟩ rfl rfl rfl (fun H locs hP hD hS => ?_)
  refine lv_if_ne (tgt := 15) hx hb dX7_of_8 (by decide) (fun c8 => ?_) (fun c8 => ?_)
  · replace hm := it_f c8 hm
    refine lv_iload_n hx hb dX7_of_15 rfl (lv_at hl 2 rfl) ?_
    by_cases cs16_0 : x2 = 0
    · replace hm := it_t cs16_0 hm
      refine lv_tableIn (off := 36) (tgt := 52) hx hb dX7_of_16 (by rw [cs16_0]; decide) (by rw [cs16_0]; decide) (by rw [cs16_0]; rfl) (by decide) ?_
      refine lv_aload_n hx hb dX7_of_52 rfl (lv_at hl 0 rfl) ?_
      refine va_get (D := (dC, dI)) (ci := 7) (v := .ref w_o) (C := RX7) (T := TX7) (N := 11) hx hb hts hinX7_of_X7 hown hK hP 0 rfl rfl 0 (by decide) (hts _ (List.mem_of_getElem? (i := 1) rfl)) (fun _ h9 => h9) rfl dX7_of_53 ?_
      refine va_get (D := (dC, dI)) (ci := 2) (v := .ref w_kind) (C := RX2) (T := TX2) (N := 14) hx hb hts hinX7_of_X2 hown hK hP 1 rfl rfl 1 (by decide) (hts _ (List.mem_of_getElem? (i := 2) rfl)) (fun _ h9 => h9) rfl dX7_of_56 ?_
      refine lv_iload_n hx hb dX7_of_59 rfl (lv_at hl 1 rfl) ?_
      obtain ⟨hg60, hm⟩ := gd_e hm
      refine k_iald (D := (dC, dI)) hx hb hK hP 2 1 rfl rfl (k := x1.toNatClampNeg) rfl hg60 dX7_of_60 ?_
      cases hm
      exact k_iret hx hb hr hlocks hP hS dX7_of_61
    replace hm := it_f cs16_0 hm
    by_cases cs16_1 : x2 = 1
    · replace hm := it_t cs16_1 hm
      refine lv_tableIn (off := 46) (tgt := 62) hx hb dX7_of_16 (by rw [cs16_1]; decide) (by rw [cs16_1]; decide) (by rw [cs16_1]; rfl) (by decide) ?_
      refine lv_aload_n hx hb dX7_of_62 rfl (lv_at hl 0 rfl) ?_
      refine va_get (D := (dC, dI)) (ci := 7) (v := .ref w_o) (C := RX7) (T := TX7) (N := 11) hx hb hts hinX7_of_X7 hown hK hP 0 rfl rfl 0 (by decide) (hts _ (List.mem_of_getElem? (i := 1) rfl)) (fun _ h9 => h9) rfl dX7_of_63 ?_
      refine va_get (D := (dC, dI)) (ci := 2) (v := .ref w_v) (C := RX2) (T := TX2) (N := 14) hx hb hts hinX7_of_X2 hown hK hP 1 rfl rfl 2 (by decide) (hts _ (List.mem_of_getElem? (i := 3) rfl)) (fun _ h9 => h9) rfl dX7_of_66 ?_
      refine lv_iload_n hx hb dX7_of_69 rfl (lv_at hl 1 rfl) ?_
      obtain ⟨hg70, hm⟩ := gd_e hm
      refine k_iald (D := (dC, dI)) hx hb hK hP 3 1 rfl rfl (k := x1.toNatClampNeg) rfl hg70 dX7_of_70 ?_
      cases hm
      exact k_iret hx hb hr hlocks hP hS dX7_of_71
    replace hm := it_f cs16_1 hm
    by_cases cs16_2 : x2 = 2
    · replace hm := it_t cs16_2 hm
      refine lv_tableIn (off := 56) (tgt := 72) hx hb dX7_of_16 (by rw [cs16_2]; decide) (by rw [cs16_2]; decide) (by rw [cs16_2]; rfl) (by decide) ?_
      refine lv_aload_n hx hb dX7_of_72 rfl (lv_at hl 0 rfl) ?_
      refine va_get (D := (dC, dI)) (ci := 7) (v := .ref w_o) (C := RX7) (T := TX7) (N := 11) hx hb hts hinX7_of_X7 hown hK hP 0 rfl rfl 0 (by decide) (hts _ (List.mem_of_getElem? (i := 1) rfl)) (fun _ h9 => h9) rfl dX7_of_73 ?_
      refine va_get (D := (dC, dI)) (ci := 2) (v := .ref w_place) (C := RX2) (T := TX2) (N := 14) hx hb hts hinX7_of_X2 hown hK hP 1 rfl rfl 3 (by decide) (hts _ (List.mem_of_getElem? (i := 4) rfl)) (fun _ h9 => h9) rfl dX7_of_76 ?_
      refine lv_iload_n hx hb dX7_of_79 rfl (lv_at hl 1 rfl) ?_
      obtain ⟨hg80, hm⟩ := gd_e hm
      refine k_iald (D := (dC, dI)) hx hb hK hP 4 1 rfl rfl (k := x1.toNatClampNeg) rfl hg80 dX7_of_80 ?_
      cases hm
      exact k_iret hx hb hr hlocks hP hS dX7_of_81
    replace hm := it_f cs16_2 hm
    by_cases cs16_3 : x2 = 3
    · replace hm := it_t cs16_3 hm
      refine lv_tableIn (off := 66) (tgt := 82) hx hb dX7_of_16 (by rw [cs16_3]; decide) (by rw [cs16_3]; decide) (by rw [cs16_3]; rfl) (by decide) ?_
      refine lv_aload_n hx hb dX7_of_82 rfl (lv_at hl 0 rfl) ?_
      refine va_get (D := (dC, dI)) (ci := 7) (v := .ref w_o) (C := RX7) (T := TX7) (N := 11) hx hb hts hinX7_of_X7 hown hK hP 0 rfl rfl 0 (by decide) (hts _ (List.mem_of_getElem? (i := 1) rfl)) (fun _ h9 => h9) rfl dX7_of_83 ?_
      refine lv_iload_n hx hb dX7_of_86 rfl (lv_at hl 1 rfl) ?_
      obtain ⟨r87, hc87, hm⟩ := bd1_e hm
      refine k_callGVi (dC := dC) (dI := dI) (kc := kc) (As := [.int x1]) (rest := []) (Gs' := [wdX7 kc o_o w_o o_x_imageHall o_x_ahead o_x_notes o_x_imageNotes o_x_libraries o_x_reader o_x_acts o_x_tapes ohasImage olibraryCount, wdX2 kc w_o w_kind w_v w_place w_rows w_length w_first w_second w_drifts w_traits wpeople wkind wv wplace wrows wleaves wlength wfirst wsecond wdrops wstep wlibrary wdrifts wtraits, wdX3 kc b_o b_sorts b_letters b_numbers bsorts bletters bnumbers bsize bbear]) hx hb hml hown hts hK hP hD hS hA (ctX2_holdsHowMany (w_o := w_o) (w_kind := w_kind) (w_v := w_v) (w_place := w_place) (w_rows := w_rows) (w_length := w_length) (w_first := w_first) (w_second := w_second) (w_drifts := w_drifts) (w_traits := w_traits) (wpeople := wpeople) (wkind := wkind) (wv := wv) (wplace := wplace) (wrows := wrows) (wleaves := wleaves) (wlength := wlength) (wfirst := wfirst) (wsecond := wsecond) (wdrops := wdrops) (wstep := wstep) (wlibrary := wlibrary) (wdrifts := wdrifts) (wtraits := wtraits) (x1 := x1) hc87) (cwV 1 hts gX7_of_X2_holdsHowMany rfl rfl rfl (by decide +kernel) ⟨Nat.le_of_ble_eq_true rfl, Nat.le_of_ble_eq_true rfl⟩) [1] rfl (by decide) 2 rfl rfl rfl rfl hl rfl (Nat.le_of_ble_eq_true rfl) dX7_of_87 ⟨Nat.zero_le _, Nat.zero_le _⟩ rfl rfl rfl (fun H locs hP hD hS => ?_)
      cases hm
      exact k_iret hx hb hr hlocks hP hS dX7_of_90
    replace hm := it_f cs16_3 hm
    by_cases cs16_4 : x2 = 4
    · replace hm := it_t cs16_4 hm
      refine lv_tableIn (off := 75) (tgt := 91) hx hb dX7_of_16 (by rw [cs16_4]; decide) (by rw [cs16_4]; decide) (by rw [cs16_4]; rfl) (by decide) ?_
      refine lv_aload_n hx hb dX7_of_91 rfl (lv_at hl 0 rfl) ?_
      refine va_get (D := (dC, dI)) (ci := 7) (v := .ref w_o) (C := RX7) (T := TX7) (N := 11) hx hb hts hinX7_of_X7 hown hK hP 0 rfl rfl 0 (by decide) (hts _ (List.mem_of_getElem? (i := 1) rfl)) (fun _ h9 => h9) rfl dX7_of_92 ?_
      refine lv_iload_n hx hb dX7_of_95 rfl (lv_at hl 1 rfl) ?_
      obtain ⟨r96, wtraits_96, hc96, hm⟩ := bd2_e hm
      refine k_callGVi (dC := dC) (dI := dI) (kc := kc) (As := [.int x1]) (rest := []) (Gs' := [wdX7 kc o_o w_o o_x_imageHall o_x_ahead o_x_notes o_x_imageNotes o_x_libraries o_x_reader o_x_acts o_x_tapes ohasImage olibraryCount, wdX2 kc w_o w_kind w_v w_place w_rows w_length w_first w_second w_drifts w_traits wpeople wkind wv wplace wrows wleaves wlength wfirst wsecond wdrops wstep wlibrary wdrifts wtraits_96, wdX3 kc b_o b_sorts b_letters b_numbers bsorts bletters bnumbers bsize bbear]) hx hb hml hown hts hK hP hD hS hA (ctX2_driftOf (w_o := w_o) (w_kind := w_kind) (w_v := w_v) (w_place := w_place) (w_rows := w_rows) (w_length := w_length) (w_first := w_first) (w_second := w_second) (w_drifts := w_drifts) (w_traits := w_traits) (b_o := b_o) (b_sorts := b_sorts) (b_letters := b_letters) (b_numbers := b_numbers) (wpeople := wpeople) (wkind := wkind) (wv := wv) (wplace := wplace) (wrows := wrows) (wleaves := wleaves) (wlength := wlength) (wfirst := wfirst) (wsecond := wsecond) (wdrops := wdrops) (wstep := wstep) (wlibrary := wlibrary) (wdrifts := wdrifts) (wtraits := wtraits) (bsorts := bsorts) (bletters := bletters) (bnumbers := bnumbers) (bsize := bsize) (bbear := bbear) (x1 := x1) hc96 hlowlibrary) (cwV 1 hts gX7_of_X2_driftOf rfl rfl rfl (by decide +kernel) ⟨Nat.le_of_ble_eq_true rfl, Nat.le_of_ble_eq_true rfl⟩) [1, 2] rfl (by decide) 2 rfl rfl rfl rfl hl rfl (Nat.le_of_ble_eq_true rfl) dX7_of_96 ⟨Nat.zero_le _, Nat.zero_le _⟩ rfl rfl rfl (fun H locs hP hD hS => ?_)
      cases hm
      exact k_iret hx hb hr hlocks hP hS dX7_of_99
    replace hm := it_f cs16_4 hm
    have nt16_0 := lv_neT (k := 0) (a := 0) cs16_0 (by decide)
    have nt16_1 := lv_neT (k := 1) (a := 1) cs16_1 (by decide)
    have nt16_2 := lv_neT (k := 2) (a := 2) cs16_2 (by decide)
    have nt16_3 := lv_neT (k := 3) (a := 3) cs16_3 (by decide)
    have nt16_4 := lv_neT (k := 4) (a := 4) cs16_4 (by decide)
    refine lv_tableOut (tgt := 100) hx hb dX7_of_16 (by omega) (by decide) ?_
    refine lv_sipush (v := (-10001)) hx hb dX7_of_100 (by decide) ?_
    cases hm
    exact k_iret hx hb hr hlocks hP hS dX7_of_103
  · replace hm := it_t c8 hm
    refine lv_sipush (v := (-10001)) hx hb dX7_of_11 (by decide) ?_
    cases hm
    exact k_iret hx hb hr hlocks hP hS dX7_of_14
def fX7_leaf (wleaves : Int32) (wlength : Nat → Int32) (wfirst : Nat → Int32) (wsecond : Nat → Int32) (x1 : Int32) : Option (Int32 × Int32 × (Nat → Int32) × (Nat → Int32) × (Nat → Int32)) := if x1 < 1 then (some (((-2) : Int32), wleaves, wlength, wfirst, wsecond)) else (if x1 ≤ 40 then (if wleaves < 4 then (bd5 (fX2_addLeaf wleaves wlength wfirst wsecond x1) (fun r33 wleaves_33 wlength_33 wfirst_33 wsecond_33 => some (r33, wleaves_33, wlength_33, wfirst_33, wsecond_33))) else (some (((-4) : Int32), wleaves, wlength, wfirst, wsecond))) else (some (((-2) : Int32), wleaves, wlength, wfirst, wsecond)))
theorem hinX7_leaf_X2 : ∀ w ∈ u_ws RX2 TX2 14, w ∈ wsX7_leaf := fun _ h => List.mem_cons_of_mem _ (List.mem_append_right _ h)
theorem hinX7_leaf_X7 : ∀ w ∈ u_ws RX7 TX7 11, w ∈ wsX7_leaf := fun _ h => List.mem_cons_of_mem _ (List.mem_append_left _ (List.mem_append_right _ h))
abbrev rmX7_leaf : Room := { frames := 3, cells := 0, slots := 0, locals := 77 }
set_option maxHeartbeats 4000000 in
set_option maxRecDepth 100000 in
theorem ctX7_leaf {l : Launch} {dC : Nat → ClassId} {dI : Nat → Nat → Nat} {kc : Nat → ClassId} {o_o w_o w_kind w_v w_place w_rows w_length w_first w_second w_drifts w_traits o_x_imageHall o_x_ahead o_x_notes o_x_imageNotes o_x_libraries o_x_reader o_x_acts o_x_tapes : Nat} {ohasImage : Int32} {olibraryCount : Int32} {wpeople : Int32} {wkind : Nat → Int32} {wv : Nat → Int32} {wplace : Nat → Int32} {wrows : Nat → Int32} {wleaves : Int32} {wlength : Nat → Int32} {wfirst : Nat → Int32} {wsecond : Nat → Int32} {wdrops : Int32} {wstep : Int32} {wlibrary : Option Nat} {wdrifts : Nat → Int32} {wtraits : Nat → Int32} {x1 : Int32} {r : Int32} {wleaves' : Int32} {wlength' : Nat → Int32} {wfirst' : Nat → Int32} {wsecond' : Nat → Int32} (hm : fX7_leaf wleaves wlength wfirst wsecond x1 = some (r, wleaves', wlength', wfirst', wsecond')) : ∀ sz : Nat, Met l yX7_leaf wsX7_leaf rmX7_leaf (kPc dC dI kc [.ref o_o, .int x1] (fl [wdX7 kc o_o w_o o_x_imageHall o_x_ahead o_x_notes o_x_imageNotes o_x_libraries o_x_reader o_x_acts o_x_tapes ohasImage olibraryCount, wdX2 kc w_o w_kind w_v w_place w_rows w_length w_first w_second w_drifts w_traits wpeople wkind wv wplace wrows wleaves wlength wfirst wsecond wdrops wstep wlibrary wdrifts wtraits]) sz) (kQi dC dI r (fl [wdX7 kc o_o w_o o_x_imageHall o_x_ahead o_x_notes o_x_imageNotes o_x_libraries o_x_reader o_x_acts o_x_tapes ohasImage olibraryCount, wdX2 kc w_o w_kind w_v w_place w_rows w_length w_first w_second w_drifts w_traits wpeople wkind wv wplace wrows wleaves' wlength' wfirst' wsecond' wdrops wstep wlibrary wdrifts wtraits]) (va_A (fl [wdX7 kc o_o w_o o_x_imageHall o_x_ahead o_x_notes o_x_imageNotes o_x_libraries o_x_reader o_x_acts o_x_tapes ohasImage olibraryCount, wdX2 kc w_o w_kind w_v w_place w_rows w_length w_first w_second w_drifts w_traits wpeople wkind wv wplace wrows wleaves wlength wfirst wsecond wdrops wstep wlibrary wdrifts wtraits]) sz)) 0 0 (va_A (fl [wdX7 kc o_o w_o o_x_imageHall o_x_ahead o_x_notes o_x_imageNotes o_x_libraries o_x_reader o_x_acts o_x_tapes ohasImage olibraryCount, wdX2 kc w_o w_kind w_v w_place w_rows w_length w_first w_second w_drifts w_traits wpeople wkind wv wplace wrows wleaves wlength wfirst wsecond wdrops wstep wlibrary wdrifts wtraits]) sz) := by
  intro sz
  refine kMet (cc := cX7_leaf) (maxL := 2) (ret := (some .int)) (Qf := fun A => kQi dC dI r (fl [wdX7 kc o_o w_o o_x_imageHall o_x_ahead o_x_notes o_x_imageNotes o_x_libraries o_x_reader o_x_acts o_x_tapes ohasImage olibraryCount, wdX2 kc w_o w_kind w_v w_place w_rows w_length w_first w_second w_drifts w_traits wpeople wkind wv wplace wrows wleaves' wlength' wfirst' wsecond' wdrops wstep wlibrary wdrifts wtraits]) A) (by decide) rfl (Nat.le_of_ble_eq_true rfl) ?_
  intro p e s m below meth c A ls hx hb hr hml hts hown hlocks hname hsz hA hP hK hD hl
  have hS : va_S A s.heap s.heap [] := va_S.rf
  have hl : lv_has ls 2 [(0, .ref o_o), (1, .int x1)] := hl
  unfold fX7_leaf at hm
  refine lv_iload_n hx hb dX7_leaf_0 rfl (lv_at hl 1 rfl) ?_
  refine lv_iconst (v := 1) hx hb dX7_leaf_1 (by decide) ?_
  refine lv_icmp_lt (tgt := 11) hx hb dX7_leaf_2 (by decide) (fun c2 => ?_) (fun c2 => ?_)
  · replace hm := it_t c2 hm
    refine lv_bipush (v := (-2)) hx hb dX7_leaf_11 (by decide) ?_
    cases hm
    exact k_iret hx hb hr hlocks hP hS dX7_leaf_13
  · replace hm := it_f c2 hm
    refine lv_iload_n hx hb dX7_leaf_5 rfl (lv_at hl 1 rfl) ?_
    refine lv_bipush (v := 40) hx hb dX7_leaf_6 (by decide) ?_
    refine lv_icmp_le (tgt := 14) hx hb dX7_leaf_8 (by decide) (fun c8 => ?_) (fun c8 => ?_)
    · replace hm := it_t c8 hm
      refine lv_aload_n hx hb dX7_leaf_14 rfl (lv_at hl 0 rfl) ?_
      refine va_get (D := (dC, dI)) (ci := 7) (v := .ref w_o) (C := RX7) (T := TX7) (N := 11) hx hb hts hinX7_leaf_X7 hown hK hP 0 rfl rfl 0 (by decide) (hts _ (List.mem_of_getElem? (i := 1) rfl)) (fun _ h9 => h9) rfl dX7_leaf_15 ?_
      refine va_get (D := (dC, dI)) (ci := 2) (v := .int wleaves) (C := RX2) (T := TX2) (N := 14) hx hb hts hinX7_leaf_X2 hown hK hP 1 rfl rfl 5 (by decide) (hts _ (List.mem_of_getElem? (i := 2) rfl)) (fun _ h9 => h9) rfl dX7_leaf_18 ?_
      refine lv_iconst (v := 4) hx hb dX7_leaf_21 (by decide) ?_
      refine lv_icmp_lt (tgt := 28) hx hb dX7_leaf_22 (by decide) (fun c22 => ?_) (fun c22 => ?_)
      · replace hm := it_t c22 hm
        refine lv_aload_n hx hb dX7_leaf_28 rfl (lv_at hl 0 rfl) ?_
        refine va_get (D := (dC, dI)) (ci := 7) (v := .ref w_o) (C := RX7) (T := TX7) (N := 11) hx hb hts hinX7_leaf_X7 hown hK hP 0 rfl rfl 0 (by decide) (hts _ (List.mem_of_getElem? (i := 1) rfl)) (fun _ h9 => h9) rfl dX7_leaf_29 ?_
        refine lv_iload_n hx hb dX7_leaf_32 rfl (lv_at hl 1 rfl) ?_
        obtain ⟨r33, wleaves_33, wlength_33, wfirst_33, wsecond_33, hc33, hm⟩ := bd5_e hm
        refine k_callGVi (dC := dC) (dI := dI) (kc := kc) (As := [.int x1]) (rest := []) (Gs' := [wdX7 kc o_o w_o o_x_imageHall o_x_ahead o_x_notes o_x_imageNotes o_x_libraries o_x_reader o_x_acts o_x_tapes ohasImage olibraryCount, wdX2 kc w_o w_kind w_v w_place w_rows w_length w_first w_second w_drifts w_traits wpeople wkind wv wplace wrows wleaves_33 wlength_33 wfirst_33 wsecond_33 wdrops wstep wlibrary wdrifts wtraits]) hx hb hml hown hts hK hP hD hS hA (ctX2_addLeaf (w_o := w_o) (w_kind := w_kind) (w_v := w_v) (w_place := w_place) (w_rows := w_rows) (w_length := w_length) (w_first := w_first) (w_second := w_second) (w_drifts := w_drifts) (w_traits := w_traits) (wpeople := wpeople) (wkind := wkind) (wv := wv) (wplace := wplace) (wrows := wrows) (wleaves := wleaves) (wlength := wlength) (wfirst := wfirst) (wsecond := wsecond) (wdrops := wdrops) (wstep := wstep) (wlibrary := wlibrary) (wdrifts := wdrifts) (wtraits := wtraits) (x1 := x1) hc33) (cwV 1 hts gX7_leaf_X2_addLeaf rfl rfl rfl (by decide +kernel) ⟨Nat.le_of_ble_eq_true rfl, Nat.le_of_ble_eq_true rfl⟩) [1] rfl (by decide) 2 rfl rfl rfl rfl hl rfl (Nat.le_of_ble_eq_true rfl) dX7_leaf_33 ⟨Nat.zero_le _, Nat.zero_le _⟩ rfl rfl rfl (fun H locs hP hD hS => ?_)
        cases hm
        exact k_iret hx hb hr hlocks hP hS dX7_leaf_36
      · replace hm := it_f c22 hm
        refine lv_bipush (v := (-4)) hx hb dX7_leaf_25 (by decide) ?_
        cases hm
        exact k_iret hx hb hr hlocks hP hS dX7_leaf_27
    · replace hm := it_f c8 hm
      refine lv_bipush (v := (-2)) hx hb dX7_leaf_11 (by decide) ?_
      cases hm
      exact k_iret hx hb hr hlocks hP hS dX7_leaf_13
def fX7_gap (wplace : Nat → Int32) (wleaves : Int32) (wlength : Nat → Int32) (wfirst : Nat → Int32) (wsecond : Nat → Int32) (x1 : Int32) : Option Int32 := bd1 (fX2_isLeaf wleaves x1) (fun r5 => if r5 = 0 then (some ((-10001) : Int32)) else (bd1 (fX2_isHeld wfirst x1) (fun r20 => if r20 = 0 then (some ((-10003) : Int32)) else (bd1 (fX2_gapOf wplace wlength wfirst wsecond x1) (fun r35 => some r35)))))
theorem hinX7_gap_X7 : ∀ w ∈ u_ws RX7 TX7 11, w ∈ wsX7_gap := fun _ h => List.mem_cons_of_mem _ (List.mem_append_left _ (List.mem_append_right _ h))
abbrev rmX7_gap : Room := { frames := 2, cells := 0, slots := 0, locals := 34 }
set_option maxHeartbeats 4000000 in
set_option maxRecDepth 100000 in
theorem ctX7_gap {l : Launch} {dC : Nat → ClassId} {dI : Nat → Nat → Nat} {kc : Nat → ClassId} {o_o w_o w_kind w_v w_place w_rows w_length w_first w_second w_drifts w_traits o_x_imageHall o_x_ahead o_x_notes o_x_imageNotes o_x_libraries o_x_reader o_x_acts o_x_tapes : Nat} {ohasImage : Int32} {olibraryCount : Int32} {wpeople : Int32} {wkind : Nat → Int32} {wv : Nat → Int32} {wplace : Nat → Int32} {wrows : Nat → Int32} {wleaves : Int32} {wlength : Nat → Int32} {wfirst : Nat → Int32} {wsecond : Nat → Int32} {wdrops : Int32} {wstep : Int32} {wlibrary : Option Nat} {wdrifts : Nat → Int32} {wtraits : Nat → Int32} {x1 : Int32} {r : Int32} (hm : fX7_gap wplace wleaves wlength wfirst wsecond x1 = some r) : ∀ sz : Nat, Met l yX7_gap wsX7_gap rmX7_gap (kPc dC dI kc [.ref o_o, .int x1] (fl [wdX7 kc o_o w_o o_x_imageHall o_x_ahead o_x_notes o_x_imageNotes o_x_libraries o_x_reader o_x_acts o_x_tapes ohasImage olibraryCount, wdX2 kc w_o w_kind w_v w_place w_rows w_length w_first w_second w_drifts w_traits wpeople wkind wv wplace wrows wleaves wlength wfirst wsecond wdrops wstep wlibrary wdrifts wtraits]) sz) (kQi dC dI r (fl [wdX7 kc o_o w_o o_x_imageHall o_x_ahead o_x_notes o_x_imageNotes o_x_libraries o_x_reader o_x_acts o_x_tapes ohasImage olibraryCount, wdX2 kc w_o w_kind w_v w_place w_rows w_length w_first w_second w_drifts w_traits wpeople wkind wv wplace wrows wleaves wlength wfirst wsecond wdrops wstep wlibrary wdrifts wtraits]) (va_A (fl [wdX7 kc o_o w_o o_x_imageHall o_x_ahead o_x_notes o_x_imageNotes o_x_libraries o_x_reader o_x_acts o_x_tapes ohasImage olibraryCount, wdX2 kc w_o w_kind w_v w_place w_rows w_length w_first w_second w_drifts w_traits wpeople wkind wv wplace wrows wleaves wlength wfirst wsecond wdrops wstep wlibrary wdrifts wtraits]) sz)) 0 0 (va_A (fl [wdX7 kc o_o w_o o_x_imageHall o_x_ahead o_x_notes o_x_imageNotes o_x_libraries o_x_reader o_x_acts o_x_tapes ohasImage olibraryCount, wdX2 kc w_o w_kind w_v w_place w_rows w_length w_first w_second w_drifts w_traits wpeople wkind wv wplace wrows wleaves wlength wfirst wsecond wdrops wstep wlibrary wdrifts wtraits]) sz) := by
  intro sz
  refine kMet (cc := cX7_gap) (maxL := 2) (ret := (some .int)) (Qf := fun A => kQi dC dI r (fl [wdX7 kc o_o w_o o_x_imageHall o_x_ahead o_x_notes o_x_imageNotes o_x_libraries o_x_reader o_x_acts o_x_tapes ohasImage olibraryCount, wdX2 kc w_o w_kind w_v w_place w_rows w_length w_first w_second w_drifts w_traits wpeople wkind wv wplace wrows wleaves wlength wfirst wsecond wdrops wstep wlibrary wdrifts wtraits]) A) (by decide) rfl (Nat.le_of_ble_eq_true rfl) ?_
  intro p e s m below meth c A ls hx hb hr hml hts hown hlocks hname hsz hA hP hK hD hl
  have hS : va_S A s.heap s.heap [] := va_S.rf
  have hl : lv_has ls 2 [(0, .ref o_o), (1, .int x1)] := hl
  unfold fX7_gap at hm
  refine lv_aload_n hx hb dX7_gap_0 rfl (lv_at hl 0 rfl) ?_
  refine va_get (D := (dC, dI)) (ci := 7) (v := .ref w_o) (C := RX7) (T := TX7) (N := 11) hx hb hts hinX7_gap_X7 hown hK hP 0 rfl rfl 0 (by decide) (hts _ (List.mem_of_getElem? (i := 1) rfl)) (fun _ h9 => h9) rfl dX7_gap_1 ?_
  refine lv_iload_n hx hb dX7_gap_4 rfl (lv_at hl 1 rfl) ?_
  obtain ⟨r5, hc5, hm⟩ := bd1_e hm
  refine k_callGVi (dC := dC) (dI := dI) (kc := kc) (As := [.int x1]) (rest := []) (Gs' := [wdX7 kc o_o w_o o_x_imageHall o_x_ahead o_x_notes o_x_imageNotes o_x_libraries o_x_reader o_x_acts o_x_tapes ohasImage olibraryCount, wdX2 kc w_o w_kind w_v w_place w_rows w_length w_first w_second w_drifts w_traits wpeople wkind wv wplace wrows wleaves wlength wfirst wsecond wdrops wstep wlibrary wdrifts wtraits]) hx hb hml hown hts hK hP hD hS hA (ctX2_isLeaf (w_o := w_o) (w_kind := w_kind) (w_v := w_v) (w_place := w_place) (w_rows := w_rows) (w_length := w_length) (w_first := w_first) (w_second := w_second) (w_drifts := w_drifts) (w_traits := w_traits) (wpeople := wpeople) (wkind := wkind) (wv := wv) (wplace := wplace) (wrows := wrows) (wleaves := wleaves) (wlength := wlength) (wfirst := wfirst) (wsecond := wsecond) (wdrops := wdrops) (wstep := wstep) (wlibrary := wlibrary) (wdrifts := wdrifts) (wtraits := wtraits) (x1 := x1) hc5) (cwV 1 hts gX7_gap_X2_isLeaf rfl rfl rfl (by decide +kernel) ⟨Nat.le_of_ble_eq_true rfl, Nat.le_of_ble_eq_true rfl⟩) [1] rfl (by decide) 2 rfl rfl rfl rfl hl rfl (Nat.le_of_ble_eq_true rfl) dX7_gap_5 ⟨Nat.zero_le _, Nat.zero_le _⟩ rfl rfl rfl (fun H locs hP hD hS => ?_)
  refine lv_if_ne (tgt := 15) hx hb dX7_gap_8 (by decide) (fun c8 => ?_) (fun c8 => ?_)
  · replace hm := it_f c8 hm
    refine lv_aload_n hx hb dX7_gap_15 rfl (lv_at hl 0 rfl) ?_
    refine va_get (D := (dC, dI)) (ci := 7) (v := .ref w_o) (C := RX7) (T := TX7) (N := 11) hx hb hts hinX7_gap_X7 hown hK hP 0 rfl rfl 0 (by decide) (hts _ (List.mem_of_getElem? (i := 1) rfl)) (fun _ h9 => h9) rfl dX7_gap_16 ?_
    refine lv_iload_n hx hb dX7_gap_19 rfl (lv_at hl 1 rfl) ?_
    obtain ⟨r20, hc20, hm⟩ := bd1_e hm
    refine k_callGVi (dC := dC) (dI := dI) (kc := kc) (As := [.int x1]) (rest := []) (Gs' := [wdX7 kc o_o w_o o_x_imageHall o_x_ahead o_x_notes o_x_imageNotes o_x_libraries o_x_reader o_x_acts o_x_tapes ohasImage olibraryCount, wdX2 kc w_o w_kind w_v w_place w_rows w_length w_first w_second w_drifts w_traits wpeople wkind wv wplace wrows wleaves wlength wfirst wsecond wdrops wstep wlibrary wdrifts wtraits]) hx hb hml hown hts hK hP hD hS hA (ctX2_isHeld (w_o := w_o) (w_kind := w_kind) (w_v := w_v) (w_place := w_place) (w_rows := w_rows) (w_length := w_length) (w_first := w_first) (w_second := w_second) (w_drifts := w_drifts) (w_traits := w_traits) (wpeople := wpeople) (wkind := wkind) (wv := wv) (wplace := wplace) (wrows := wrows) (wleaves := wleaves) (wlength := wlength) (wfirst := wfirst) (wsecond := wsecond) (wdrops := wdrops) (wstep := wstep) (wlibrary := wlibrary) (wdrifts := wdrifts) (wtraits := wtraits) (x1 := x1) hc20) (cwV 1 hts gX7_gap_X2_isHeld rfl rfl rfl (by decide +kernel) ⟨Nat.le_of_ble_eq_true rfl, Nat.le_of_ble_eq_true rfl⟩) [1] rfl (by decide) 2 rfl rfl rfl rfl hl rfl (Nat.le_of_ble_eq_true rfl) dX7_gap_20 ⟨Nat.zero_le _, Nat.zero_le _⟩ rfl rfl rfl (fun H locs hP hD hS => ?_)
    refine lv_if_ne (tgt := 30) hx hb dX7_gap_23 (by decide) (fun c23 => ?_) (fun c23 => ?_)
    · replace hm := it_f c23 hm
      refine lv_aload_n hx hb dX7_gap_30 rfl (lv_at hl 0 rfl) ?_
      refine va_get (D := (dC, dI)) (ci := 7) (v := .ref w_o) (C := RX7) (T := TX7) (N := 11) hx hb hts hinX7_gap_X7 hown hK hP 0 rfl rfl 0 (by decide) (hts _ (List.mem_of_getElem? (i := 1) rfl)) (fun _ h9 => h9) rfl dX7_gap_31 ?_
      refine lv_iload_n hx hb dX7_gap_34 rfl (lv_at hl 1 rfl) ?_
      obtain ⟨r35, hc35, hm⟩ := bd1_e hm
      refine k_callGVi (dC := dC) (dI := dI) (kc := kc) (As := [.int x1]) (rest := []) (Gs' := [wdX7 kc o_o w_o o_x_imageHall o_x_ahead o_x_notes o_x_imageNotes o_x_libraries o_x_reader o_x_acts o_x_tapes ohasImage olibraryCount, wdX2 kc w_o w_kind w_v w_place w_rows w_length w_first w_second w_drifts w_traits wpeople wkind wv wplace wrows wleaves wlength wfirst wsecond wdrops wstep wlibrary wdrifts wtraits]) hx hb hml hown hts hK hP hD hS hA (ctX2_gapOf (w_o := w_o) (w_kind := w_kind) (w_v := w_v) (w_place := w_place) (w_rows := w_rows) (w_length := w_length) (w_first := w_first) (w_second := w_second) (w_drifts := w_drifts) (w_traits := w_traits) (wpeople := wpeople) (wkind := wkind) (wv := wv) (wplace := wplace) (wrows := wrows) (wleaves := wleaves) (wlength := wlength) (wfirst := wfirst) (wsecond := wsecond) (wdrops := wdrops) (wstep := wstep) (wlibrary := wlibrary) (wdrifts := wdrifts) (wtraits := wtraits) (x1 := x1) hc35) (cwV 1 hts gX7_gap_X2_gapOf rfl rfl rfl (by decide +kernel) ⟨Nat.le_of_ble_eq_true rfl, Nat.le_of_ble_eq_true rfl⟩) [1] rfl (by decide) 2 rfl rfl rfl rfl hl rfl (Nat.le_of_ble_eq_true rfl) dX7_gap_35 ⟨Nat.zero_le _, Nat.zero_le _⟩ rfl rfl rfl (fun H locs hP hD hS => ?_)
      cases hm
      exact k_iret hx hb hr hlocks hP hS dX7_gap_38
    · replace hm := it_t c23 hm
      refine lv_sipush (v := (-10003)) hx hb dX7_gap_26 (by decide) ?_
      cases hm
      exact k_iret hx hb hr hlocks hP hS dX7_gap_29
  · replace hm := it_t c8 hm
    refine lv_sipush (v := (-10001)) hx hb dX7_gap_11 (by decide) ?_
    cases hm
    exact k_iret hx hb hr hlocks hP hS dX7_gap_14
def fX7_hold (wpeople : Int32) (wplace : Nat → Int32) (wleaves : Int32) (wlength : Nat → Int32) (wfirst : Nat → Int32) (wsecond : Nat → Int32) (x1 : Int32) (x2 : Int32) (x3 : Int32) : Option (Int32 × (Nat → Int32) × (Nat → Int32)) := bd1 (fX2_isLeaf wleaves x1) (fun r5 => if r5 = 0 then (some (((-1) : Int32), wfirst, wsecond)) else (bd1 (fX2_isPerson wpeople x2) (fun r16 => if r16 = 0 then (some (((-1) : Int32), wfirst, wsecond)) else (bd1 (fX2_isPerson wpeople x3) (fun r27 => if r27 = 0 then (some (((-1) : Int32), wfirst, wsecond)) else (if x2 = x3 then (some (((-2) : Int32), wfirst, wsecond)) else (bd2 (fX2_give wfirst wsecond x1 x2 x3) (fun wfirst_50 wsecond_50 => bd1 (fX2_isTaut wplace wlength wfirst_50 wsecond_50 x1) (fun r58 => if r58 = 0 then (some ((0 : Int32), wfirst_50, wsecond_50)) else (some ((1 : Int32), wfirst_50, wsecond_50)))))))))))
theorem hinX7_hold_X7 : ∀ w ∈ u_ws RX7 TX7 11, w ∈ wsX7_hold := fun _ h => List.mem_cons_of_mem _ (List.mem_append_left _ (List.mem_append_right _ h))
abbrev rmX7_hold : Room := { frames := 3, cells := 0, slots := 0, locals := 55 }
set_option maxHeartbeats 4000000 in
set_option maxRecDepth 100000 in
theorem ctX7_hold {l : Launch} {dC : Nat → ClassId} {dI : Nat → Nat → Nat} {kc : Nat → ClassId} {o_o w_o w_kind w_v w_place w_rows w_length w_first w_second w_drifts w_traits o_x_imageHall o_x_ahead o_x_notes o_x_imageNotes o_x_libraries o_x_reader o_x_acts o_x_tapes : Nat} {ohasImage : Int32} {olibraryCount : Int32} {wpeople : Int32} {wkind : Nat → Int32} {wv : Nat → Int32} {wplace : Nat → Int32} {wrows : Nat → Int32} {wleaves : Int32} {wlength : Nat → Int32} {wfirst : Nat → Int32} {wsecond : Nat → Int32} {wdrops : Int32} {wstep : Int32} {wlibrary : Option Nat} {wdrifts : Nat → Int32} {wtraits : Nat → Int32} {x1 : Int32} {x2 : Int32} {x3 : Int32} {r : Int32} {wfirst' : Nat → Int32} {wsecond' : Nat → Int32} (hm : fX7_hold wpeople wplace wleaves wlength wfirst wsecond x1 x2 x3 = some (r, wfirst', wsecond')) : ∀ sz : Nat, Met l yX7_hold wsX7_hold rmX7_hold (kPc dC dI kc [.ref o_o, .int x1, .int x2, .int x3] (fl [wdX7 kc o_o w_o o_x_imageHall o_x_ahead o_x_notes o_x_imageNotes o_x_libraries o_x_reader o_x_acts o_x_tapes ohasImage olibraryCount, wdX2 kc w_o w_kind w_v w_place w_rows w_length w_first w_second w_drifts w_traits wpeople wkind wv wplace wrows wleaves wlength wfirst wsecond wdrops wstep wlibrary wdrifts wtraits]) sz) (kQi dC dI r (fl [wdX7 kc o_o w_o o_x_imageHall o_x_ahead o_x_notes o_x_imageNotes o_x_libraries o_x_reader o_x_acts o_x_tapes ohasImage olibraryCount, wdX2 kc w_o w_kind w_v w_place w_rows w_length w_first w_second w_drifts w_traits wpeople wkind wv wplace wrows wleaves wlength wfirst' wsecond' wdrops wstep wlibrary wdrifts wtraits]) (va_A (fl [wdX7 kc o_o w_o o_x_imageHall o_x_ahead o_x_notes o_x_imageNotes o_x_libraries o_x_reader o_x_acts o_x_tapes ohasImage olibraryCount, wdX2 kc w_o w_kind w_v w_place w_rows w_length w_first w_second w_drifts w_traits wpeople wkind wv wplace wrows wleaves wlength wfirst wsecond wdrops wstep wlibrary wdrifts wtraits]) sz)) 0 0 (va_A (fl [wdX7 kc o_o w_o o_x_imageHall o_x_ahead o_x_notes o_x_imageNotes o_x_libraries o_x_reader o_x_acts o_x_tapes ohasImage olibraryCount, wdX2 kc w_o w_kind w_v w_place w_rows w_length w_first w_second w_drifts w_traits wpeople wkind wv wplace wrows wleaves wlength wfirst wsecond wdrops wstep wlibrary wdrifts wtraits]) sz) := by
  intro sz
  refine kMet (cc := cX7_hold) (maxL := 4) (ret := (some .int)) (Qf := fun A => kQi dC dI r (fl [wdX7 kc o_o w_o o_x_imageHall o_x_ahead o_x_notes o_x_imageNotes o_x_libraries o_x_reader o_x_acts o_x_tapes ohasImage olibraryCount, wdX2 kc w_o w_kind w_v w_place w_rows w_length w_first w_second w_drifts w_traits wpeople wkind wv wplace wrows wleaves wlength wfirst' wsecond' wdrops wstep wlibrary wdrifts wtraits]) A) (by decide) rfl (Nat.le_of_ble_eq_true rfl) ?_
  intro p e s m below meth c A ls hx hb hr hml hts hown hlocks hname hsz hA hP hK hD hl
  have hS : va_S A s.heap s.heap [] := va_S.rf
  have hl : lv_has ls 4 [(0, .ref o_o), (1, .int x1), (2, .int x2), (3, .int x3)] := hl
  unfold fX7_hold at hm
  refine lv_aload_n hx hb dX7_hold_0 rfl (lv_at hl 0 rfl) ?_
  refine va_get (D := (dC, dI)) (ci := 7) (v := .ref w_o) (C := RX7) (T := TX7) (N := 11) hx hb hts hinX7_hold_X7 hown hK hP 0 rfl rfl 0 (by decide) (hts _ (List.mem_of_getElem? (i := 1) rfl)) (fun _ h9 => h9) rfl dX7_hold_1 ?_
  refine lv_iload_n hx hb dX7_hold_4 rfl (lv_at hl 1 rfl) ?_
  obtain ⟨r5, hc5, hm⟩ := bd1_e hm
  refine k_callGVi (dC := dC) (dI := dI) (kc := kc) (As := [.int x1]) (rest := []) (Gs' := [wdX7 kc o_o w_o o_x_imageHall o_x_ahead o_x_notes o_x_imageNotes o_x_libraries o_x_reader o_x_acts o_x_tapes ohasImage olibraryCount, wdX2 kc w_o w_kind w_v w_place w_rows w_length w_first w_second w_drifts w_traits wpeople wkind wv wplace wrows wleaves wlength wfirst wsecond wdrops wstep wlibrary wdrifts wtraits]) hx hb hml hown hts hK hP hD hS hA (ctX2_isLeaf (w_o := w_o) (w_kind := w_kind) (w_v := w_v) (w_place := w_place) (w_rows := w_rows) (w_length := w_length) (w_first := w_first) (w_second := w_second) (w_drifts := w_drifts) (w_traits := w_traits) (wpeople := wpeople) (wkind := wkind) (wv := wv) (wplace := wplace) (wrows := wrows) (wleaves := wleaves) (wlength := wlength) (wfirst := wfirst) (wsecond := wsecond) (wdrops := wdrops) (wstep := wstep) (wlibrary := wlibrary) (wdrifts := wdrifts) (wtraits := wtraits) (x1 := x1) hc5) (cwV 1 hts gX7_hold_X2_isLeaf rfl rfl rfl (by decide +kernel) ⟨Nat.le_of_ble_eq_true rfl, Nat.le_of_ble_eq_true rfl⟩) [1] rfl (by decide) 2 rfl rfl rfl rfl hl rfl (Nat.le_of_ble_eq_true rfl) dX7_hold_5 ⟨Nat.zero_le _, Nat.zero_le _⟩ rfl rfl rfl (fun H locs hP hD hS => ?_)
  refine lv_if_eq (tgt := 33) hx hb dX7_hold_8 (by decide) (fun c8 => ?_) (fun c8 => ?_)
  · replace hm := it_t c8 hm
    refine lv_iconst (v := (-1)) hx hb dX7_hold_33 (by decide) ?_
    cases hm
    exact k_iret hx hb hr hlocks hP hS dX7_hold_34
  · replace hm := it_f c8 hm
    refine lv_aload_n hx hb dX7_hold_11 rfl (lv_at hl 0 rfl) ?_
    refine va_get (D := (dC, dI)) (ci := 7) (v := .ref w_o) (C := RX7) (T := TX7) (N := 11) hx hb hts hinX7_hold_X7 hown hK hP 0 rfl rfl 0 (by decide) (hts _ (List.mem_of_getElem? (i := 1) rfl)) (fun _ h9 => h9) rfl dX7_hold_12 ?_
    refine lv_iload_n hx hb dX7_hold_15 rfl (lv_at hl 2 rfl) ?_
    obtain ⟨r16, hc16, hm⟩ := bd1_e hm
    refine k_callGVi (dC := dC) (dI := dI) (kc := kc) (As := [.int x2]) (rest := []) (Gs' := [wdX7 kc o_o w_o o_x_imageHall o_x_ahead o_x_notes o_x_imageNotes o_x_libraries o_x_reader o_x_acts o_x_tapes ohasImage olibraryCount, wdX2 kc w_o w_kind w_v w_place w_rows w_length w_first w_second w_drifts w_traits wpeople wkind wv wplace wrows wleaves wlength wfirst wsecond wdrops wstep wlibrary wdrifts wtraits]) hx hb hml hown hts hK hP hD hS hA (ctX2_isPerson (w_o := w_o) (w_kind := w_kind) (w_v := w_v) (w_place := w_place) (w_rows := w_rows) (w_length := w_length) (w_first := w_first) (w_second := w_second) (w_drifts := w_drifts) (w_traits := w_traits) (wpeople := wpeople) (wkind := wkind) (wv := wv) (wplace := wplace) (wrows := wrows) (wleaves := wleaves) (wlength := wlength) (wfirst := wfirst) (wsecond := wsecond) (wdrops := wdrops) (wstep := wstep) (wlibrary := wlibrary) (wdrifts := wdrifts) (wtraits := wtraits) (x1 := x2) hc16) (cwV 1 hts gX7_hold_X2_isPerson rfl rfl rfl (by decide +kernel) ⟨Nat.le_of_ble_eq_true rfl, Nat.le_of_ble_eq_true rfl⟩) [1] rfl (by decide) 2 rfl rfl rfl rfl hl rfl (Nat.le_of_ble_eq_true rfl) dX7_hold_16 ⟨Nat.zero_le _, Nat.zero_le _⟩ rfl rfl rfl (fun H locs hP hD hS => ?_)
    refine lv_if_eq (tgt := 33) hx hb dX7_hold_19 (by decide) (fun c19 => ?_) (fun c19 => ?_)
    · replace hm := it_t c19 hm
      refine lv_iconst (v := (-1)) hx hb dX7_hold_33 (by decide) ?_
      cases hm
      exact k_iret hx hb hr hlocks hP hS dX7_hold_34
    · replace hm := it_f c19 hm
      refine lv_aload_n hx hb dX7_hold_22 rfl (lv_at hl 0 rfl) ?_
      refine va_get (D := (dC, dI)) (ci := 7) (v := .ref w_o) (C := RX7) (T := TX7) (N := 11) hx hb hts hinX7_hold_X7 hown hK hP 0 rfl rfl 0 (by decide) (hts _ (List.mem_of_getElem? (i := 1) rfl)) (fun _ h9 => h9) rfl dX7_hold_23 ?_
      refine lv_iload_n hx hb dX7_hold_26 rfl (lv_at hl 3 rfl) ?_
      obtain ⟨r27, hc27, hm⟩ := bd1_e hm
      refine k_callGVi (dC := dC) (dI := dI) (kc := kc) (As := [.int x3]) (rest := []) (Gs' := [wdX7 kc o_o w_o o_x_imageHall o_x_ahead o_x_notes o_x_imageNotes o_x_libraries o_x_reader o_x_acts o_x_tapes ohasImage olibraryCount, wdX2 kc w_o w_kind w_v w_place w_rows w_length w_first w_second w_drifts w_traits wpeople wkind wv wplace wrows wleaves wlength wfirst wsecond wdrops wstep wlibrary wdrifts wtraits]) hx hb hml hown hts hK hP hD hS hA (ctX2_isPerson (w_o := w_o) (w_kind := w_kind) (w_v := w_v) (w_place := w_place) (w_rows := w_rows) (w_length := w_length) (w_first := w_first) (w_second := w_second) (w_drifts := w_drifts) (w_traits := w_traits) (wpeople := wpeople) (wkind := wkind) (wv := wv) (wplace := wplace) (wrows := wrows) (wleaves := wleaves) (wlength := wlength) (wfirst := wfirst) (wsecond := wsecond) (wdrops := wdrops) (wstep := wstep) (wlibrary := wlibrary) (wdrifts := wdrifts) (wtraits := wtraits) (x1 := x3) hc27) (cwV 1 hts gX7_hold_X2_isPerson rfl rfl rfl (by decide +kernel) ⟨Nat.le_of_ble_eq_true rfl, Nat.le_of_ble_eq_true rfl⟩) [1] rfl (by decide) 2 rfl rfl rfl rfl hl rfl (Nat.le_of_ble_eq_true rfl) dX7_hold_27 ⟨Nat.zero_le _, Nat.zero_le _⟩ rfl rfl rfl (fun H locs hP hD hS => ?_)
      refine lv_if_ne (tgt := 35) hx hb dX7_hold_30 (by decide) (fun c30 => ?_) (fun c30 => ?_)
      · replace hm := it_f c30 hm
        refine lv_iload_n hx hb dX7_hold_35 rfl (lv_at hl 2 rfl) ?_
        refine lv_iload_n hx hb dX7_hold_36 rfl (lv_at hl 3 rfl) ?_
        refine lv_icmp_ne (tgt := 43) hx hb dX7_hold_37 (by decide) (fun c37 => ?_) (fun c37 => ?_)
        · replace hm := it_f c37 hm
          refine lv_aload_n hx hb dX7_hold_43 rfl (lv_at hl 0 rfl) ?_
          refine va_get (D := (dC, dI)) (ci := 7) (v := .ref w_o) (C := RX7) (T := TX7) (N := 11) hx hb hts hinX7_hold_X7 hown hK hP 0 rfl rfl 0 (by decide) (hts _ (List.mem_of_getElem? (i := 1) rfl)) (fun _ h9 => h9) rfl dX7_hold_44 ?_
          refine lv_iload_n hx hb dX7_hold_47 rfl (lv_at hl 1 rfl) ?_
          refine lv_iload_n hx hb dX7_hold_48 rfl (lv_at hl 2 rfl) ?_
          refine lv_iload_n hx hb dX7_hold_49 rfl (lv_at hl 3 rfl) ?_
          obtain ⟨wfirst_50, wsecond_50, hc50, hm⟩ := bd2_e hm
          refine k_callGVv (dC := dC) (dI := dI) (kc := kc) (As := [.int x1, .int x2, .int x3]) (rest := []) (Gs' := [wdX7 kc o_o w_o o_x_imageHall o_x_ahead o_x_notes o_x_imageNotes o_x_libraries o_x_reader o_x_acts o_x_tapes ohasImage olibraryCount, wdX2 kc w_o w_kind w_v w_place w_rows w_length w_first w_second w_drifts w_traits wpeople wkind wv wplace wrows wleaves wlength wfirst_50 wsecond_50 wdrops wstep wlibrary wdrifts wtraits]) hx hb hml hown hts hK hP hD hS hA (ctX2_give (w_o := w_o) (w_kind := w_kind) (w_v := w_v) (w_place := w_place) (w_rows := w_rows) (w_length := w_length) (w_first := w_first) (w_second := w_second) (w_drifts := w_drifts) (w_traits := w_traits) (wpeople := wpeople) (wkind := wkind) (wv := wv) (wplace := wplace) (wrows := wrows) (wleaves := wleaves) (wlength := wlength) (wfirst := wfirst) (wsecond := wsecond) (wdrops := wdrops) (wstep := wstep) (wlibrary := wlibrary) (wdrifts := wdrifts) (wtraits := wtraits) (x1 := x1) (x2 := x2) (x3 := x3) hc50) (cwV 3 hts gX7_hold_X2_give rfl rfl rfl (by decide +kernel) ⟨Nat.le_of_ble_eq_true rfl, Nat.le_of_ble_eq_true rfl⟩) [1] rfl (by decide) 2 rfl rfl rfl rfl hl rfl (Nat.le_of_ble_eq_true rfl) dX7_hold_50 ⟨Nat.zero_le _, Nat.zero_le _⟩ rfl rfl rfl (fun H locs hP hD hS => ?_)
          refine lv_aload_n hx hb dX7_hold_53 rfl (lv_at hl 0 rfl) ?_
          refine va_get (D := (dC, dI)) (ci := 7) (v := .ref w_o) (C := RX7) (T := TX7) (N := 11) hx hb hts hinX7_hold_X7 hown hK hP 0 rfl rfl 0 (by decide) (hts _ (List.mem_of_getElem? (i := 1) rfl)) (fun _ h9 => h9) rfl dX7_hold_54 ?_
          refine lv_iload_n hx hb dX7_hold_57 rfl (lv_at hl 1 rfl) ?_
          obtain ⟨r58, hc58, hm⟩ := bd1_e hm
          refine k_callGVi (dC := dC) (dI := dI) (kc := kc) (As := [.int x1]) (rest := []) (Gs' := [wdX7 kc o_o w_o o_x_imageHall o_x_ahead o_x_notes o_x_imageNotes o_x_libraries o_x_reader o_x_acts o_x_tapes ohasImage olibraryCount, wdX2 kc w_o w_kind w_v w_place w_rows w_length w_first w_second w_drifts w_traits wpeople wkind wv wplace wrows wleaves wlength wfirst_50 wsecond_50 wdrops wstep wlibrary wdrifts wtraits]) hx hb hml hown hts hK hP hD hS hA (ctX2_isTaut (w_o := w_o) (w_kind := w_kind) (w_v := w_v) (w_place := w_place) (w_rows := w_rows) (w_length := w_length) (w_first := w_first) (w_second := w_second) (w_drifts := w_drifts) (w_traits := w_traits) (wpeople := wpeople) (wkind := wkind) (wv := wv) (wplace := wplace) (wrows := wrows) (wleaves := wleaves) (wlength := wlength) (wfirst := wfirst_50) (wsecond := wsecond_50) (wdrops := wdrops) (wstep := wstep) (wlibrary := wlibrary) (wdrifts := wdrifts) (wtraits := wtraits) (x1 := x1) hc58) (cwV 1 hts gX7_hold_X2_isTaut rfl rfl rfl (by decide +kernel) ⟨Nat.le_of_ble_eq_true rfl, Nat.le_of_ble_eq_true rfl⟩) [1] rfl (by decide) 2 rfl rfl rfl rfl hl rfl (Nat.le_of_ble_eq_true rfl) dX7_hold_58 ⟨Nat.zero_le _, Nat.zero_le _⟩ rfl rfl rfl (fun H locs hP hD hS => ?_)
          refine lv_if_eq (tgt := 68) hx hb dX7_hold_61 (by decide) (fun c61 => ?_) (fun c61 => ?_)
          · replace hm := it_t c61 hm
            refine lv_iconst (v := 0) hx hb dX7_hold_68 (by decide) ?_
            cases hm
            exact k_iret hx hb hr hlocks hP hS dX7_hold_69
          · replace hm := it_f c61 hm
            refine lv_iconst (v := 1) hx hb dX7_hold_64 (by decide) ?_
            refine lv_goto (tgt := 69) hx hb dX7_hold_65 (by decide) ?_
            cases hm
            exact k_iret hx hb hr hlocks hP hS dX7_hold_69
        · replace hm := it_t c37 hm
          refine lv_bipush (v := (-2)) hx hb dX7_hold_40 (by decide) ?_
          cases hm
          exact k_iret hx hb hr hlocks hP hS dX7_hold_42
      · replace hm := it_t c30 hm
        refine lv_iconst (v := (-1)) hx hb dX7_hold_33 (by decide) ?_
        cases hm
        exact k_iret hx hb hr hlocks hP hS dX7_hold_34
def fX7_free (wleaves : Int32) (wfirst : Nat → Int32) (wsecond : Nat → Int32) (x1 : Int32) : Option (Int32 × (Nat → Int32) × (Nat → Int32)) := bd1 (fX2_isLeaf wleaves x1) (fun r5 => if r5 = 0 then (some (((-1) : Int32), wfirst, wsecond)) else (bd1 (fX2_isHeld wfirst x1) (fun r18 => if r18 = 0 then (some (((-3) : Int32), wfirst, wsecond)) else (gd (inb x1 4) (bd2 (fX2_letGo wfirst wsecond x1) (fun wfirst_42 wsecond_42 => some (wsecond (x1.toNatClampNeg), wfirst_42, wsecond_42)))))))
theorem hinX7_free_X2 : ∀ w ∈ u_ws RX2 TX2 14, w ∈ wsX7_free := fun _ h => List.mem_cons_of_mem _ (List.mem_append_right _ h)
theorem hinX7_free_X7 : ∀ w ∈ u_ws RX7 TX7 11, w ∈ wsX7_free := fun _ h => List.mem_cons_of_mem _ (List.mem_append_left _ (List.mem_append_right _ h))
abbrev rmX7_free : Room := { frames := 2, cells := 0, slots := 0, locals := 56 }
set_option maxHeartbeats 4000000 in
set_option maxRecDepth 100000 in
theorem ctX7_free {l : Launch} {dC : Nat → ClassId} {dI : Nat → Nat → Nat} {kc : Nat → ClassId} {o_o w_o w_kind w_v w_place w_rows w_length w_first w_second w_drifts w_traits o_x_imageHall o_x_ahead o_x_notes o_x_imageNotes o_x_libraries o_x_reader o_x_acts o_x_tapes : Nat} {ohasImage : Int32} {olibraryCount : Int32} {wpeople : Int32} {wkind : Nat → Int32} {wv : Nat → Int32} {wplace : Nat → Int32} {wrows : Nat → Int32} {wleaves : Int32} {wlength : Nat → Int32} {wfirst : Nat → Int32} {wsecond : Nat → Int32} {wdrops : Int32} {wstep : Int32} {wlibrary : Option Nat} {wdrifts : Nat → Int32} {wtraits : Nat → Int32} {x1 : Int32} {r : Int32} {wfirst' : Nat → Int32} {wsecond' : Nat → Int32} (hm : fX7_free wleaves wfirst wsecond x1 = some (r, wfirst', wsecond')) : ∀ sz : Nat, Met l yX7_free wsX7_free rmX7_free (kPc dC dI kc [.ref o_o, .int x1] (fl [wdX7 kc o_o w_o o_x_imageHall o_x_ahead o_x_notes o_x_imageNotes o_x_libraries o_x_reader o_x_acts o_x_tapes ohasImage olibraryCount, wdX2 kc w_o w_kind w_v w_place w_rows w_length w_first w_second w_drifts w_traits wpeople wkind wv wplace wrows wleaves wlength wfirst wsecond wdrops wstep wlibrary wdrifts wtraits]) sz) (kQi dC dI r (fl [wdX7 kc o_o w_o o_x_imageHall o_x_ahead o_x_notes o_x_imageNotes o_x_libraries o_x_reader o_x_acts o_x_tapes ohasImage olibraryCount, wdX2 kc w_o w_kind w_v w_place w_rows w_length w_first w_second w_drifts w_traits wpeople wkind wv wplace wrows wleaves wlength wfirst' wsecond' wdrops wstep wlibrary wdrifts wtraits]) (va_A (fl [wdX7 kc o_o w_o o_x_imageHall o_x_ahead o_x_notes o_x_imageNotes o_x_libraries o_x_reader o_x_acts o_x_tapes ohasImage olibraryCount, wdX2 kc w_o w_kind w_v w_place w_rows w_length w_first w_second w_drifts w_traits wpeople wkind wv wplace wrows wleaves wlength wfirst wsecond wdrops wstep wlibrary wdrifts wtraits]) sz)) 0 0 (va_A (fl [wdX7 kc o_o w_o o_x_imageHall o_x_ahead o_x_notes o_x_imageNotes o_x_libraries o_x_reader o_x_acts o_x_tapes ohasImage olibraryCount, wdX2 kc w_o w_kind w_v w_place w_rows w_length w_first w_second w_drifts w_traits wpeople wkind wv wplace wrows wleaves wlength wfirst wsecond wdrops wstep wlibrary wdrifts wtraits]) sz) := by
  intro sz
  refine kMet (cc := cX7_free) (maxL := 3) (ret := (some .int)) (Qf := fun A => kQi dC dI r (fl [wdX7 kc o_o w_o o_x_imageHall o_x_ahead o_x_notes o_x_imageNotes o_x_libraries o_x_reader o_x_acts o_x_tapes ohasImage olibraryCount, wdX2 kc w_o w_kind w_v w_place w_rows w_length w_first w_second w_drifts w_traits wpeople wkind wv wplace wrows wleaves wlength wfirst' wsecond' wdrops wstep wlibrary wdrifts wtraits]) A) (by decide) rfl (Nat.le_of_ble_eq_true rfl) ?_
  intro p e s m below meth c A ls hx hb hr hml hts hown hlocks hname hsz hA hP hK hD hl
  have hS : va_S A s.heap s.heap [] := va_S.rf
  have hl : lv_has ls 3 [(0, .ref o_o), (1, .int x1)] := hl
  unfold fX7_free at hm
  refine lv_aload_n hx hb dX7_free_0 rfl (lv_at hl 0 rfl) ?_
  refine va_get (D := (dC, dI)) (ci := 7) (v := .ref w_o) (C := RX7) (T := TX7) (N := 11) hx hb hts hinX7_free_X7 hown hK hP 0 rfl rfl 0 (by decide) (hts _ (List.mem_of_getElem? (i := 1) rfl)) (fun _ h9 => h9) rfl dX7_free_1 ?_
  refine lv_iload_n hx hb dX7_free_4 rfl (lv_at hl 1 rfl) ?_
  obtain ⟨r5, hc5, hm⟩ := bd1_e hm
  refine k_callGVi (dC := dC) (dI := dI) (kc := kc) (As := [.int x1]) (rest := []) (Gs' := [wdX7 kc o_o w_o o_x_imageHall o_x_ahead o_x_notes o_x_imageNotes o_x_libraries o_x_reader o_x_acts o_x_tapes ohasImage olibraryCount, wdX2 kc w_o w_kind w_v w_place w_rows w_length w_first w_second w_drifts w_traits wpeople wkind wv wplace wrows wleaves wlength wfirst wsecond wdrops wstep wlibrary wdrifts wtraits]) hx hb hml hown hts hK hP hD hS hA (ctX2_isLeaf (w_o := w_o) (w_kind := w_kind) (w_v := w_v) (w_place := w_place) (w_rows := w_rows) (w_length := w_length) (w_first := w_first) (w_second := w_second) (w_drifts := w_drifts) (w_traits := w_traits) (wpeople := wpeople) (wkind := wkind) (wv := wv) (wplace := wplace) (wrows := wrows) (wleaves := wleaves) (wlength := wlength) (wfirst := wfirst) (wsecond := wsecond) (wdrops := wdrops) (wstep := wstep) (wlibrary := wlibrary) (wdrifts := wdrifts) (wtraits := wtraits) (x1 := x1) hc5) (cwV 1 hts gX7_free_X2_isLeaf rfl rfl rfl (by decide +kernel) ⟨Nat.le_of_ble_eq_true rfl, Nat.le_of_ble_eq_true rfl⟩) [1] rfl (by decide) 2 rfl rfl rfl rfl hl rfl (Nat.le_of_ble_eq_true rfl) dX7_free_5 ⟨Nat.zero_le _, Nat.zero_le _⟩ rfl rfl rfl (fun H locs hP hD hS => ?_)
  refine lv_if_ne (tgt := 13) hx hb dX7_free_8 (by decide) (fun c8 => ?_) (fun c8 => ?_)
  · replace hm := it_f c8 hm
    refine lv_aload_n hx hb dX7_free_13 rfl (lv_at hl 0 rfl) ?_
    refine va_get (D := (dC, dI)) (ci := 7) (v := .ref w_o) (C := RX7) (T := TX7) (N := 11) hx hb hts hinX7_free_X7 hown hK hP 0 rfl rfl 0 (by decide) (hts _ (List.mem_of_getElem? (i := 1) rfl)) (fun _ h9 => h9) rfl dX7_free_14 ?_
    refine lv_iload_n hx hb dX7_free_17 rfl (lv_at hl 1 rfl) ?_
    obtain ⟨r18, hc18, hm⟩ := bd1_e hm
    refine k_callGVi (dC := dC) (dI := dI) (kc := kc) (As := [.int x1]) (rest := []) (Gs' := [wdX7 kc o_o w_o o_x_imageHall o_x_ahead o_x_notes o_x_imageNotes o_x_libraries o_x_reader o_x_acts o_x_tapes ohasImage olibraryCount, wdX2 kc w_o w_kind w_v w_place w_rows w_length w_first w_second w_drifts w_traits wpeople wkind wv wplace wrows wleaves wlength wfirst wsecond wdrops wstep wlibrary wdrifts wtraits]) hx hb hml hown hts hK hP hD hS hA (ctX2_isHeld (w_o := w_o) (w_kind := w_kind) (w_v := w_v) (w_place := w_place) (w_rows := w_rows) (w_length := w_length) (w_first := w_first) (w_second := w_second) (w_drifts := w_drifts) (w_traits := w_traits) (wpeople := wpeople) (wkind := wkind) (wv := wv) (wplace := wplace) (wrows := wrows) (wleaves := wleaves) (wlength := wlength) (wfirst := wfirst) (wsecond := wsecond) (wdrops := wdrops) (wstep := wstep) (wlibrary := wlibrary) (wdrifts := wdrifts) (wtraits := wtraits) (x1 := x1) hc18) (cwV 1 hts gX7_free_X2_isHeld rfl rfl rfl (by decide +kernel) ⟨Nat.le_of_ble_eq_true rfl, Nat.le_of_ble_eq_true rfl⟩) [1] rfl (by decide) 2 rfl rfl rfl rfl hl rfl (Nat.le_of_ble_eq_true rfl) dX7_free_18 ⟨Nat.zero_le _, Nat.zero_le _⟩ rfl rfl rfl (fun H locs hP hD hS => ?_)
    refine lv_if_ne (tgt := 27) hx hb dX7_free_21 (by decide) (fun c21 => ?_) (fun c21 => ?_)
    · replace hm := it_f c21 hm
      refine lv_aload_n hx hb dX7_free_27 rfl (lv_at hl 0 rfl) ?_
      refine va_get (D := (dC, dI)) (ci := 7) (v := .ref w_o) (C := RX7) (T := TX7) (N := 11) hx hb hts hinX7_free_X7 hown hK hP 0 rfl rfl 0 (by decide) (hts _ (List.mem_of_getElem? (i := 1) rfl)) (fun _ h9 => h9) rfl dX7_free_28 ?_
      refine va_get (D := (dC, dI)) (ci := 2) (v := .ref w_second) (C := RX2) (T := TX2) (N := 14) hx hb hts hinX7_free_X2 hown hK hP 1 rfl rfl 8 (by decide) (hts _ (List.mem_of_getElem? (i := 2) rfl)) (fun _ h9 => h9) rfl dX7_free_31 ?_
      refine lv_iload_n hx hb dX7_free_34 rfl (lv_at hl 1 rfl) ?_
      obtain ⟨hg35, hm⟩ := gd_e hm
      refine k_iald (D := (dC, dI)) hx hb hK hP 8 1 rfl rfl (k := x1.toNatClampNeg) rfl hg35 dX7_free_35 ?_
      refine lv_istore_n (lv' := [(2, .int (wsecond (x1.toNatClampNeg))), (0, .ref o_o), (1, .int x1)]) hx hb dX7_free_36 rfl hl (by decide) rfl (fun ls hl => ?_)
      refine lv_aload_n hx hb dX7_free_37 rfl (lv_at hl 1 rfl) ?_
      refine va_get (D := (dC, dI)) (ci := 7) (v := .ref w_o) (C := RX7) (T := TX7) (N := 11) hx hb hts hinX7_free_X7 hown hK hP 0 rfl rfl 0 (by decide) (hts _ (List.mem_of_getElem? (i := 1) rfl)) (fun _ h9 => h9) rfl dX7_free_38 ?_
      refine lv_iload_n hx hb dX7_free_41 rfl (lv_at hl 2 rfl) ?_
      obtain ⟨wfirst_42, wsecond_42, hc42, hm⟩ := bd2_e hm
      refine k_callGVv (dC := dC) (dI := dI) (kc := kc) (As := [.int x1]) (rest := []) (Gs' := [wdX7 kc o_o w_o o_x_imageHall o_x_ahead o_x_notes o_x_imageNotes o_x_libraries o_x_reader o_x_acts o_x_tapes ohasImage olibraryCount, wdX2 kc w_o w_kind w_v w_place w_rows w_length w_first w_second w_drifts w_traits wpeople wkind wv wplace wrows wleaves wlength wfirst_42 wsecond_42 wdrops wstep wlibrary wdrifts wtraits]) hx hb hml hown hts hK hP hD hS hA (ctX2_letGo (w_o := w_o) (w_kind := w_kind) (w_v := w_v) (w_place := w_place) (w_rows := w_rows) (w_length := w_length) (w_first := w_first) (w_second := w_second) (w_drifts := w_drifts) (w_traits := w_traits) (wpeople := wpeople) (wkind := wkind) (wv := wv) (wplace := wplace) (wrows := wrows) (wleaves := wleaves) (wlength := wlength) (wfirst := wfirst) (wsecond := wsecond) (wdrops := wdrops) (wstep := wstep) (wlibrary := wlibrary) (wdrifts := wdrifts) (wtraits := wtraits) (x1 := x1) hc42) (cwV 1 hts gX7_free_X2_letGo rfl rfl rfl (by decide +kernel) ⟨Nat.le_of_ble_eq_true rfl, Nat.le_of_ble_eq_true rfl⟩) [1] rfl (by decide) 2 rfl rfl rfl rfl hl rfl (Nat.le_of_ble_eq_true rfl) dX7_free_42 ⟨Nat.zero_le _, Nat.zero_le _⟩ rfl rfl rfl (fun H locs hP hD hS => ?_)
      refine lv_iload_n hx hb dX7_free_45 rfl (lv_at hl 0 rfl) ?_
      cases hm
      exact k_iret hx hb hr hlocks hP hS dX7_free_46
    · replace hm := it_t c21 hm
      refine lv_bipush (v := (-3)) hx hb dX7_free_24 (by decide) ?_
      cases hm
      exact k_iret hx hb hr hlocks hP hS dX7_free_26
  · replace hm := it_t c8 hm
    refine lv_iconst (v := (-1)) hx hb dX7_free_11 (by decide) ?_
    cases hm
    exact k_iret hx hb hr hlocks hP hS dX7_free_12
def fX7_walk (wpeople : Int32) (wplace : Nat → Int32) (x1 : Int32) (x2 : Int32) : Option (Int32 × (Nat → Int32)) := bd1 (fX2_isPerson wpeople x1) (fun r5 => if r5 = 0 then (some (((-1) : Int32), wplace)) else (bd1 (fX7_isWithin x2 99) (fun r16 => if r16 = 0 then (some (((-2) : Int32), wplace)) else (gd (inb x1 6) (gd (inb x1 6) (some (wplace (x1.toNatClampNeg), upd wplace (x1.toNatClampNeg) x2)))))))
theorem hinX7_walk_X2 : ∀ w ∈ u_ws RX2 TX2 14, w ∈ wsX7_walk := fun _ h => List.mem_cons_of_mem _ (List.mem_append_right _ h)
theorem hinX7_walk_X7 : ∀ w ∈ u_ws RX7 TX7 11, w ∈ wsX7_walk := fun _ h => List.mem_cons_of_mem _ (List.mem_append_left _ (List.mem_append_right _ h))
abbrev rmX7_walk : Room := { frames := 1, cells := 0, slots := 0, locals := 33 }
set_option maxHeartbeats 4000000 in
set_option maxRecDepth 100000 in
theorem ctX7_walk {l : Launch} {dC : Nat → ClassId} {dI : Nat → Nat → Nat} {kc : Nat → ClassId} {o_o w_o w_kind w_v w_place w_rows w_length w_first w_second w_drifts w_traits o_x_imageHall o_x_ahead o_x_notes o_x_imageNotes o_x_libraries o_x_reader o_x_acts o_x_tapes : Nat} {ohasImage : Int32} {olibraryCount : Int32} {wpeople : Int32} {wkind : Nat → Int32} {wv : Nat → Int32} {wplace : Nat → Int32} {wrows : Nat → Int32} {wleaves : Int32} {wlength : Nat → Int32} {wfirst : Nat → Int32} {wsecond : Nat → Int32} {wdrops : Int32} {wstep : Int32} {wlibrary : Option Nat} {wdrifts : Nat → Int32} {wtraits : Nat → Int32} {x1 : Int32} {x2 : Int32} {r : Int32} {wplace' : Nat → Int32} (hm : fX7_walk wpeople wplace x1 x2 = some (r, wplace')) : ∀ sz : Nat, Met l yX7_walk wsX7_walk rmX7_walk (kPc dC dI kc [.ref o_o, .int x1, .int x2] (fl [wdX7 kc o_o w_o o_x_imageHall o_x_ahead o_x_notes o_x_imageNotes o_x_libraries o_x_reader o_x_acts o_x_tapes ohasImage olibraryCount, wdX2 kc w_o w_kind w_v w_place w_rows w_length w_first w_second w_drifts w_traits wpeople wkind wv wplace wrows wleaves wlength wfirst wsecond wdrops wstep wlibrary wdrifts wtraits]) sz) (kQi dC dI r (fl [wdX7 kc o_o w_o o_x_imageHall o_x_ahead o_x_notes o_x_imageNotes o_x_libraries o_x_reader o_x_acts o_x_tapes ohasImage olibraryCount, wdX2 kc w_o w_kind w_v w_place w_rows w_length w_first w_second w_drifts w_traits wpeople wkind wv wplace' wrows wleaves wlength wfirst wsecond wdrops wstep wlibrary wdrifts wtraits]) (va_A (fl [wdX7 kc o_o w_o o_x_imageHall o_x_ahead o_x_notes o_x_imageNotes o_x_libraries o_x_reader o_x_acts o_x_tapes ohasImage olibraryCount, wdX2 kc w_o w_kind w_v w_place w_rows w_length w_first w_second w_drifts w_traits wpeople wkind wv wplace wrows wleaves wlength wfirst wsecond wdrops wstep wlibrary wdrifts wtraits]) sz)) 0 0 (va_A (fl [wdX7 kc o_o w_o o_x_imageHall o_x_ahead o_x_notes o_x_imageNotes o_x_libraries o_x_reader o_x_acts o_x_tapes ohasImage olibraryCount, wdX2 kc w_o w_kind w_v w_place w_rows w_length w_first w_second w_drifts w_traits wpeople wkind wv wplace wrows wleaves wlength wfirst wsecond wdrops wstep wlibrary wdrifts wtraits]) sz) := by
  intro sz
  refine kMet (cc := cX7_walk) (maxL := 4) (ret := (some .int)) (Qf := fun A => kQi dC dI r (fl [wdX7 kc o_o w_o o_x_imageHall o_x_ahead o_x_notes o_x_imageNotes o_x_libraries o_x_reader o_x_acts o_x_tapes ohasImage olibraryCount, wdX2 kc w_o w_kind w_v w_place w_rows w_length w_first w_second w_drifts w_traits wpeople wkind wv wplace' wrows wleaves wlength wfirst wsecond wdrops wstep wlibrary wdrifts wtraits]) A) (by decide) rfl (Nat.le_of_ble_eq_true rfl) ?_
  intro p e s m below meth c A ls hx hb hr hml hts hown hlocks hname hsz hA hP hK hD hl
  have hS : va_S A s.heap s.heap [] := va_S.rf
  have hl : lv_has ls 4 [(0, .ref o_o), (1, .int x1), (2, .int x2)] := hl
  unfold fX7_walk at hm
  refine lv_aload_n hx hb dX7_walk_0 rfl (lv_at hl 0 rfl) ?_
  refine va_get (D := (dC, dI)) (ci := 7) (v := .ref w_o) (C := RX7) (T := TX7) (N := 11) hx hb hts hinX7_walk_X7 hown hK hP 0 rfl rfl 0 (by decide) (hts _ (List.mem_of_getElem? (i := 1) rfl)) (fun _ h9 => h9) rfl dX7_walk_1 ?_
  refine lv_iload_n hx hb dX7_walk_4 rfl (lv_at hl 1 rfl) ?_
  obtain ⟨r5, hc5, hm⟩ := bd1_e hm
  refine k_callGVi (dC := dC) (dI := dI) (kc := kc) (As := [.int x1]) (rest := []) (Gs' := [wdX7 kc o_o w_o o_x_imageHall o_x_ahead o_x_notes o_x_imageNotes o_x_libraries o_x_reader o_x_acts o_x_tapes ohasImage olibraryCount, wdX2 kc w_o w_kind w_v w_place w_rows w_length w_first w_second w_drifts w_traits wpeople wkind wv wplace wrows wleaves wlength wfirst wsecond wdrops wstep wlibrary wdrifts wtraits]) hx hb hml hown hts hK hP hD hS hA (ctX2_isPerson (w_o := w_o) (w_kind := w_kind) (w_v := w_v) (w_place := w_place) (w_rows := w_rows) (w_length := w_length) (w_first := w_first) (w_second := w_second) (w_drifts := w_drifts) (w_traits := w_traits) (wpeople := wpeople) (wkind := wkind) (wv := wv) (wplace := wplace) (wrows := wrows) (wleaves := wleaves) (wlength := wlength) (wfirst := wfirst) (wsecond := wsecond) (wdrops := wdrops) (wstep := wstep) (wlibrary := wlibrary) (wdrifts := wdrifts) (wtraits := wtraits) (x1 := x1) hc5) (cwV 1 hts gX7_walk_X2_isPerson rfl rfl rfl (by decide +kernel) ⟨Nat.le_of_ble_eq_true rfl, Nat.le_of_ble_eq_true rfl⟩) [1] rfl (by decide) 2 rfl rfl rfl rfl hl rfl (Nat.le_of_ble_eq_true rfl) dX7_walk_5 ⟨Nat.zero_le _, Nat.zero_le _⟩ rfl rfl rfl (fun H locs hP hD hS => ?_)
  refine lv_if_ne (tgt := 13) hx hb dX7_walk_8 (by decide) (fun c8 => ?_) (fun c8 => ?_)
  · replace hm := it_f c8 hm
    refine lv_iload_n hx hb dX7_walk_13 rfl (lv_at hl 2 rfl) ?_
    refine lv_bipush (v := 99) hx hb dX7_walk_14 (by decide) ?_
    obtain ⟨r16, hc16, hm⟩ := bd1_e hm
    refine k_callGSi (dC := dC) (dI := dI) (kc := kc) (As := [.int x2, .int 99]) (rest := []) (Gs' := [wdX7 kc o_o w_o o_x_imageHall o_x_ahead o_x_notes o_x_imageNotes o_x_libraries o_x_reader o_x_acts o_x_tapes ohasImage olibraryCount, wdX2 kc w_o w_kind w_v w_place w_rows w_length w_first w_second w_drifts w_traits wpeople wkind wv wplace wrows wleaves wlength wfirst wsecond wdrops wstep wlibrary wdrifts wtraits]) hx hb hml hown hts hK hP hD hS hA (ctX7_isWithin (x1 := x2) (x2 := 99) hc16) (va_cwS 2 hts gX7_walk_X7_isWithin rfl rfl rfl (by decide +kernel) ⟨Nat.le_of_ble_eq_true rfl, Nat.le_of_ble_eq_true rfl⟩) [] rfl (by decide) rfl hl rfl (Nat.le_of_ble_eq_true rfl) dX7_walk_16 ⟨Nat.zero_le _, Nat.zero_le _⟩ rfl rfl rfl (fun H locs hP hD hS => ?_)
    refine lv_if_ne (tgt := 25) hx hb dX7_walk_19 (by decide) (fun c19 => ?_) (fun c19 => ?_)
    · replace hm := it_f c19 hm
      refine lv_aload_n hx hb dX7_walk_25 rfl (lv_at hl 0 rfl) ?_
      refine va_get (D := (dC, dI)) (ci := 7) (v := .ref w_o) (C := RX7) (T := TX7) (N := 11) hx hb hts hinX7_walk_X7 hown hK hP 0 rfl rfl 0 (by decide) (hts _ (List.mem_of_getElem? (i := 1) rfl)) (fun _ h9 => h9) rfl dX7_walk_26 ?_
      refine va_get (D := (dC, dI)) (ci := 2) (v := .ref w_place) (C := RX2) (T := TX2) (N := 14) hx hb hts hinX7_walk_X2 hown hK hP 1 rfl rfl 3 (by decide) (hts _ (List.mem_of_getElem? (i := 2) rfl)) (fun _ h9 => h9) rfl dX7_walk_29 ?_
      refine lv_iload_n hx hb dX7_walk_32 rfl (lv_at hl 1 rfl) ?_
      obtain ⟨hg33, hm⟩ := gd_e hm
      refine k_iald (D := (dC, dI)) hx hb hK hP 4 1 rfl rfl (k := x1.toNatClampNeg) rfl hg33 dX7_walk_33 ?_
      refine lv_istore_n (lv' := [(3, .int (wplace (x1.toNatClampNeg))), (0, .ref o_o), (1, .int x1), (2, .int x2)]) hx hb dX7_walk_34 rfl hl (by decide) rfl (fun ls hl => ?_)
      refine lv_aload_n hx hb dX7_walk_35 rfl (lv_at hl 1 rfl) ?_
      refine va_get (D := (dC, dI)) (ci := 7) (v := .ref w_o) (C := RX7) (T := TX7) (N := 11) hx hb hts hinX7_walk_X7 hown hK hP 0 rfl rfl 0 (by decide) (hts _ (List.mem_of_getElem? (i := 1) rfl)) (fun _ h9 => h9) rfl dX7_walk_36 ?_
      refine va_get (D := (dC, dI)) (ci := 2) (v := .ref w_place) (C := RX2) (T := TX2) (N := 14) hx hb hts hinX7_walk_X2 hown hK hP 1 rfl rfl 3 (by decide) (hts _ (List.mem_of_getElem? (i := 2) rfl)) (fun _ h9 => h9) rfl dX7_walk_39 ?_
      refine lv_iload_n hx hb dX7_walk_42 rfl (lv_at hl 2 rfl) ?_
      refine lv_iload_n hx hb dX7_walk_43 rfl (lv_at hl 3 rfl) ?_
      obtain ⟨hg44, hm⟩ := gd_e hm
      refine k_iast (D := (dC, dI)) hx hb hK hP hD hS 4 1 rfl rfl (k := x1.toNatClampNeg) rfl hg44 dX7_walk_44 (fun H locs hP hD hS => ?_)
      have hP : va_P (dC, dI) vwCl (fl [wdX7 kc o_o w_o o_x_imageHall o_x_ahead o_x_notes o_x_imageNotes o_x_libraries o_x_reader o_x_acts o_x_tapes ohasImage olibraryCount, wdX2 kc w_o w_kind w_v w_place w_rows w_length w_first w_second w_drifts w_traits wpeople wkind wv (upd wplace (x1.toNatClampNeg) x2) wrows wleaves wlength wfirst wsecond wdrops wstep wlibrary wdrifts wtraits]) H := hP
      have hD : va_D A (fl [wdX7 kc o_o w_o o_x_imageHall o_x_ahead o_x_notes o_x_imageNotes o_x_libraries o_x_reader o_x_acts o_x_tapes ohasImage olibraryCount, wdX2 kc w_o w_kind w_v w_place w_rows w_length w_first w_second w_drifts w_traits wpeople wkind wv (upd wplace (x1.toNatClampNeg) x2) wrows wleaves wlength wfirst wsecond wdrops wstep wlibrary wdrifts wtraits]) := hD
      refine lv_iload_n hx hb dX7_walk_45 rfl (lv_at hl 0 rfl) ?_
      cases hm
      exact k_iret hx hb hr hlocks hP hS dX7_walk_46
    · replace hm := it_t c19 hm
      refine lv_bipush (v := (-2)) hx hb dX7_walk_22 (by decide) ?_
      cases hm
      exact k_iret hx hb hr hlocks hP hS dX7_walk_24
  · replace hm := it_t c8 hm
    refine lv_iconst (v := (-1)) hx hb dX7_walk_11 (by decide) ?_
    cases hm
    exact k_iret hx hb hr hlocks hP hS dX7_walk_12
def fX7_row (wpeople : Int32) (wkind : Nat → Int32) (wrows : Nat → Int32) (x1 : Int32) (x2 : Int32) (x3 : Int32) : Option (Int32 × (Nat → Int32)) := bd1 (fX2_isPerson wpeople x1) (fun r5 => if r5 = 0 then (some (((-1) : Int32), wrows)) else (bd1 (fX7_isWithin x2 3) (fun r13 => if r13 = 0 then (some (((-1) : Int32), wrows)) else (bd1 (fX7_isWithin x3 9) (fun r24 => if r24 = 0 then (some (((-2) : Int32), wrows)) else (gd (inb x1 6) (if (wkind (x1.toNatClampNeg)) = 6 then (gd (inb ((x1 * 4) + x2) 24) (gd (inb ((x1 * 4) + x2) 24) (some (wrows (((x1 * 4) + x2).toNatClampNeg), upd wrows (((x1 * 4) + x2).toNatClampNeg) x3)))) else (some (((-3) : Int32), wrows)))))))))
theorem hinX7_row_X2 : ∀ w ∈ u_ws RX2 TX2 14, w ∈ wsX7_row := fun _ h => List.mem_cons_of_mem _ (List.mem_append_right _ h)
theorem hinX7_row_X7 : ∀ w ∈ u_ws RX7 TX7 11, w ∈ wsX7_row := fun _ h => List.mem_cons_of_mem _ (List.mem_append_left _ (List.mem_append_right _ h))
abbrev rmX7_row : Room := { frames := 1, cells := 0, slots := 0, locals := 33 }
set_option maxHeartbeats 4000000 in
set_option maxRecDepth 100000 in
theorem ctX7_row {l : Launch} {dC : Nat → ClassId} {dI : Nat → Nat → Nat} {kc : Nat → ClassId} {o_o w_o w_kind w_v w_place w_rows w_length w_first w_second w_drifts w_traits o_x_imageHall o_x_ahead o_x_notes o_x_imageNotes o_x_libraries o_x_reader o_x_acts o_x_tapes : Nat} {ohasImage : Int32} {olibraryCount : Int32} {wpeople : Int32} {wkind : Nat → Int32} {wv : Nat → Int32} {wplace : Nat → Int32} {wrows : Nat → Int32} {wleaves : Int32} {wlength : Nat → Int32} {wfirst : Nat → Int32} {wsecond : Nat → Int32} {wdrops : Int32} {wstep : Int32} {wlibrary : Option Nat} {wdrifts : Nat → Int32} {wtraits : Nat → Int32} {x1 : Int32} {x2 : Int32} {x3 : Int32} {r : Int32} {wrows' : Nat → Int32} (hm : fX7_row wpeople wkind wrows x1 x2 x3 = some (r, wrows')) : ∀ sz : Nat, Met l yX7_row wsX7_row rmX7_row (kPc dC dI kc [.ref o_o, .int x1, .int x2, .int x3] (fl [wdX7 kc o_o w_o o_x_imageHall o_x_ahead o_x_notes o_x_imageNotes o_x_libraries o_x_reader o_x_acts o_x_tapes ohasImage olibraryCount, wdX2 kc w_o w_kind w_v w_place w_rows w_length w_first w_second w_drifts w_traits wpeople wkind wv wplace wrows wleaves wlength wfirst wsecond wdrops wstep wlibrary wdrifts wtraits]) sz) (kQi dC dI r (fl [wdX7 kc o_o w_o o_x_imageHall o_x_ahead o_x_notes o_x_imageNotes o_x_libraries o_x_reader o_x_acts o_x_tapes ohasImage olibraryCount, wdX2 kc w_o w_kind w_v w_place w_rows w_length w_first w_second w_drifts w_traits wpeople wkind wv wplace wrows' wleaves wlength wfirst wsecond wdrops wstep wlibrary wdrifts wtraits]) (va_A (fl [wdX7 kc o_o w_o o_x_imageHall o_x_ahead o_x_notes o_x_imageNotes o_x_libraries o_x_reader o_x_acts o_x_tapes ohasImage olibraryCount, wdX2 kc w_o w_kind w_v w_place w_rows w_length w_first w_second w_drifts w_traits wpeople wkind wv wplace wrows wleaves wlength wfirst wsecond wdrops wstep wlibrary wdrifts wtraits]) sz)) 0 0 (va_A (fl [wdX7 kc o_o w_o o_x_imageHall o_x_ahead o_x_notes o_x_imageNotes o_x_libraries o_x_reader o_x_acts o_x_tapes ohasImage olibraryCount, wdX2 kc w_o w_kind w_v w_place w_rows w_length w_first w_second w_drifts w_traits wpeople wkind wv wplace wrows wleaves wlength wfirst wsecond wdrops wstep wlibrary wdrifts wtraits]) sz) := by
  intro sz
  refine kMet (cc := cX7_row) (maxL := 5) (ret := (some .int)) (Qf := fun A => kQi dC dI r (fl [wdX7 kc o_o w_o o_x_imageHall o_x_ahead o_x_notes o_x_imageNotes o_x_libraries o_x_reader o_x_acts o_x_tapes ohasImage olibraryCount, wdX2 kc w_o w_kind w_v w_place w_rows w_length w_first w_second w_drifts w_traits wpeople wkind wv wplace wrows' wleaves wlength wfirst wsecond wdrops wstep wlibrary wdrifts wtraits]) A) (by decide) rfl (Nat.le_of_ble_eq_true rfl) ?_
  intro p e s m below meth c A ls hx hb hr hml hts hown hlocks hname hsz hA hP hK hD hl
  have hS : va_S A s.heap s.heap [] := va_S.rf
  have hl : lv_has ls 5 [(0, .ref o_o), (1, .int x1), (2, .int x2), (3, .int x3)] := hl
  unfold fX7_row at hm
  refine lv_aload_n hx hb dX7_row_0 rfl (lv_at hl 0 rfl) ?_
  refine va_get (D := (dC, dI)) (ci := 7) (v := .ref w_o) (C := RX7) (T := TX7) (N := 11) hx hb hts hinX7_row_X7 hown hK hP 0 rfl rfl 0 (by decide) (hts _ (List.mem_of_getElem? (i := 1) rfl)) (fun _ h9 => h9) rfl dX7_row_1 ?_
  refine lv_iload_n hx hb dX7_row_4 rfl (lv_at hl 1 rfl) ?_
  obtain ⟨r5, hc5, hm⟩ := bd1_e hm
  refine k_callGVi (dC := dC) (dI := dI) (kc := kc) (As := [.int x1]) (rest := []) (Gs' := [wdX7 kc o_o w_o o_x_imageHall o_x_ahead o_x_notes o_x_imageNotes o_x_libraries o_x_reader o_x_acts o_x_tapes ohasImage olibraryCount, wdX2 kc w_o w_kind w_v w_place w_rows w_length w_first w_second w_drifts w_traits wpeople wkind wv wplace wrows wleaves wlength wfirst wsecond wdrops wstep wlibrary wdrifts wtraits]) hx hb hml hown hts hK hP hD hS hA (ctX2_isPerson (w_o := w_o) (w_kind := w_kind) (w_v := w_v) (w_place := w_place) (w_rows := w_rows) (w_length := w_length) (w_first := w_first) (w_second := w_second) (w_drifts := w_drifts) (w_traits := w_traits) (wpeople := wpeople) (wkind := wkind) (wv := wv) (wplace := wplace) (wrows := wrows) (wleaves := wleaves) (wlength := wlength) (wfirst := wfirst) (wsecond := wsecond) (wdrops := wdrops) (wstep := wstep) (wlibrary := wlibrary) (wdrifts := wdrifts) (wtraits := wtraits) (x1 := x1) hc5) (cwV 1 hts gX7_row_X2_isPerson rfl rfl rfl (by decide +kernel) ⟨Nat.le_of_ble_eq_true rfl, Nat.le_of_ble_eq_true rfl⟩) [1] rfl (by decide) 2 rfl rfl rfl rfl hl rfl (Nat.le_of_ble_eq_true rfl) dX7_row_5 ⟨Nat.zero_le _, Nat.zero_le _⟩ rfl rfl rfl (fun H locs hP hD hS => ?_)
  refine lv_if_eq (tgt := 19) hx hb dX7_row_8 (by decide) (fun c8 => ?_) (fun c8 => ?_)
  · replace hm := it_t c8 hm
    refine lv_iconst (v := (-1)) hx hb dX7_row_19 (by decide) ?_
    cases hm
    exact k_iret hx hb hr hlocks hP hS dX7_row_20
  · replace hm := it_f c8 hm
    refine lv_iload_n hx hb dX7_row_11 rfl (lv_at hl 2 rfl) ?_
    refine lv_iconst (v := 3) hx hb dX7_row_12 (by decide) ?_
    obtain ⟨r13, hc13, hm⟩ := bd1_e hm
    refine k_callGSi (dC := dC) (dI := dI) (kc := kc) (As := [.int x2, .int 3]) (rest := []) (Gs' := [wdX7 kc o_o w_o o_x_imageHall o_x_ahead o_x_notes o_x_imageNotes o_x_libraries o_x_reader o_x_acts o_x_tapes ohasImage olibraryCount, wdX2 kc w_o w_kind w_v w_place w_rows w_length w_first w_second w_drifts w_traits wpeople wkind wv wplace wrows wleaves wlength wfirst wsecond wdrops wstep wlibrary wdrifts wtraits]) hx hb hml hown hts hK hP hD hS hA (ctX7_isWithin (x1 := x2) (x2 := 3) hc13) (va_cwS 2 hts gX7_row_X7_isWithin rfl rfl rfl (by decide +kernel) ⟨Nat.le_of_ble_eq_true rfl, Nat.le_of_ble_eq_true rfl⟩) [] rfl (by decide) rfl hl rfl (Nat.le_of_ble_eq_true rfl) dX7_row_13 ⟨Nat.zero_le _, Nat.zero_le _⟩ rfl rfl rfl (fun H locs hP hD hS => ?_)
    refine lv_if_ne (tgt := 21) hx hb dX7_row_16 (by decide) (fun c16 => ?_) (fun c16 => ?_)
    · replace hm := it_f c16 hm
      refine lv_iload_n hx hb dX7_row_21 rfl (lv_at hl 3 rfl) ?_
      refine lv_bipush (v := 9) hx hb dX7_row_22 (by decide) ?_
      obtain ⟨r24, hc24, hm⟩ := bd1_e hm
      refine k_callGSi (dC := dC) (dI := dI) (kc := kc) (As := [.int x3, .int 9]) (rest := []) (Gs' := [wdX7 kc o_o w_o o_x_imageHall o_x_ahead o_x_notes o_x_imageNotes o_x_libraries o_x_reader o_x_acts o_x_tapes ohasImage olibraryCount, wdX2 kc w_o w_kind w_v w_place w_rows w_length w_first w_second w_drifts w_traits wpeople wkind wv wplace wrows wleaves wlength wfirst wsecond wdrops wstep wlibrary wdrifts wtraits]) hx hb hml hown hts hK hP hD hS hA (ctX7_isWithin (x1 := x3) (x2 := 9) hc24) (va_cwS 2 hts gX7_row_X7_isWithin rfl rfl rfl (by decide +kernel) ⟨Nat.le_of_ble_eq_true rfl, Nat.le_of_ble_eq_true rfl⟩) [] rfl (by decide) rfl hl rfl (Nat.le_of_ble_eq_true rfl) dX7_row_24 ⟨Nat.zero_le _, Nat.zero_le _⟩ rfl rfl rfl (fun H locs hP hD hS => ?_)
      refine lv_if_ne (tgt := 33) hx hb dX7_row_27 (by decide) (fun c27 => ?_) (fun c27 => ?_)
      · replace hm := it_f c27 hm
        refine lv_aload_n hx hb dX7_row_33 rfl (lv_at hl 0 rfl) ?_
        refine va_get (D := (dC, dI)) (ci := 7) (v := .ref w_o) (C := RX7) (T := TX7) (N := 11) hx hb hts hinX7_row_X7 hown hK hP 0 rfl rfl 0 (by decide) (hts _ (List.mem_of_getElem? (i := 1) rfl)) (fun _ h9 => h9) rfl dX7_row_34 ?_
        refine va_get (D := (dC, dI)) (ci := 2) (v := .ref w_kind) (C := RX2) (T := TX2) (N := 14) hx hb hts hinX7_row_X2 hown hK hP 1 rfl rfl 1 (by decide) (hts _ (List.mem_of_getElem? (i := 2) rfl)) (fun _ h9 => h9) rfl dX7_row_37 ?_
        refine lv_iload_n hx hb dX7_row_40 rfl (lv_at hl 1 rfl) ?_
        obtain ⟨hg41, hm⟩ := gd_e hm
        refine k_iald (D := (dC, dI)) hx hb hK hP 2 1 rfl rfl (k := x1.toNatClampNeg) rfl hg41 dX7_row_41 ?_
        refine lv_bipush (v := 6) hx hb dX7_row_42 (by decide) ?_
        refine lv_icmp_eq (tgt := 50) hx hb dX7_row_44 (by decide) (fun c44 => ?_) (fun c44 => ?_)
        · replace hm := it_t c44 hm
          refine lv_aload_n hx hb dX7_row_50 rfl (lv_at hl 0 rfl) ?_
          refine va_get (D := (dC, dI)) (ci := 7) (v := .ref w_o) (C := RX7) (T := TX7) (N := 11) hx hb hts hinX7_row_X7 hown hK hP 0 rfl rfl 0 (by decide) (hts _ (List.mem_of_getElem? (i := 1) rfl)) (fun _ h9 => h9) rfl dX7_row_51 ?_
          refine va_get (D := (dC, dI)) (ci := 2) (v := .ref w_rows) (C := RX2) (T := TX2) (N := 14) hx hb hts hinX7_row_X2 hown hK hP 1 rfl rfl 4 (by decide) (hts _ (List.mem_of_getElem? (i := 3) rfl)) (fun _ h9 => h9) rfl dX7_row_54 ?_
          refine lv_iload_n hx hb dX7_row_57 rfl (lv_at hl 1 rfl) ?_
          refine lv_iconst (v := 4) hx hb dX7_row_58 (by decide) ?_
          refine lv_imul hx hb dX7_row_59 ?_
          refine lv_iload_n hx hb dX7_row_60 rfl (lv_at hl 2 rfl) ?_
          refine lv_iadd hx hb dX7_row_61 ?_
          obtain ⟨hg62, hm⟩ := gd_e hm
          refine k_iald (D := (dC, dI)) hx hb hK hP 5 1 rfl rfl (k := ((x1 * 4) + x2).toNatClampNeg) rfl hg62 dX7_row_62 ?_
          refine lv_istore (lv' := [(4, .int (wrows (((x1 * 4) + x2).toNatClampNeg))), (0, .ref o_o), (1, .int x1), (2, .int x2), (3, .int x3)]) hx hb dX7_row_63 hl (by decide) rfl (fun ls hl => ?_)
          refine lv_aload_n hx hb dX7_row_65 rfl (lv_at hl 1 rfl) ?_
          refine va_get (D := (dC, dI)) (ci := 7) (v := .ref w_o) (C := RX7) (T := TX7) (N := 11) hx hb hts hinX7_row_X7 hown hK hP 0 rfl rfl 0 (by decide) (hts _ (List.mem_of_getElem? (i := 1) rfl)) (fun _ h9 => h9) rfl dX7_row_66 ?_
          refine va_get (D := (dC, dI)) (ci := 2) (v := .ref w_rows) (C := RX2) (T := TX2) (N := 14) hx hb hts hinX7_row_X2 hown hK hP 1 rfl rfl 4 (by decide) (hts _ (List.mem_of_getElem? (i := 3) rfl)) (fun _ h9 => h9) rfl dX7_row_69 ?_
          refine lv_iload_n hx hb dX7_row_72 rfl (lv_at hl 2 rfl) ?_
          refine lv_iconst (v := 4) hx hb dX7_row_73 (by decide) ?_
          refine lv_imul hx hb dX7_row_74 ?_
          refine lv_iload_n hx hb dX7_row_75 rfl (lv_at hl 3 rfl) ?_
          refine lv_iadd hx hb dX7_row_76 ?_
          refine lv_iload_n hx hb dX7_row_77 rfl (lv_at hl 4 rfl) ?_
          obtain ⟨hg78, hm⟩ := gd_e hm
          refine k_iast (D := (dC, dI)) hx hb hK hP hD hS 5 1 rfl rfl (k := ((x1 * 4) + x2).toNatClampNeg) rfl hg78 dX7_row_78 (fun H locs hP hD hS => ?_)
          have hP : va_P (dC, dI) vwCl (fl [wdX7 kc o_o w_o o_x_imageHall o_x_ahead o_x_notes o_x_imageNotes o_x_libraries o_x_reader o_x_acts o_x_tapes ohasImage olibraryCount, wdX2 kc w_o w_kind w_v w_place w_rows w_length w_first w_second w_drifts w_traits wpeople wkind wv wplace (upd wrows (((x1 * 4) + x2).toNatClampNeg) x3) wleaves wlength wfirst wsecond wdrops wstep wlibrary wdrifts wtraits]) H := hP
          have hD : va_D A (fl [wdX7 kc o_o w_o o_x_imageHall o_x_ahead o_x_notes o_x_imageNotes o_x_libraries o_x_reader o_x_acts o_x_tapes ohasImage olibraryCount, wdX2 kc w_o w_kind w_v w_place w_rows w_length w_first w_second w_drifts w_traits wpeople wkind wv wplace (upd wrows (((x1 * 4) + x2).toNatClampNeg) x3) wleaves wlength wfirst wsecond wdrops wstep wlibrary wdrifts wtraits]) := hD
          refine lv_iload hx hb dX7_row_79 (lv_at hl 0 rfl) ?_
          cases hm
          exact k_iret hx hb hr hlocks hP hS dX7_row_81
        · replace hm := it_f c44 hm
          refine lv_bipush (v := (-3)) hx hb dX7_row_47 (by decide) ?_
          cases hm
          exact k_iret hx hb hr hlocks hP hS dX7_row_49
      · replace hm := it_t c27 hm
        refine lv_bipush (v := (-2)) hx hb dX7_row_30 (by decide) ?_
        cases hm
        exact k_iret hx hb hr hlocks hP hS dX7_row_32
    · replace hm := it_t c16 hm
      refine lv_iconst (v := (-1)) hx hb dX7_row_19 (by decide) ?_
      cases hm
      exact k_iret hx hb hr hlocks hP hS dX7_row_20
def fX7_feed (dtext : Nat → Int32) (dlength : Int32) (x1 : Int32) : Option (Int32 × (Nat → Int32) × Int32) := bd1 (fX7_isWithin x1 127) (fun r3 => if r3 = 0 then (some (((-2) : Int32), dtext, dlength)) else (if dlength < 100 then (bd3 (fX4_addSign dtext dlength x1) (fun r32 dtext_32 dlength_32 => some (r32, dtext_32, dlength_32))) else (some (((-4) : Int32), dtext, dlength))))
theorem hinX7_feed_X4 : ∀ w ∈ u_ws RX4 TX4 4, w ∈ wsX7_feed := fun _ h => List.mem_cons_of_mem _ (List.mem_append_right _ h)
theorem hinX7_feed_X7 : ∀ w ∈ u_ws RX7 TX7 11, w ∈ wsX7_feed := fun _ h => List.mem_cons_of_mem _ (List.mem_append_left _ (List.mem_append_right _ h))
abbrev rmX7_feed : Room := { frames := 1, cells := 0, slots := 0, locals := 33 }
set_option maxHeartbeats 4000000 in
set_option maxRecDepth 100000 in
theorem ctX7_feed {l : Launch} {dC : Nat → ClassId} {dI : Nat → Nat → Nat} {kc : Nat → ClassId} {o_o d_o d_text o_x_now o_x_imageHall o_x_ahead o_x_notes o_x_imageNotes o_x_libraries o_x_acts o_x_tapes : Nat} {ohasImage : Int32} {olibraryCount : Int32} {dtext : Nat → Int32} {dlength : Int32} {dat : Int32} {dlibrary : Option Nat} {x1 : Int32} {r : Int32} {dtext' : Nat → Int32} {dlength' : Int32} (hm : fX7_feed dtext dlength x1 = some (r, dtext', dlength')) : ∀ sz : Nat, Met l yX7_feed wsX7_feed rmX7_feed (kPc dC dI kc [.ref o_o, .int x1] (fl [wdX7 kc o_o o_x_now o_x_imageHall o_x_ahead o_x_notes o_x_imageNotes o_x_libraries d_o o_x_acts o_x_tapes ohasImage olibraryCount, wdX4 kc d_o d_text dtext dlength dat dlibrary]) sz) (kQi dC dI r (fl [wdX7 kc o_o o_x_now o_x_imageHall o_x_ahead o_x_notes o_x_imageNotes o_x_libraries d_o o_x_acts o_x_tapes ohasImage olibraryCount, wdX4 kc d_o d_text dtext' dlength' dat dlibrary]) (va_A (fl [wdX7 kc o_o o_x_now o_x_imageHall o_x_ahead o_x_notes o_x_imageNotes o_x_libraries d_o o_x_acts o_x_tapes ohasImage olibraryCount, wdX4 kc d_o d_text dtext dlength dat dlibrary]) sz)) 0 0 (va_A (fl [wdX7 kc o_o o_x_now o_x_imageHall o_x_ahead o_x_notes o_x_imageNotes o_x_libraries d_o o_x_acts o_x_tapes ohasImage olibraryCount, wdX4 kc d_o d_text dtext dlength dat dlibrary]) sz) := by
  intro sz
  refine kMet (cc := cX7_feed) (maxL := 2) (ret := (some .int)) (Qf := fun A => kQi dC dI r (fl [wdX7 kc o_o o_x_now o_x_imageHall o_x_ahead o_x_notes o_x_imageNotes o_x_libraries d_o o_x_acts o_x_tapes ohasImage olibraryCount, wdX4 kc d_o d_text dtext' dlength' dat dlibrary]) A) (by decide) rfl (Nat.le_of_ble_eq_true rfl) ?_
  intro p e s m below meth c A ls hx hb hr hml hts hown hlocks hname hsz hA hP hK hD hl
  have hS : va_S A s.heap s.heap [] := va_S.rf
  have hl : lv_has ls 2 [(0, .ref o_o), (1, .int x1)] := hl
  unfold fX7_feed at hm
  refine lv_iload_n hx hb dX7_feed_0 rfl (lv_at hl 1 rfl) ?_
  refine lv_bipush (v := 127) hx hb dX7_feed_1 (by decide) ?_
  obtain ⟨r3, hc3, hm⟩ := bd1_e hm
  refine k_callGSi (dC := dC) (dI := dI) (kc := kc) (As := [.int x1, .int 127]) (rest := []) (Gs' := [wdX7 kc o_o o_x_now o_x_imageHall o_x_ahead o_x_notes o_x_imageNotes o_x_libraries d_o o_x_acts o_x_tapes ohasImage olibraryCount, wdX4 kc d_o d_text dtext dlength dat dlibrary]) hx hb hml hown hts hK hP hD hS hA (ctX7_isWithin (x1 := x1) (x2 := 127) hc3) (va_cwS 2 hts gX7_feed_X7_isWithin rfl rfl rfl (by decide +kernel) ⟨Nat.le_of_ble_eq_true rfl, Nat.le_of_ble_eq_true rfl⟩) [] rfl (by decide) rfl hl rfl (Nat.le_of_ble_eq_true rfl) dX7_feed_3 ⟨Nat.zero_le _, Nat.zero_le _⟩ rfl rfl rfl (fun H locs hP hD hS => ?_)
  refine lv_if_ne (tgt := 12) hx hb dX7_feed_6 (by decide) (fun c6 => ?_) (fun c6 => ?_)
  · replace hm := it_f c6 hm
    refine lv_aload_n hx hb dX7_feed_12 rfl (lv_at hl 0 rfl) ?_
    refine va_get (D := (dC, dI)) (ci := 7) (v := .ref d_o) (C := RX7) (T := TX7) (N := 11) hx hb hts hinX7_feed_X7 hown hK hP 0 rfl rfl 8 (by decide) (hts _ (List.mem_of_getElem? (i := 1) rfl)) (fun _ h9 => h9) rfl dX7_feed_13 ?_
    refine va_get (D := (dC, dI)) (ci := 4) (v := .int dlength) (C := RX4) (T := TX4) (N := 4) hx hb hts hinX7_feed_X4 hown hK hP 1 rfl rfl 1 (by decide) (hts _ (List.mem_of_getElem? (i := 2) rfl)) (fun _ h9 => h9) rfl dX7_feed_16 ?_
    refine lv_bipush (v := 100) hx hb dX7_feed_19 (by decide) ?_
    refine lv_icmp_lt (tgt := 27) hx hb dX7_feed_21 (by decide) (fun c21 => ?_) (fun c21 => ?_)
    · replace hm := it_t c21 hm
      refine lv_aload_n hx hb dX7_feed_27 rfl (lv_at hl 0 rfl) ?_
      refine va_get (D := (dC, dI)) (ci := 7) (v := .ref d_o) (C := RX7) (T := TX7) (N := 11) hx hb hts hinX7_feed_X7 hown hK hP 0 rfl rfl 8 (by decide) (hts _ (List.mem_of_getElem? (i := 1) rfl)) (fun _ h9 => h9) rfl dX7_feed_28 ?_
      refine lv_iload_n hx hb dX7_feed_31 rfl (lv_at hl 1 rfl) ?_
      obtain ⟨r32, dtext_32, dlength_32, hc32, hm⟩ := bd3_e hm
      refine k_callGVi (dC := dC) (dI := dI) (kc := kc) (As := [.int x1]) (rest := []) (Gs' := [wdX7 kc o_o o_x_now o_x_imageHall o_x_ahead o_x_notes o_x_imageNotes o_x_libraries d_o o_x_acts o_x_tapes ohasImage olibraryCount, wdX4 kc d_o d_text dtext_32 dlength_32 dat dlibrary]) hx hb hml hown hts hK hP hD hS hA (ctX4_addSign (d_o := d_o) (d_text := d_text) (dtext := dtext) (dlength := dlength) (dat := dat) (dlibrary := dlibrary) (x1 := x1) hc32) (cwV 1 hts gX7_feed_X4_addSign rfl rfl rfl (by decide +kernel) ⟨Nat.le_of_ble_eq_true rfl, Nat.le_of_ble_eq_true rfl⟩) [1] rfl (by decide) 4 rfl rfl rfl rfl hl rfl (Nat.le_of_ble_eq_true rfl) dX7_feed_32 ⟨Nat.zero_le _, Nat.zero_le _⟩ rfl rfl rfl (fun H locs hP hD hS => ?_)
      cases hm
      exact k_iret hx hb hr hlocks hP hS dX7_feed_35
    · replace hm := it_f c21 hm
      refine lv_bipush (v := (-4)) hx hb dX7_feed_24 (by decide) ?_
      cases hm
      exact k_iret hx hb hr hlocks hP hS dX7_feed_26
  · replace hm := it_t c6 hm
    refine lv_bipush (v := (-2)) hx hb dX7_feed_9 (by decide) ?_
    cases hm
    exact k_iret hx hb hr hlocks hP hS dX7_feed_11
def fX7_told (fu : Nat) (wplace : Nat → Int32) (wleaves : Int32) (wlength : Nat → Int32) (wfirst : Nat → Int32) (wsecond : Nat → Int32) (wdrops : Int32) (wstep : Int32) (wlibrary : Option Nat) (bbear : Int32) (x1 : Int32) : Option Int32 := if x1 = 0 then (some wstep) else (if x1 = 1 then (bd1 (fX2_bear wlibrary bbear) (fun r48 => some r48)) else (if x1 = 2 then (some wdrops) else (if x1 = 3 then (bd1 (fX2_tautBits fu wplace wleaves wlength wfirst wsecond) (fun r64 => some r64)) else (if x1 = 4 then (bd1 (fX2_heldBits fu wleaves wfirst) (fun r72 => some r72)) else (some ((-1) : Int32))))))
theorem hinX7_told_X2 : ∀ w ∈ u_ws RX2 TX2 14, w ∈ wsX7_told := fun _ h => List.mem_cons_of_mem _ (List.mem_append_left _ (List.mem_append_right _ h))
theorem hinX7_told_X7 : ∀ w ∈ u_ws RX7 TX7 11, w ∈ wsX7_told := fun _ h => List.mem_cons_of_mem _ (List.mem_append_left _ (List.mem_append_left _ (List.mem_append_right _ h)))
abbrev rmX7_told : Room := { frames := 4, cells := 0, slots := 0, locals := 77 }
set_option maxHeartbeats 4000000 in
set_option maxRecDepth 100000 in
theorem ctX7_told {l : Launch} {dC : Nat → ClassId} {dI : Nat → Nat → Nat} {kc : Nat → ClassId} {o_o w_o w_kind w_v w_place w_rows w_length w_first w_second w_drifts w_traits b_o b_sorts b_letters b_numbers o_x_imageHall o_x_ahead o_x_notes o_x_imageNotes o_x_libraries o_x_reader o_x_acts o_x_tapes : Nat} {ohasImage : Int32} {olibraryCount : Int32} {wpeople : Int32} {wkind : Nat → Int32} {wv : Nat → Int32} {wplace : Nat → Int32} {wrows : Nat → Int32} {wleaves : Int32} {wlength : Nat → Int32} {wfirst : Nat → Int32} {wsecond : Nat → Int32} {wdrops : Int32} {wstep : Int32} {wlibrary : Option Nat} {wdrifts : Nat → Int32} {wtraits : Nat → Int32} {bsorts : Nat → Int32} {bletters : Nat → Int32} {bnumbers : Nat → Int32} {bsize : Int32} {bbear : Int32} {x1 : Int32} {fu : Nat} {r : Int32} (hm : fX7_told fu wplace wleaves wlength wfirst wsecond wdrops wstep wlibrary bbear x1 = some r) (hlowlibrary : ∀ q : Nat, wlibrary = some q → q = b_o) : ∀ sz : Nat, Met l yX7_told wsX7_told rmX7_told (kPc dC dI kc [.ref o_o, .int x1] (fl [wdX7 kc o_o w_o o_x_imageHall o_x_ahead o_x_notes o_x_imageNotes o_x_libraries o_x_reader o_x_acts o_x_tapes ohasImage olibraryCount, wdX2 kc w_o w_kind w_v w_place w_rows w_length w_first w_second w_drifts w_traits wpeople wkind wv wplace wrows wleaves wlength wfirst wsecond wdrops wstep wlibrary wdrifts wtraits, wdX3 kc b_o b_sorts b_letters b_numbers bsorts bletters bnumbers bsize bbear]) sz) (kQi dC dI r (fl [wdX7 kc o_o w_o o_x_imageHall o_x_ahead o_x_notes o_x_imageNotes o_x_libraries o_x_reader o_x_acts o_x_tapes ohasImage olibraryCount, wdX2 kc w_o w_kind w_v w_place w_rows w_length w_first w_second w_drifts w_traits wpeople wkind wv wplace wrows wleaves wlength wfirst wsecond wdrops wstep wlibrary wdrifts wtraits, wdX3 kc b_o b_sorts b_letters b_numbers bsorts bletters bnumbers bsize bbear]) (va_A (fl [wdX7 kc o_o w_o o_x_imageHall o_x_ahead o_x_notes o_x_imageNotes o_x_libraries o_x_reader o_x_acts o_x_tapes ohasImage olibraryCount, wdX2 kc w_o w_kind w_v w_place w_rows w_length w_first w_second w_drifts w_traits wpeople wkind wv wplace wrows wleaves wlength wfirst wsecond wdrops wstep wlibrary wdrifts wtraits, wdX3 kc b_o b_sorts b_letters b_numbers bsorts bletters bnumbers bsize bbear]) sz)) 0 0 (va_A (fl [wdX7 kc o_o w_o o_x_imageHall o_x_ahead o_x_notes o_x_imageNotes o_x_libraries o_x_reader o_x_acts o_x_tapes ohasImage olibraryCount, wdX2 kc w_o w_kind w_v w_place w_rows w_length w_first w_second w_drifts w_traits wpeople wkind wv wplace wrows wleaves wlength wfirst wsecond wdrops wstep wlibrary wdrifts wtraits, wdX3 kc b_o b_sorts b_letters b_numbers bsorts bletters bnumbers bsize bbear]) sz) := by
  intro sz
  refine kMet (cc := cX7_told) (maxL := 2) (ret := (some .int)) (Qf := fun A => kQi dC dI r (fl [wdX7 kc o_o w_o o_x_imageHall o_x_ahead o_x_notes o_x_imageNotes o_x_libraries o_x_reader o_x_acts o_x_tapes ohasImage olibraryCount, wdX2 kc w_o w_kind w_v w_place w_rows w_length w_first w_second w_drifts w_traits wpeople wkind wv wplace wrows wleaves wlength wfirst wsecond wdrops wstep wlibrary wdrifts wtraits, wdX3 kc b_o b_sorts b_letters b_numbers bsorts bletters bnumbers bsize bbear]) A) (by decide) rfl (Nat.le_of_ble_eq_true rfl) ?_
  intro p e s m below meth c A ls hx hb hr hml hts hown hlocks hname hsz hA hP hK hD hl
  have hS : va_S A s.heap s.heap [] := va_S.rf
  have hl : lv_has ls 2 [(0, .ref o_o), (1, .int x1)] := hl
  unfold fX7_told at hm
  refine lv_iload_n hx hb dX7_told_0 rfl (lv_at hl 1 rfl) ?_
  by_cases cs1_0 : x1 = 0
  · replace hm := it_t cs1_0 hm
    refine lv_tableIn (off := 35) (tgt := 36) hx hb dX7_told_1 (by rw [cs1_0]; decide) (by rw [cs1_0]; decide) (by rw [cs1_0]; rfl) (by decide) ?_
    refine lv_aload_n hx hb dX7_told_36 rfl (lv_at hl 0 rfl) ?_
    refine va_get (D := (dC, dI)) (ci := 7) (v := .ref w_o) (C := RX7) (T := TX7) (N := 11) hx hb hts hinX7_told_X7 hown hK hP 0 rfl rfl 0 (by decide) (hts _ (List.mem_of_getElem? (i := 1) rfl)) (fun _ h9 => h9) rfl dX7_told_37 ?_
    refine va_get (D := (dC, dI)) (ci := 2) (v := .int wstep) (C := RX2) (T := TX2) (N := 14) hx hb hts hinX7_told_X2 hown hK hP 1 rfl rfl 10 (by decide) (hts _ (List.mem_of_getElem? (i := 2) rfl)) (fun _ h9 => h9) rfl dX7_told_40 ?_
    cases hm
    exact k_iret hx hb hr hlocks hP hS dX7_told_43
  replace hm := it_f cs1_0 hm
  by_cases cs1_1 : x1 = 1
  · replace hm := it_t cs1_1 hm
    refine lv_tableIn (off := 43) (tgt := 44) hx hb dX7_told_1 (by rw [cs1_1]; decide) (by rw [cs1_1]; decide) (by rw [cs1_1]; rfl) (by decide) ?_
    refine lv_aload_n hx hb dX7_told_44 rfl (lv_at hl 0 rfl) ?_
    refine va_get (D := (dC, dI)) (ci := 7) (v := .ref w_o) (C := RX7) (T := TX7) (N := 11) hx hb hts hinX7_told_X7 hown hK hP 0 rfl rfl 0 (by decide) (hts _ (List.mem_of_getElem? (i := 1) rfl)) (fun _ h9 => h9) rfl dX7_told_45 ?_
    obtain ⟨r48, hc48, hm⟩ := bd1_e hm
    refine k_callGVi (dC := dC) (dI := dI) (kc := kc) (As := []) (rest := []) (Gs' := [wdX7 kc o_o w_o o_x_imageHall o_x_ahead o_x_notes o_x_imageNotes o_x_libraries o_x_reader o_x_acts o_x_tapes ohasImage olibraryCount, wdX2 kc w_o w_kind w_v w_place w_rows w_length w_first w_second w_drifts w_traits wpeople wkind wv wplace wrows wleaves wlength wfirst wsecond wdrops wstep wlibrary wdrifts wtraits, wdX3 kc b_o b_sorts b_letters b_numbers bsorts bletters bnumbers bsize bbear]) hx hb hml hown hts hK hP hD hS hA (ctX2_bear (w_o := w_o) (w_kind := w_kind) (w_v := w_v) (w_place := w_place) (w_rows := w_rows) (w_length := w_length) (w_first := w_first) (w_second := w_second) (w_drifts := w_drifts) (w_traits := w_traits) (b_o := b_o) (b_sorts := b_sorts) (b_letters := b_letters) (b_numbers := b_numbers) (wpeople := wpeople) (wkind := wkind) (wv := wv) (wplace := wplace) (wrows := wrows) (wleaves := wleaves) (wlength := wlength) (wfirst := wfirst) (wsecond := wsecond) (wdrops := wdrops) (wstep := wstep) (wlibrary := wlibrary) (wdrifts := wdrifts) (wtraits := wtraits) (bsorts := bsorts) (bletters := bletters) (bnumbers := bnumbers) (bsize := bsize) (bbear := bbear) hc48 hlowlibrary) (cwV 0 hts gX7_told_X2_bear rfl rfl rfl (by decide +kernel) ⟨Nat.le_of_ble_eq_true rfl, Nat.le_of_ble_eq_true rfl⟩) [1, 2] rfl (by decide) 2 rfl rfl rfl rfl hl rfl (Nat.le_of_ble_eq_true rfl) dX7_told_48 ⟨Nat.zero_le _, Nat.zero_le _⟩ rfl rfl rfl (fun H locs hP hD hS => ?_)
    cases hm
    exact k_iret hx hb hr hlocks hP hS dX7_told_51
  replace hm := it_f cs1_1 hm
  by_cases cs1_2 : x1 = 2
  · replace hm := it_t cs1_2 hm
    refine lv_tableIn (off := 51) (tgt := 52) hx hb dX7_told_1 (by rw [cs1_2]; decide) (by rw [cs1_2]; decide) (by rw [cs1_2]; rfl) (by decide) ?_
    refine lv_aload_n hx hb dX7_told_52 rfl (lv_at hl 0 rfl) ?_
    refine va_get (D := (dC, dI)) (ci := 7) (v := .ref w_o) (C := RX7) (T := TX7) (N := 11) hx hb hts hinX7_told_X7 hown hK hP 0 rfl rfl 0 (by decide) (hts _ (List.mem_of_getElem? (i := 1) rfl)) (fun _ h9 => h9) rfl dX7_told_53 ?_
    refine va_get (D := (dC, dI)) (ci := 2) (v := .int wdrops) (C := RX2) (T := TX2) (N := 14) hx hb hts hinX7_told_X2 hown hK hP 1 rfl rfl 9 (by decide) (hts _ (List.mem_of_getElem? (i := 3) rfl)) (fun _ h9 => h9) rfl dX7_told_56 ?_
    cases hm
    exact k_iret hx hb hr hlocks hP hS dX7_told_59
  replace hm := it_f cs1_2 hm
  by_cases cs1_3 : x1 = 3
  · replace hm := it_t cs1_3 hm
    refine lv_tableIn (off := 59) (tgt := 60) hx hb dX7_told_1 (by rw [cs1_3]; decide) (by rw [cs1_3]; decide) (by rw [cs1_3]; rfl) (by decide) ?_
    refine lv_aload_n hx hb dX7_told_60 rfl (lv_at hl 0 rfl) ?_
    refine va_get (D := (dC, dI)) (ci := 7) (v := .ref w_o) (C := RX7) (T := TX7) (N := 11) hx hb hts hinX7_told_X7 hown hK hP 0 rfl rfl 0 (by decide) (hts _ (List.mem_of_getElem? (i := 1) rfl)) (fun _ h9 => h9) rfl dX7_told_61 ?_
    obtain ⟨r64, hc64, hm⟩ := bd1_e hm
    refine k_callGVi (dC := dC) (dI := dI) (kc := kc) (As := []) (rest := []) (Gs' := [wdX7 kc o_o w_o o_x_imageHall o_x_ahead o_x_notes o_x_imageNotes o_x_libraries o_x_reader o_x_acts o_x_tapes ohasImage olibraryCount, wdX2 kc w_o w_kind w_v w_place w_rows w_length w_first w_second w_drifts w_traits wpeople wkind wv wplace wrows wleaves wlength wfirst wsecond wdrops wstep wlibrary wdrifts wtraits, wdX3 kc b_o b_sorts b_letters b_numbers bsorts bletters bnumbers bsize bbear]) hx hb hml hown hts hK hP hD hS hA (ctX2_tautBits (w_o := w_o) (w_kind := w_kind) (w_v := w_v) (w_place := w_place) (w_rows := w_rows) (w_length := w_length) (w_first := w_first) (w_second := w_second) (w_drifts := w_drifts) (w_traits := w_traits) (wpeople := wpeople) (wkind := wkind) (wv := wv) (wplace := wplace) (wrows := wrows) (wleaves := wleaves) (wlength := wlength) (wfirst := wfirst) (wsecond := wsecond) (wdrops := wdrops) (wstep := wstep) (wlibrary := wlibrary) (wdrifts := wdrifts) (wtraits := wtraits) hc64) (cwV 0 hts gX7_told_X2_tautBits rfl rfl rfl (by decide +kernel) ⟨Nat.le_of_ble_eq_true rfl, Nat.le_of_ble_eq_true rfl⟩) [1] rfl (by decide) 2 rfl rfl rfl rfl hl rfl (Nat.le_of_ble_eq_true rfl) dX7_told_64 ⟨Nat.zero_le _, Nat.zero_le _⟩ rfl rfl rfl (fun H locs hP hD hS => ?_)
    cases hm
    exact k_iret hx hb hr hlocks hP hS dX7_told_67
  replace hm := it_f cs1_3 hm
  by_cases cs1_4 : x1 = 4
  · replace hm := it_t cs1_4 hm
    refine lv_tableIn (off := 67) (tgt := 68) hx hb dX7_told_1 (by rw [cs1_4]; decide) (by rw [cs1_4]; decide) (by rw [cs1_4]; rfl) (by decide) ?_
    refine lv_aload_n hx hb dX7_told_68 rfl (lv_at hl 0 rfl) ?_
    refine va_get (D := (dC, dI)) (ci := 7) (v := .ref w_o) (C := RX7) (T := TX7) (N := 11) hx hb hts hinX7_told_X7 hown hK hP 0 rfl rfl 0 (by decide) (hts _ (List.mem_of_getElem? (i := 1) rfl)) (fun _ h9 => h9) rfl dX7_told_69 ?_
    obtain ⟨r72, hc72, hm⟩ := bd1_e hm
    refine k_callGVi (dC := dC) (dI := dI) (kc := kc) (As := []) (rest := []) (Gs' := [wdX7 kc o_o w_o o_x_imageHall o_x_ahead o_x_notes o_x_imageNotes o_x_libraries o_x_reader o_x_acts o_x_tapes ohasImage olibraryCount, wdX2 kc w_o w_kind w_v w_place w_rows w_length w_first w_second w_drifts w_traits wpeople wkind wv wplace wrows wleaves wlength wfirst wsecond wdrops wstep wlibrary wdrifts wtraits, wdX3 kc b_o b_sorts b_letters b_numbers bsorts bletters bnumbers bsize bbear]) hx hb hml hown hts hK hP hD hS hA (ctX2_heldBits (w_o := w_o) (w_kind := w_kind) (w_v := w_v) (w_place := w_place) (w_rows := w_rows) (w_length := w_length) (w_first := w_first) (w_second := w_second) (w_drifts := w_drifts) (w_traits := w_traits) (wpeople := wpeople) (wkind := wkind) (wv := wv) (wplace := wplace) (wrows := wrows) (wleaves := wleaves) (wlength := wlength) (wfirst := wfirst) (wsecond := wsecond) (wdrops := wdrops) (wstep := wstep) (wlibrary := wlibrary) (wdrifts := wdrifts) (wtraits := wtraits) hc72) (cwV 0 hts gX7_told_X2_heldBits rfl rfl rfl (by decide +kernel) ⟨Nat.le_of_ble_eq_true rfl, Nat.le_of_ble_eq_true rfl⟩) [1] rfl (by decide) 2 rfl rfl rfl rfl hl rfl (Nat.le_of_ble_eq_true rfl) dX7_told_72 ⟨Nat.zero_le _, Nat.zero_le _⟩ rfl rfl rfl (fun H locs hP hD hS => ?_)
    cases hm
    exact k_iret hx hb hr hlocks hP hS dX7_told_75
  replace hm := it_f cs1_4 hm
  have nt1_0 := lv_neT (k := 0) (a := 0) cs1_0 (by decide)
  have nt1_1 := lv_neT (k := 1) (a := 1) cs1_1 (by decide)
  have nt1_2 := lv_neT (k := 2) (a := 2) cs1_2 (by decide)
  have nt1_3 := lv_neT (k := 3) (a := 3) cs1_3 (by decide)
  have nt1_4 := lv_neT (k := 4) (a := 4) cs1_4 (by decide)
  refine lv_tableOut (tgt := 76) hx hb dX7_told_1 (by omega) (by decide) ?_
  refine lv_iconst (v := (-1)) hx hb dX7_told_76 (by decide) ?_
  cases hm
  exact k_iret hx hb hr hlocks hP hS dX7_told_77
def fX7_pass (fu : Nat) (wpeople : Int32) (wkind : Nat → Int32) (wv : Nat → Int32) (wplace : Nat → Int32) (wrows : Nat → Int32) (wleaves : Int32) (wlength : Nat → Int32) (wfirst : Nat → Int32) (wsecond : Nat → Int32) (wdrops : Int32) (wstep : Int32) (wlibrary : Option Nat) (wdrifts : Nat → Int32) (wtraits : Nat → Int32) (bsorts : Nat → Int32) (bletters : Nat → Int32) (bnumbers : Nat → Int32) (bsize : Int32) (bbear : Int32) (x1 : Int32) : Option (Int32 × (Nat → Int32) × (Nat → Int32) × (Nat → Int32) × Int32 × Int32 × (Nat → Int32) × (Nat → Int32)) := bd1 (fX7_isWithin x1 60) (fun r3 => if r3 = 0 then (some (((-2) : Int32), wplace, wfirst, wsecond, wdrops, wstep, wdrifts, wtraits)) else (if (wstep + x1) ≤ 9999 then (bd7 (fX2_goOn fu wpeople wkind wv wplace wrows wleaves wlength wfirst wsecond wdrops wstep wlibrary wdrifts wtraits bsorts bletters bnumbers bsize bbear x1) (fun wplace_35 wfirst_35 wsecond_35 wdrops_35 wstep_35 wdrifts_35 wtraits_35 => some (wstep_35, wplace_35, wfirst_35, wsecond_35, jmin wdrops_35 9999, wstep_35, wdrifts_35, wtraits_35))) else (some (((-3) : Int32), wplace, wfirst, wsecond, wdrops, wstep, wdrifts, wtraits))))
theorem hinX7_pass_X2 : ∀ w ∈ u_ws RX2 TX2 14, w ∈ wsX7_pass := fun _ h => List.mem_cons_of_mem _ (List.mem_append_left _ (List.mem_append_right _ h))
theorem hinX7_pass_X7 : ∀ w ∈ u_ws RX7 TX7 11, w ∈ wsX7_pass := fun _ h => List.mem_cons_of_mem _ (List.mem_append_left _ (List.mem_append_left _ (List.mem_append_right _ h)))
abbrev rmX7_pass : Room := { frames := 5, cells := 0, slots := 0, locals := 124 }
set_option maxHeartbeats 4000000 in
set_option maxRecDepth 100000 in
theorem ctX7_pass {l : Launch} {dC : Nat → ClassId} {dI : Nat → Nat → Nat} {kc : Nat → ClassId} {o_o w_o w_kind w_v w_place w_rows w_length w_first w_second w_drifts w_traits b_o b_sorts b_letters b_numbers o_x_imageHall o_x_ahead o_x_notes o_x_imageNotes o_x_libraries o_x_reader o_x_acts o_x_tapes : Nat} {ohasImage : Int32} {olibraryCount : Int32} {wpeople : Int32} {wkind : Nat → Int32} {wv : Nat → Int32} {wplace : Nat → Int32} {wrows : Nat → Int32} {wleaves : Int32} {wlength : Nat → Int32} {wfirst : Nat → Int32} {wsecond : Nat → Int32} {wdrops : Int32} {wstep : Int32} {wlibrary : Option Nat} {wdrifts : Nat → Int32} {wtraits : Nat → Int32} {bsorts : Nat → Int32} {bletters : Nat → Int32} {bnumbers : Nat → Int32} {bsize : Int32} {bbear : Int32} {x1 : Int32} {fu : Nat} {r : Int32} {wplace' : Nat → Int32} {wfirst' : Nat → Int32} {wsecond' : Nat → Int32} {wdrops' : Int32} {wstep' : Int32} {wdrifts' : Nat → Int32} {wtraits' : Nat → Int32} (hm : fX7_pass fu wpeople wkind wv wplace wrows wleaves wlength wfirst wsecond wdrops wstep wlibrary wdrifts wtraits bsorts bletters bnumbers bsize bbear x1 = some (r, wplace', wfirst', wsecond', wdrops', wstep', wdrifts', wtraits')) (hlowlibrary : ∀ q : Nat, wlibrary = some q → q = b_o) : ∀ sz : Nat, Met l yX7_pass wsX7_pass rmX7_pass (kPc dC dI kc [.ref o_o, .int x1] (fl [wdX7 kc o_o w_o o_x_imageHall o_x_ahead o_x_notes o_x_imageNotes o_x_libraries o_x_reader o_x_acts o_x_tapes ohasImage olibraryCount, wdX2 kc w_o w_kind w_v w_place w_rows w_length w_first w_second w_drifts w_traits wpeople wkind wv wplace wrows wleaves wlength wfirst wsecond wdrops wstep wlibrary wdrifts wtraits, wdX3 kc b_o b_sorts b_letters b_numbers bsorts bletters bnumbers bsize bbear]) sz) (kQi dC dI r (fl [wdX7 kc o_o w_o o_x_imageHall o_x_ahead o_x_notes o_x_imageNotes o_x_libraries o_x_reader o_x_acts o_x_tapes ohasImage olibraryCount, wdX2 kc w_o w_kind w_v w_place w_rows w_length w_first w_second w_drifts w_traits wpeople wkind wv wplace' wrows wleaves wlength wfirst' wsecond' wdrops' wstep' wlibrary wdrifts' wtraits', wdX3 kc b_o b_sorts b_letters b_numbers bsorts bletters bnumbers bsize bbear]) (va_A (fl [wdX7 kc o_o w_o o_x_imageHall o_x_ahead o_x_notes o_x_imageNotes o_x_libraries o_x_reader o_x_acts o_x_tapes ohasImage olibraryCount, wdX2 kc w_o w_kind w_v w_place w_rows w_length w_first w_second w_drifts w_traits wpeople wkind wv wplace wrows wleaves wlength wfirst wsecond wdrops wstep wlibrary wdrifts wtraits, wdX3 kc b_o b_sorts b_letters b_numbers bsorts bletters bnumbers bsize bbear]) sz)) 0 0 (va_A (fl [wdX7 kc o_o w_o o_x_imageHall o_x_ahead o_x_notes o_x_imageNotes o_x_libraries o_x_reader o_x_acts o_x_tapes ohasImage olibraryCount, wdX2 kc w_o w_kind w_v w_place w_rows w_length w_first w_second w_drifts w_traits wpeople wkind wv wplace wrows wleaves wlength wfirst wsecond wdrops wstep wlibrary wdrifts wtraits, wdX3 kc b_o b_sorts b_letters b_numbers bsorts bletters bnumbers bsize bbear]) sz) := by
  intro sz
  refine kMet (cc := cX7_pass) (maxL := 2) (ret := (some .int)) (Qf := fun A => kQi dC dI r (fl [wdX7 kc o_o w_o o_x_imageHall o_x_ahead o_x_notes o_x_imageNotes o_x_libraries o_x_reader o_x_acts o_x_tapes ohasImage olibraryCount, wdX2 kc w_o w_kind w_v w_place w_rows w_length w_first w_second w_drifts w_traits wpeople wkind wv wplace' wrows wleaves wlength wfirst' wsecond' wdrops' wstep' wlibrary wdrifts' wtraits', wdX3 kc b_o b_sorts b_letters b_numbers bsorts bletters bnumbers bsize bbear]) A) (by decide) rfl (Nat.le_of_ble_eq_true rfl) ?_
  intro p e s m below meth c A ls hx hb hr hml hts hown hlocks hname hsz hA hP hK hD hl
  have hS : va_S A s.heap s.heap [] := va_S.rf
  have hl : lv_has ls 2 [(0, .ref o_o), (1, .int x1)] := hl
  unfold fX7_pass at hm
  refine lv_iload_n hx hb dX7_pass_0 rfl (lv_at hl 1 rfl) ?_
  refine lv_bipush (v := 60) hx hb dX7_pass_1 (by decide) ?_
  obtain ⟨r3, hc3, hm⟩ := bd1_e hm
  refine k_callGSi (dC := dC) (dI := dI) (kc := kc) (As := [.int x1, .int 60]) (rest := []) (Gs' := [wdX7 kc o_o w_o o_x_imageHall o_x_ahead o_x_notes o_x_imageNotes o_x_libraries o_x_reader o_x_acts o_x_tapes ohasImage olibraryCount, wdX2 kc w_o w_kind w_v w_place w_rows w_length w_first w_second w_drifts w_traits wpeople wkind wv wplace wrows wleaves wlength wfirst wsecond wdrops wstep wlibrary wdrifts wtraits, wdX3 kc b_o b_sorts b_letters b_numbers bsorts bletters bnumbers bsize bbear]) hx hb hml hown hts hK hP hD hS hA (ctX7_isWithin (x1 := x1) (x2 := 60) hc3) (va_cwS 2 hts gX7_pass_X7_isWithin rfl rfl rfl (by decide +kernel) ⟨Nat.le_of_ble_eq_true rfl, Nat.le_of_ble_eq_true rfl⟩) [] rfl (by decide) rfl hl rfl (Nat.le_of_ble_eq_true rfl) dX7_pass_3 ⟨Nat.zero_le _, Nat.zero_le _⟩ rfl rfl rfl (fun H locs hP hD hS => ?_)
  refine lv_if_ne (tgt := 12) hx hb dX7_pass_6 (by decide) (fun c6 => ?_) (fun c6 => ?_)
  · replace hm := it_f c6 hm
    refine lv_aload_n hx hb dX7_pass_12 rfl (lv_at hl 0 rfl) ?_
    refine va_get (D := (dC, dI)) (ci := 7) (v := .ref w_o) (C := RX7) (T := TX7) (N := 11) hx hb hts hinX7_pass_X7 hown hK hP 0 rfl rfl 0 (by decide) (hts _ (List.mem_of_getElem? (i := 1) rfl)) (fun _ h9 => h9) rfl dX7_pass_13 ?_
    refine va_get (D := (dC, dI)) (ci := 2) (v := .int wstep) (C := RX2) (T := TX2) (N := 14) hx hb hts hinX7_pass_X2 hown hK hP 1 rfl rfl 10 (by decide) (hts _ (List.mem_of_getElem? (i := 2) rfl)) (fun _ h9 => h9) rfl dX7_pass_16 ?_
    refine lv_iload_n hx hb dX7_pass_19 rfl (lv_at hl 1 rfl) ?_
    refine lv_iadd hx hb dX7_pass_20 ?_
    refine lv_sipush (v := 9999) hx hb dX7_pass_21 (by decide) ?_
    refine lv_icmp_le (tgt := 30) hx hb dX7_pass_24 (by decide) (fun c24 => ?_) (fun c24 => ?_)
    · replace hm := it_t c24 hm
      refine lv_aload_n hx hb dX7_pass_30 rfl (lv_at hl 0 rfl) ?_
      refine va_get (D := (dC, dI)) (ci := 7) (v := .ref w_o) (C := RX7) (T := TX7) (N := 11) hx hb hts hinX7_pass_X7 hown hK hP 0 rfl rfl 0 (by decide) (hts _ (List.mem_of_getElem? (i := 1) rfl)) (fun _ h9 => h9) rfl dX7_pass_31 ?_
      refine lv_iload_n hx hb dX7_pass_34 rfl (lv_at hl 1 rfl) ?_
      obtain ⟨wplace_35, wfirst_35, wsecond_35, wdrops_35, wstep_35, wdrifts_35, wtraits_35, hc35, hm⟩ := bd7_e hm
      refine k_callGVv (dC := dC) (dI := dI) (kc := kc) (As := [.int x1]) (rest := []) (Gs' := [wdX7 kc o_o w_o o_x_imageHall o_x_ahead o_x_notes o_x_imageNotes o_x_libraries o_x_reader o_x_acts o_x_tapes ohasImage olibraryCount, wdX2 kc w_o w_kind w_v w_place w_rows w_length w_first w_second w_drifts w_traits wpeople wkind wv wplace_35 wrows wleaves wlength wfirst_35 wsecond_35 wdrops_35 wstep_35 wlibrary wdrifts_35 wtraits_35, wdX3 kc b_o b_sorts b_letters b_numbers bsorts bletters bnumbers bsize bbear]) hx hb hml hown hts hK hP hD hS hA (ctX2_goOn (w_o := w_o) (w_kind := w_kind) (w_v := w_v) (w_place := w_place) (w_rows := w_rows) (w_length := w_length) (w_first := w_first) (w_second := w_second) (w_drifts := w_drifts) (w_traits := w_traits) (b_o := b_o) (b_sorts := b_sorts) (b_letters := b_letters) (b_numbers := b_numbers) (wpeople := wpeople) (wkind := wkind) (wv := wv) (wplace := wplace) (wrows := wrows) (wleaves := wleaves) (wlength := wlength) (wfirst := wfirst) (wsecond := wsecond) (wdrops := wdrops) (wstep := wstep) (wlibrary := wlibrary) (wdrifts := wdrifts) (wtraits := wtraits) (bsorts := bsorts) (bletters := bletters) (bnumbers := bnumbers) (bsize := bsize) (bbear := bbear) (x1 := x1) hc35 hlowlibrary) (cwV 1 hts gX7_pass_X2_goOn rfl rfl rfl (by decide +kernel) ⟨Nat.le_of_ble_eq_true rfl, Nat.le_of_ble_eq_true rfl⟩) [1, 2] rfl (by decide) 2 rfl rfl rfl rfl hl rfl (Nat.le_of_ble_eq_true rfl) dX7_pass_35 ⟨Nat.zero_le _, Nat.zero_le _⟩ rfl rfl rfl (fun H locs hP hD hS => ?_)
      refine lv_aload_n hx hb dX7_pass_38 rfl (lv_at hl 0 rfl) ?_
      refine va_get (D := (dC, dI)) (ci := 7) (v := .ref w_o) (C := RX7) (T := TX7) (N := 11) hx hb hts hinX7_pass_X7 hown hK hP 0 rfl rfl 0 (by decide) (hts _ (List.mem_of_getElem? (i := 1) rfl)) (fun _ h9 => h9) rfl dX7_pass_39 ?_
      refine lv_aload_n hx hb dX7_pass_42 rfl (lv_at hl 0 rfl) ?_
      refine va_get (D := (dC, dI)) (ci := 7) (v := .ref w_o) (C := RX7) (T := TX7) (N := 11) hx hb hts hinX7_pass_X7 hown hK hP 0 rfl rfl 0 (by decide) (hts _ (List.mem_of_getElem? (i := 1) rfl)) (fun _ h9 => h9) rfl dX7_pass_43 ?_
      refine va_get (D := (dC, dI)) (ci := 2) (v := .int wdrops_35) (C := RX2) (T := TX2) (N := 14) hx hb hts hinX7_pass_X2 hown hK hP 1 rfl rfl 9 (by decide) (hts _ (List.mem_of_getElem? (i := 3) rfl)) (fun _ h9 => h9) rfl dX7_pass_46 ?_
      refine lv_sipush (v := 9999) hx hb dX7_pass_49 (by decide) ?_
      refine va_mmin hx hb (hml.trans hl.1.symm) hown (hts _ (List.mem_of_getElem? (i := 4) rfl)) (hts _ (List.mem_of_getElem? (i := 5) rfl)) (hts _ (List.mem_of_getElem? (i := 6) rfl)) (hts _ (List.mem_of_getElem? (i := 7) rfl)) (Nat.le_of_ble_eq_true rfl) (Nat.le_of_ble_eq_true rfl) (Nat.zero_le _) (Nat.zero_le _) dX7_pass_52 ?_
      refine va_put (D := (dC, dI)) (ci := 2) (v := .int (jmin wdrops_35 9999)) (ty := .int) (C := RX2) (T := TX2) (N := 14) hx hb hts hinX7_pass_X2 tyX2 tyX2_ok nmX2 hown hK hP hD hS 1 rfl rfl 9 (by decide) (hts _ (List.mem_of_getElem? (i := 3) rfl)) (fun _ h9 => h9) rfl (by decide +kernel) rfl rfl (Nat.le_of_ble_eq_true rfl) dX7_pass_55 (fun H locs hP hD hS => ?_)
      have hP : va_P (dC, dI) vwCl (fl [wdX7 kc o_o w_o o_x_imageHall o_x_ahead o_x_notes o_x_imageNotes o_x_libraries o_x_reader o_x_acts o_x_tapes ohasImage olibraryCount, wdX2 kc w_o w_kind w_v w_place w_rows w_length w_first w_second w_drifts w_traits wpeople wkind wv wplace_35 wrows wleaves wlength wfirst_35 wsecond_35 (jmin wdrops_35 9999) wstep_35 wlibrary wdrifts_35 wtraits_35, wdX3 kc b_o b_sorts b_letters b_numbers bsorts bletters bnumbers bsize bbear]) H := hP
      have hD : va_D A (fl [wdX7 kc o_o w_o o_x_imageHall o_x_ahead o_x_notes o_x_imageNotes o_x_libraries o_x_reader o_x_acts o_x_tapes ohasImage olibraryCount, wdX2 kc w_o w_kind w_v w_place w_rows w_length w_first w_second w_drifts w_traits wpeople wkind wv wplace_35 wrows wleaves wlength wfirst_35 wsecond_35 (jmin wdrops_35 9999) wstep_35 wlibrary wdrifts_35 wtraits_35, wdX3 kc b_o b_sorts b_letters b_numbers bsorts bletters bnumbers bsize bbear]) := hD
      refine lv_aload_n hx hb dX7_pass_58 rfl (lv_at hl 0 rfl) ?_
      refine va_get (D := (dC, dI)) (ci := 7) (v := .ref w_o) (C := RX7) (T := TX7) (N := 11) hx hb hts hinX7_pass_X7 hown hK hP 0 rfl rfl 0 (by decide) (hts _ (List.mem_of_getElem? (i := 1) rfl)) (fun _ h9 => h9) rfl dX7_pass_59 ?_
      refine va_get (D := (dC, dI)) (ci := 2) (v := .int wstep_35) (C := RX2) (T := TX2) (N := 14) hx hb hts hinX7_pass_X2 hown hK hP 1 rfl rfl 10 (by decide) (hts _ (List.mem_of_getElem? (i := 2) rfl)) (fun _ h9 => h9) rfl dX7_pass_62 ?_
      cases hm
      exact k_iret hx hb hr hlocks hP hS dX7_pass_65
    · replace hm := it_f c24 hm
      refine lv_bipush (v := (-3)) hx hb dX7_pass_27 (by decide) ?_
      cases hm
      exact k_iret hx hb hr hlocks hP hS dX7_pass_29
  · replace hm := it_t c6 hm
    refine lv_bipush (v := (-2)) hx hb dX7_pass_9 (by decide) ?_
    cases hm
    exact k_iret hx hb hr hlocks hP hS dX7_pass_11
