def fJ0_coder_7d493 : Option Int32 := some (0 : Int32)
abbrev rmJ0_coder_7d493 : Room := { frames := 0, cells := 0, slots := 0, locals := 12 }
set_option maxHeartbeats 4000000 in
set_option maxRecDepth 100000 in
theorem ctJ0_coder_7d493 {l : Launch} {dC : Nat → ClassId} {dI : Nat → Nat → Nat} {kc : Nat → ClassId} {s_q s_v : Nat} {sL : Nat} {sb : Nat → Int32} {sf : Option Nat} {r : Int32} (hm : fJ0_coder_7d493  = some r) : ∀ sz : Nat, Met l yJ0_coder_7d493 wsJ0_coder_7d493 rmJ0_coder_7d493 (kPcX dC dI kc (xW s_q s_v sL sb sf) [.ref s_q] (fl []) sz) (kQi dC dI r (fl []) (va_A (fl []) sz)) 0 0 (va_A (fl []) sz) := by
  intro sz
  refine kMetX (cc := cJ0_coder_7d493) (maxL := 1) (ret := (some .byte)) (Qf := fun A => kQi dC dI r (fl []) A) (by decide) rfl (Nat.le_of_ble_eq_true rfl) ?_
  intro p e s m below meth c A ls hx hb hr hml hts hown hlocks hname hsz hA hP hK hD hX hl
  have hS : va_S A s.heap s.heap [] := va_S.rf
  have hl : lv_has ls 1 [(0, .ref s_q)] := hl
  unfold fJ0_coder_7d493 at hm
  refine va_gets hx hb hX.2.2.2.2.1 hS hown (hts _ (List.mem_of_getElem? (i := 1) rfl)) (fun _ h9 => h9) dJ0_coder_7d493_0 ?_
  refine lv_if_eq (tgt := 13) hx hb dJ0_coder_7d493_3 (by decide) (fun c3 => ?_) (fun c3 => ?_)
  · exact absurd c3 (by decide)
  refine lv_aload_n hx hb dJ0_coder_7d493_6 rfl (lv_at hl 0 rfl) ?_
  refine vk_getf (o := "java/lang/String") (n := "coder") (d := "B") hx hb hX.2.1 hS hown (hts _ (List.mem_of_getElem? (i := 2) rfl)) (fun _ h9 => h9) dJ0_coder_7d493_7 ?_
  refine lv_goto (tgt := 14) hx hb dJ0_coder_7d493_10 (by decide) ?_
  cases hm
  exact k_nret hx hb hr hlocks rfl hP hS dJ0_coder_7d493_14
def fJ0_isLatin1_aae02 : Option Int32 := some (1 : Int32)
abbrev rmJ0_isLatin1_aae02 : Room := { frames := 0, cells := 0, slots := 0, locals := 12 }
set_option maxHeartbeats 4000000 in
set_option maxRecDepth 100000 in
theorem ctJ0_isLatin1_aae02 {l : Launch} {dC : Nat → ClassId} {dI : Nat → Nat → Nat} {kc : Nat → ClassId} {s_q s_v : Nat} {sL : Nat} {sb : Nat → Int32} {sf : Option Nat} {r : Int32} (hm : fJ0_isLatin1_aae02  = some r) : ∀ sz : Nat, Met l yJ0_isLatin1_aae02 wsJ0_isLatin1_aae02 rmJ0_isLatin1_aae02 (kPcX dC dI kc (xW s_q s_v sL sb sf) [.ref s_q] (fl []) sz) (kQi dC dI r (fl []) (va_A (fl []) sz)) 0 0 (va_A (fl []) sz) := by
  intro sz
  refine kMetX (cc := cJ0_isLatin1_aae02) (maxL := 1) (ret := (some .boolean)) (Qf := fun A => kQi dC dI r (fl []) A) (by decide) rfl (Nat.le_of_ble_eq_true rfl) ?_
  intro p e s m below meth c A ls hx hb hr hml hts hown hlocks hname hsz hA hP hK hD hX hl
  have hS : va_S A s.heap s.heap [] := va_S.rf
  have hl : lv_has ls 1 [(0, .ref s_q)] := hl
  unfold fJ0_isLatin1_aae02 at hm
  refine va_gets hx hb hX.2.2.2.2.1 hS hown (hts _ (List.mem_of_getElem? (i := 1) rfl)) (fun _ h9 => h9) dJ0_isLatin1_aae02_0 ?_
  refine lv_if_eq (tgt := 17) hx hb dJ0_isLatin1_aae02_3 (by decide) (fun c3 => ?_) (fun c3 => ?_)
  · exact absurd c3 (by decide)
  refine lv_aload_n hx hb dJ0_isLatin1_aae02_6 rfl (lv_at hl 0 rfl) ?_
  refine vk_getf (o := "java/lang/String") (n := "coder") (d := "B") hx hb hX.2.1 hS hown (hts _ (List.mem_of_getElem? (i := 2) rfl)) (fun _ h9 => h9) dJ0_isLatin1_aae02_7 ?_
  refine lv_if_ne (tgt := 17) hx hb dJ0_isLatin1_aae02_10 (by decide) (fun c10 => ?_) (fun c10 => ?_)
  · exact absurd c10 (by decide)
  refine lv_iconst (v := 1) hx hb dJ0_isLatin1_aae02_13 (by decide) ?_
  refine lv_goto (tgt := 18) hx hb dJ0_isLatin1_aae02_14 (by decide) ?_
  cases hm
  exact k_zret hx hb hr hlocks (by decide) hP hS dJ0_isLatin1_aae02_18
def fJ0_length_8abf5 (sL : Nat) : Option Int32 := some ((nI sL) >>> (0 &&& 31))
abbrev rmJ0_length_8abf5 : Room := { frames := 1, cells := 0, slots := 0, locals := 32 }
set_option maxHeartbeats 4000000 in
set_option maxRecDepth 100000 in
theorem ctJ0_length_8abf5 {l : Launch} {dC : Nat → ClassId} {dI : Nat → Nat → Nat} {kc : Nat → ClassId} {s_q s_v : Nat} {sL : Nat} {sb : Nat → Int32} {sf : Option Nat} {r : Int32} (hm : fJ0_length_8abf5 sL = some r) : ∀ sz : Nat, Met l yJ0_length_8abf5 wsJ0_length_8abf5 rmJ0_length_8abf5 (kPcX dC dI kc (xW s_q s_v sL sb sf) [.ref s_q] (fl []) sz) (kQi dC dI r (fl []) (va_A (fl []) sz)) 0 0 (va_A (fl []) sz) := by
  intro sz
  refine kMetX (cc := cJ0_length_8abf5) (maxL := 1) (ret := (some .int)) (Qf := fun A => kQi dC dI r (fl []) A) (by decide) rfl (Nat.le_of_ble_eq_true rfl) ?_
  intro p e s m below meth c A ls hx hb hr hml hts hown hlocks hname hsz hA hP hK hD hX hl
  have hS : va_S A s.heap s.heap [] := va_S.rf
  have hl : lv_has ls 1 [(0, .ref s_q)] := hl
  unfold fJ0_length_8abf5 at hm
  refine lv_aload_n hx hb dJ0_length_8abf5_0 rfl (lv_at hl 0 rfl) ?_
  refine vk_getf (o := "java/lang/String") (n := "value") (d := "[B") hx hb hX.2.2.1 hS hown (hts _ (List.mem_of_getElem? (i := 1) rfl)) (fun _ h9 => h9) dJ0_length_8abf5_1 ?_
  refine va_tlen hx hb hX.2.2.2.1 hS (v := nI sL) rfl dJ0_length_8abf5_4 ?_
  refine lv_aload_n hx hb dJ0_length_8abf5_5 rfl (lv_at hl 0 rfl) ?_
  refine k_callXGVi (dC := dC) (dI := dI) (kc := kc) (As := []) (rest := [.int (nI sL)]) (Gs' := []) hx hb hml hown hts hK hP hD hS hA xW_ok hX (ctJ0_coder_7d493 (s_q := s_q) (s_v := s_v) (sL := sL) (sb := sb) (sf := sf) rfl) (cwV 0 hts gJ0_length_8abf5_J0_coder_7d493 rfl rfl rfl (by decide +kernel) ⟨Nat.le_of_ble_eq_true rfl, Nat.le_of_ble_eq_true rfl⟩) [] rfl (by decide) (xW_recv hX hS) rfl hl rfl (Nat.le_of_ble_eq_true rfl) dJ0_length_8abf5_6 ⟨Nat.zero_le _, Nat.zero_le _⟩ rfl rfl rfl (fun H locs hP hD hS => ?_)
  refine lv_ishr hx hb dJ0_length_8abf5_9 ?_
  cases hm
  exact k_iret hx hb hr hlocks hP hS dJ0_length_8abf5_10
def fJ3_checkIndex_8e157 (x1 : Int32) (x2 : Int32) : Option Int32 := if x1 < 0 then (none) else (if x1 < x2 then (some x1) else (none))
abbrev rmJ3_checkIndex_8e157 : Room := { frames := 0, cells := 0, slots := 0, locals := 12 }
set_option maxHeartbeats 4000000 in
set_option maxRecDepth 100000 in
theorem ctJ3_checkIndex_8e157 {l : Launch} {dC : Nat → ClassId} {dI : Nat → Nat → Nat} {kc : Nat → ClassId} {s_q s_v : Nat} {sL : Nat} {sb : Nat → Int32} {sf : Option Nat} {x1 : Int32} {x2 : Int32} {r : Int32} (hm : fJ3_checkIndex_8e157 x1 x2 = some r) : ∀ sz : Nat, Met l yJ3_checkIndex_8e157 wsJ3_checkIndex_8e157 rmJ3_checkIndex_8e157 (kPc dC dI kc [.int x1, .int x2, va_rf sf] (fl []) sz) (kQi dC dI r (fl []) (va_A (fl []) sz)) 0 0 (va_A (fl []) sz) := by
  intro sz
  refine kMet (cc := cJ3_checkIndex_8e157) (maxL := 3) (ret := (some .int)) (Qf := fun A => kQi dC dI r (fl []) A) (by decide) rfl (by cases sf <;> exact Nat.le_of_ble_eq_true rfl) ?_
  intro p e s m below meth c A ls hx hb hr hml hts hown hlocks hname hsz hA hP hK hD hl
  have hS : va_S A s.heap s.heap [] := va_S.rf
  have hl : lv_has ls 3 [(0, .int x1), (1, .int x2), (2, va_rf sf)] := hl
  unfold fJ3_checkIndex_8e157 at hm
  refine lv_iload_n hx hb dJ3_checkIndex_8e157_0 rfl (lv_at hl 0 rfl) ?_
  refine lv_if_lt (tgt := 9) hx hb dJ3_checkIndex_8e157_1 (by decide) (fun c1 => ?_) (fun c1 => ?_)
  · replace hm := it_t c1 hm
    cases hm
  · replace hm := it_f c1 hm
    refine lv_iload_n hx hb dJ3_checkIndex_8e157_4 rfl (lv_at hl 0 rfl) ?_
    refine lv_iload_n hx hb dJ3_checkIndex_8e157_5 rfl (lv_at hl 1 rfl) ?_
    refine lv_icmp_lt (tgt := 16) hx hb dJ3_checkIndex_8e157_6 (by decide) (fun c6 => ?_) (fun c6 => ?_)
    · replace hm := it_t c6 hm
      refine lv_iload_n hx hb dJ3_checkIndex_8e157_16 rfl (lv_at hl 0 rfl) ?_
      cases hm
      exact k_iret hx hb hr hlocks hP hS dJ3_checkIndex_8e157_17
    · replace hm := it_f c6 hm
      cases hm
def fJ0_checkIndex_df160 (x1 : Int32) (x2 : Int32) : Option Unit := bd1 (fJ3_checkIndex_8e157 x1 x2) (fun r5 => some ())
abbrev rmJ0_checkIndex_df160 : Room := { frames := 1, cells := 0, slots := 0, locals := 34 }
set_option maxHeartbeats 4000000 in
set_option maxRecDepth 100000 in
theorem ctJ0_checkIndex_df160 {l : Launch} {dC : Nat → ClassId} {dI : Nat → Nat → Nat} {kc : Nat → ClassId} {s_q s_v : Nat} {sL : Nat} {sb : Nat → Int32} {sf : Option Nat} {x1 : Int32} {x2 : Int32} (hm : fJ0_checkIndex_df160 x1 x2 = some ()) : ∀ sz : Nat, Met l yJ0_checkIndex_df160 wsJ0_checkIndex_df160 rmJ0_checkIndex_df160 (kPcX dC dI kc (xW s_q s_v sL sb sf) [.int x1, .int x2] (fl []) sz) (kQv dC dI (fl []) (va_A (fl []) sz)) 0 0 (va_A (fl []) sz) := by
  intro sz
  refine kMetX (cc := cJ0_checkIndex_df160) (maxL := 2) (ret := none) (Qf := fun A => kQv dC dI (fl []) A) (by decide) rfl (Nat.le_of_ble_eq_true rfl) ?_
  intro p e s m below meth c A ls hx hb hr hml hts hown hlocks hname hsz hA hP hK hD hX hl
  have hS : va_S A s.heap s.heap [] := va_S.rf
  have hl : lv_has ls 2 [(0, .int x1), (1, .int x2)] := hl
  unfold fJ0_checkIndex_df160 at hm
  refine lv_iload_n hx hb dJ0_checkIndex_df160_0 rfl (lv_at hl 0 rfl) ?_
  refine lv_iload_n hx hb dJ0_checkIndex_df160_1 rfl (lv_at hl 1 rfl) ?_
  refine va_gets hx hb hX.2.2.2.2.2 hS hown (hts _ (List.mem_of_getElem? (i := 1) rfl)) (fun _ h9 => h9) dJ0_checkIndex_df160_2 ?_
  obtain ⟨r5, hc5, hm⟩ := bd1_e hm
  refine k_callGSi (dC := dC) (dI := dI) (kc := kc) (As := [.int x1, .int x2, va_rf sf]) (rest := []) (Gs' := []) hx hb hml hown hts hK hP hD hS hA (ctJ3_checkIndex_8e157 (s_q := s_q) (s_v := s_v) (sL := sL) (sb := sb) (sf := sf) (x1 := x1) (x2 := x2) hc5) (va_cwS 3 hts gJ0_checkIndex_df160_J3_checkIndex_8e157 rfl rfl rfl (by decide +kernel) ⟨Nat.le_of_ble_eq_true rfl, Nat.le_of_ble_eq_true rfl⟩) [] rfl (by decide) rfl hl rfl (Nat.le_of_ble_eq_true rfl) dJ0_checkIndex_df160_5 ⟨Nat.zero_le _, Nat.zero_le _⟩ rfl rfl rfl (fun H locs hP hD hS => ?_)
  refine lv_pop hx hb dJ0_checkIndex_df160_8 rfl ?_
  cases hm
  exact k_vret hx hb hr hlocks hP hS dJ0_checkIndex_df160_9
def fJ1_charAt_3b067 (sL : Nat) (sb : Nat → Int32) (x2 : Int32) : Option Int32 := bd1 (fJ0_checkIndex_df160 x2 (nI sL)) (fun u3 => gd (inb x2 sL) (gd (vp_nar .char ((((sb (x2.toNatClampNeg)) &&& 255).toUInt32 % 65536).toInt32) = ((((sb (x2.toNatClampNeg)) &&& 255).toUInt32 % 65536).toInt32)) (some ((((sb (x2.toNatClampNeg)) &&& 255).toUInt32 % 65536).toInt32))))
abbrev rmJ1_charAt_3b067 : Room := { frames := 2, cells := 0, slots := 0, locals := 55 }
set_option maxHeartbeats 4000000 in
set_option maxRecDepth 100000 in
theorem ctJ1_charAt_3b067 {l : Launch} {dC : Nat → ClassId} {dI : Nat → Nat → Nat} {kc : Nat → ClassId} {s_q s_v : Nat} {sL : Nat} {sb : Nat → Int32} {sf : Option Nat} {x2 : Int32} {r : Int32} (hm : fJ1_charAt_3b067 sL sb x2 = some r) : ∀ sz : Nat, Met l yJ1_charAt_3b067 wsJ1_charAt_3b067 rmJ1_charAt_3b067 (kPcX dC dI kc (xW s_q s_v sL sb sf) [.ref s_v, .int x2] (fl []) sz) (kQi dC dI r (fl []) (va_A (fl []) sz)) 0 0 (va_A (fl []) sz) := by
  intro sz
  refine kMetX (cc := cJ1_charAt_3b067) (maxL := 2) (ret := (some .char)) (Qf := fun A => kQi dC dI r (fl []) A) (by decide) rfl (Nat.le_of_ble_eq_true rfl) ?_
  intro p e s m below meth c A ls hx hb hr hml hts hown hlocks hname hsz hA hP hK hD hX hl
  have hS : va_S A s.heap s.heap [] := va_S.rf
  have hl : lv_has ls 2 [(0, .ref s_v), (1, .int x2)] := hl
  unfold fJ1_charAt_3b067 at hm
  refine lv_iload_n hx hb dJ1_charAt_3b067_0 rfl (lv_at hl 1 rfl) ?_
  refine lv_aload_n hx hb dJ1_charAt_3b067_1 rfl (lv_at hl 0 rfl) ?_
  refine va_tlen hx hb hX.2.2.2.1 hS (v := nI sL) rfl dJ1_charAt_3b067_2 ?_
  obtain ⟨u3, hc3, hm⟩ := bd1_e hm
  refine k_callXGSv (dC := dC) (dI := dI) (kc := kc) (As := [.int x2, .int (nI sL)]) (rest := []) (Gs' := []) hx hb hml hown hts hK hP hD hS hA xW_ok hX (ctJ0_checkIndex_df160 (s_q := s_q) (s_v := s_v) (sL := sL) (sb := sb) (sf := sf) (x1 := x2) (x2 := nI sL) hc3) (va_cwS 2 hts gJ1_charAt_3b067_J0_checkIndex_df160 rfl rfl rfl (by decide +kernel) ⟨Nat.le_of_ble_eq_true rfl, Nat.le_of_ble_eq_true rfl⟩) [] rfl (by decide) rfl hl rfl (Nat.le_of_ble_eq_true rfl) dJ1_charAt_3b067_3 ⟨Nat.zero_le _, Nat.zero_le _⟩ rfl rfl rfl (fun H locs hP hD hS => ?_)
  refine lv_aload_n hx hb dJ1_charAt_3b067_6 rfl (lv_at hl 0 rfl) ?_
  refine lv_iload_n hx hb dJ1_charAt_3b067_7 rfl (lv_at hl 1 rfl) ?_
  obtain ⟨hg8, hm⟩ := gd_e hm
  refine va_tb hx hb hX.2.2.2.1 hS hg8 (v := .int (sb (x2.toNatClampNeg))) rfl dJ1_charAt_3b067_8 ?_
  refine lv_sipush (v := 255) hx hb dJ1_charAt_3b067_9 (by decide) ?_
  refine lv_iand hx hb dJ1_charAt_3b067_12 ?_
  refine lv_i2c hx hb dJ1_charAt_3b067_13 rfl ?_
  obtain ⟨hz14, hm⟩ := gd_e hm
  cases hm
  exact k_nret hx hb hr hlocks (nar_c hz14) hP hS dJ1_charAt_3b067_14
def fJ0_charAt_5068e (sL : Nat) (sb : Nat → Int32) (x1 : Int32) : Option Int32 := bd1 (fJ1_charAt_3b067 sL sb x1) (fun r12 => gd (vp_nar .char r12 = r12) (some r12))
abbrev rmJ0_charAt_5068e : Room := { frames := 3, cells := 0, slots := 0, locals := 76 }
set_option maxHeartbeats 4000000 in
set_option maxRecDepth 100000 in
theorem ctJ0_charAt_5068e {l : Launch} {dC : Nat → ClassId} {dI : Nat → Nat → Nat} {kc : Nat → ClassId} {s_q s_v : Nat} {sL : Nat} {sb : Nat → Int32} {sf : Option Nat} {x1 : Int32} {r : Int32} (hm : fJ0_charAt_5068e sL sb x1 = some r) : ∀ sz : Nat, Met l yJ0_charAt_5068e wsJ0_charAt_5068e rmJ0_charAt_5068e (kPcX dC dI kc (xW s_q s_v sL sb sf) [.ref s_q, .int x1] (fl []) sz) (kQi dC dI r (fl []) (va_A (fl []) sz)) 0 0 (va_A (fl []) sz) := by
  intro sz
  refine kMetX (cc := cJ0_charAt_5068e) (maxL := 2) (ret := (some .char)) (Qf := fun A => kQi dC dI r (fl []) A) (by decide) rfl (Nat.le_of_ble_eq_true rfl) ?_
  intro p e s m below meth c A ls hx hb hr hml hts hown hlocks hname hsz hA hP hK hD hX hl
  have hS : va_S A s.heap s.heap [] := va_S.rf
  have hl : lv_has ls 2 [(0, .ref s_q), (1, .int x1)] := hl
  unfold fJ0_charAt_5068e at hm
  refine lv_aload_n hx hb dJ0_charAt_5068e_0 rfl (lv_at hl 0 rfl) ?_
  refine k_callXGVi (dC := dC) (dI := dI) (kc := kc) (As := []) (rest := []) (Gs' := []) hx hb hml hown hts hK hP hD hS hA xW_ok hX (ctJ0_isLatin1_aae02 (s_q := s_q) (s_v := s_v) (sL := sL) (sb := sb) (sf := sf) rfl) (cwV 0 hts gJ0_charAt_5068e_J0_isLatin1_aae02 rfl rfl rfl (by decide +kernel) ⟨Nat.le_of_ble_eq_true rfl, Nat.le_of_ble_eq_true rfl⟩) [] rfl (by decide) (xW_recv hX hS) rfl hl rfl (Nat.le_of_ble_eq_true rfl) dJ0_charAt_5068e_1 ⟨Nat.zero_le _, Nat.zero_le _⟩ rfl rfl rfl (fun H locs hP hD hS => ?_)
  refine lv_if_eq (tgt := 16) hx hb dJ0_charAt_5068e_4 (by decide) (fun c4 => ?_) (fun c4 => ?_)
  · exact absurd c4 (by decide)
  refine lv_aload_n hx hb dJ0_charAt_5068e_7 rfl (lv_at hl 0 rfl) ?_
  refine vk_getf (o := "java/lang/String") (n := "value") (d := "[B") hx hb hX.2.2.1 hS hown (hts _ (List.mem_of_getElem? (i := 1) rfl)) (fun _ h9 => h9) dJ0_charAt_5068e_8 ?_
  refine lv_iload_n hx hb dJ0_charAt_5068e_11 rfl (lv_at hl 1 rfl) ?_
  obtain ⟨r12, hc12, hm⟩ := bd1_e hm
  refine k_callXGSi (dC := dC) (dI := dI) (kc := kc) (As := [.ref s_v, .int x1]) (rest := []) (Gs' := []) hx hb hml hown hts hK hP hD hS hA xW_ok hX (ctJ1_charAt_3b067 (s_q := s_q) (s_v := s_v) (sL := sL) (sb := sb) (sf := sf) (x2 := x1) hc12) (va_cwS 2 hts gJ0_charAt_5068e_J1_charAt_3b067 rfl rfl rfl (by decide +kernel) ⟨Nat.le_of_ble_eq_true rfl, Nat.le_of_ble_eq_true rfl⟩) [] rfl (by decide) rfl hl rfl (Nat.le_of_ble_eq_true rfl) dJ0_charAt_5068e_12 ⟨Nat.zero_le _, Nat.zero_le _⟩ rfl rfl rfl (fun H locs hP hD hS => ?_)
  obtain ⟨hz15, hm⟩ := gd_e hm
  cases hm
  exact k_nret hx hb hr hlocks (nar_c hz15) hP hS dJ0_charAt_5068e_15
def fJ1_canEncode_9a6ad (x1 : Int32) : Option Int32 := if x1 < 0 then (some (0 : Int32)) else (if 255 < x1 then (some (0 : Int32)) else (some (1 : Int32)))
abbrev rmJ1_canEncode_9a6ad : Room := { frames := 0, cells := 0, slots := 0, locals := 12 }
set_option maxHeartbeats 4000000 in
set_option maxRecDepth 100000 in
theorem ctJ1_canEncode_9a6ad {l : Launch} {dC : Nat → ClassId} {dI : Nat → Nat → Nat} {kc : Nat → ClassId} {x1 : Int32} {r : Int32} (hm : fJ1_canEncode_9a6ad x1 = some r) : ∀ sz : Nat, Met l yJ1_canEncode_9a6ad wsJ1_canEncode_9a6ad rmJ1_canEncode_9a6ad (kPc dC dI kc [.int x1] (fl []) sz) (kQi dC dI r (fl []) (va_A (fl []) sz)) 0 0 (va_A (fl []) sz) := by
  intro sz
  refine kMet (cc := cJ1_canEncode_9a6ad) (maxL := 1) (ret := (some .boolean)) (Qf := fun A => kQi dC dI r (fl []) A) (by decide) rfl (Nat.le_of_ble_eq_true rfl) ?_
  intro p e s m below meth c A ls hx hb hr hml hts hown hlocks hname hsz hA hP hK hD hl
  have hS : va_S A s.heap s.heap [] := va_S.rf
  have hl : lv_has ls 1 [(0, .int x1)] := hl
  unfold fJ1_canEncode_9a6ad at hm
  refine lv_iload_n hx hb dJ1_canEncode_9a6ad_0 rfl (lv_at hl 0 rfl) ?_
  refine lv_if_lt (tgt := 15) hx hb dJ1_canEncode_9a6ad_1 (by decide) (fun c1 => ?_) (fun c1 => ?_)
  · replace hm := it_t c1 hm
    refine lv_iconst (v := 0) hx hb dJ1_canEncode_9a6ad_15 (by decide) ?_
    cases hm
    exact k_zret hx hb hr hlocks (by decide) hP hS dJ1_canEncode_9a6ad_16
  · replace hm := it_f c1 hm
    refine lv_iload_n hx hb dJ1_canEncode_9a6ad_4 rfl (lv_at hl 0 rfl) ?_
    refine lv_sipush (v := 255) hx hb dJ1_canEncode_9a6ad_5 (by decide) ?_
    refine lv_icmp_gt (tgt := 15) hx hb dJ1_canEncode_9a6ad_8 (by decide) (fun c8 => ?_) (fun c8 => ?_)
    · replace hm := it_t c8 hm
      refine lv_iconst (v := 0) hx hb dJ1_canEncode_9a6ad_15 (by decide) ?_
      cases hm
      exact k_zret hx hb hr hlocks (by decide) hP hS dJ1_canEncode_9a6ad_16
    · replace hm := it_f c8 hm
      refine lv_iconst (v := 1) hx hb dJ1_canEncode_9a6ad_11 (by decide) ?_
      refine lv_goto (tgt := 16) hx hb dJ1_canEncode_9a6ad_12 (by decide) ?_
      cases hm
      exact k_zret hx hb hr hlocks (by decide) hP hS dJ1_canEncode_9a6ad_16
def LJ1_indexOfChar_4cfef_7 (sL : Nat) (sb : Nat → Int32) (x2 : Int32) (x4 : Int32) : Nat → Int32 → Option Int32
  | 0, _ => none
  | n7 + 1, l5_7 => if x4 ≤ l5_7 then (some ((-1) : Int32)) else (gd (inb l5_7 sL) (if (sb (l5_7.toNatClampNeg)) = x2.toInt8.toInt32 then (some l5_7) else (LJ1_indexOfChar_4cfef_7 sL sb x2 x4 n7 (l5_7 + 1))))
def fJ1_indexOfChar_4cfef (fu : Nat) (sL : Nat) (sb : Nat → Int32) (x2 : Int32) (x3 : Int32) (x4 : Int32) : Option Int32 := LJ1_indexOfChar_4cfef_7 sL sb x2 x4 fu x3
abbrev rmJ1_indexOfChar_4cfef : Room := { frames := 0, cells := 0, slots := 0, locals := 12 }
set_option maxHeartbeats 4000000 in
set_option maxRecDepth 100000 in
theorem ctJ1_indexOfChar_4cfef {l : Launch} {dC : Nat → ClassId} {dI : Nat → Nat → Nat} {kc : Nat → ClassId} {s_q s_v : Nat} {sL : Nat} {sb : Nat → Int32} {sf : Option Nat} {x2 : Int32} {x3 : Int32} {x4 : Int32} {fu : Nat} {r : Int32} (hm : fJ1_indexOfChar_4cfef fu sL sb x2 x3 x4 = some r) : ∀ sz : Nat, Met l yJ1_indexOfChar_4cfef wsJ1_indexOfChar_4cfef rmJ1_indexOfChar_4cfef (kPcX dC dI kc (xW s_q s_v sL sb sf) [.ref s_v, .int x2, .int x3, .int x4] (fl []) sz) (kQi dC dI r (fl []) (va_A (fl []) sz)) 0 0 (va_A (fl []) sz) := by
  intro sz
  refine kMetX (cc := cJ1_indexOfChar_4cfef) (maxL := 6) (ret := (some .int)) (Qf := fun A => kQi dC dI r (fl []) A) (by decide) rfl (Nat.le_of_ble_eq_true rfl) ?_
  intro p e s m below meth c A ls hx hb hr hml hts hown hlocks hname hsz hA hP hK hD hX hl
  have hS : va_S A s.heap s.heap [] := va_S.rf
  have hl : lv_has ls 6 [(0, .ref s_v), (1, .int x2), (2, .int x3), (3, .int x4)] := hl
  unfold fJ1_indexOfChar_4cfef at hm
  refine lv_iload_n hx hb dJ1_indexOfChar_4cfef_0 rfl (lv_at hl 1 rfl) ?_
  refine lv_i2b hx hb dJ1_indexOfChar_4cfef_1 rfl ?_
  refine lv_istore (lv' := [(4, .int x2.toInt8.toInt32), (0, .ref s_v), (1, .int x2), (2, .int x3), (3, .int x4)]) hx hb dJ1_indexOfChar_4cfef_2 hl (by decide) rfl (fun ls hl => ?_)
  refine lv_iload_n hx hb dJ1_indexOfChar_4cfef_4 rfl (lv_at hl 3 rfl) ?_
  refine lv_istore (lv' := [(5, .int x3), (4, .int x2.toInt8.toInt32), (0, .ref s_v), (1, .int x2), (2, .int x3), (3, .int x4)]) hx hb dJ1_indexOfChar_4cfef_5 hl (by decide) rfl (fun ls hl => ?_)
  have hL7 : ∀ (fn : Nat) (l5_7 : Int32), LJ1_indexOfChar_4cfef_7 sL sb x2 x4 fn l5_7 = some r → ∀ (H : Heap) (locs : List Loc), va_P (dC, dI) vwCl (fl []) H → va_D A (fl []) → va_S A s.heap H locs → ∀ ls : Array Slot, lv_has ls 6 [(0, .ref s_v), (3, .int x4), (4, .int x2.toInt8.toInt32), (5, .int l5_7)] → W p l e (headSpec wsJ1_indexOfChar_4cfef rmJ1_indexOfChar_4cfef).room s m [.ref s_v, .int x2, .int x3, .int x4].toArray below meth c H locs 0 0 (MQ below (kQi dC dI r (fl []) A) [.ref s_v, .int x2, .int x3, .int x4].toArray s 0 0 A) (F0 m 7 ls []) := by
    clear hm hP hD hS hl
    intro n7
    induction n7 with
    | zero => intro l5_7 hm; rw [LJ1_indexOfChar_4cfef_7] at hm; cases hm
    | succ n7 ih7 =>
      intro l5_7 hm H locs hP hD hS ls hl
      rw [LJ1_indexOfChar_4cfef_7] at hm
      refine lv_iload hx hb dJ1_indexOfChar_4cfef_7 (lv_at hl 3 rfl) ?_
      refine lv_iload_n hx hb dJ1_indexOfChar_4cfef_9 rfl (lv_at hl 1 rfl) ?_
      refine lv_icmp_ge (tgt := 31) hx hb dJ1_indexOfChar_4cfef_10 (by decide) (fun c10 => ?_) (fun c10 => ?_)
      · replace hm := it_t c10 hm
        refine lv_iconst (v := (-1)) hx hb dJ1_indexOfChar_4cfef_31 (by decide) ?_
        cases hm
        exact k_iret hx hb hr hlocks hP hS dJ1_indexOfChar_4cfef_32
      · replace hm := it_f c10 hm
        refine lv_aload_n hx hb dJ1_indexOfChar_4cfef_13 rfl (lv_at hl 0 rfl) ?_
        refine lv_iload hx hb dJ1_indexOfChar_4cfef_14 (lv_at hl 3 rfl) ?_
        obtain ⟨hg16, hm⟩ := gd_e hm
        refine va_tb hx hb hX.2.2.2.1 hS hg16 (v := .int (sb (l5_7.toNatClampNeg))) rfl dJ1_indexOfChar_4cfef_16 ?_
        refine lv_iload hx hb dJ1_indexOfChar_4cfef_17 (lv_at hl 2 rfl) ?_
        refine lv_icmp_ne (tgt := 25) hx hb dJ1_indexOfChar_4cfef_19 (by decide) (fun c19 => ?_) (fun c19 => ?_)
        · replace hm := it_f c19 hm
          refine lv_iinc (v := l5_7 + 1) (lv' := [(5, .int (l5_7 + 1)), (0, .ref s_v), (3, .int x4), (4, .int x2.toInt8.toInt32)]) hx hb dJ1_indexOfChar_4cfef_25 hl (k := 3) rfl rfl (by decide) rfl (fun ls hl => ?_)
          refine lv_goto (tgt := 7) hx hb dJ1_indexOfChar_4cfef_28 (by decide) ?_
          exact ih7 (l5_7 + 1) hm _ _ hP hD hS _ (lv_sub hl [1, 2, 3, 0] rfl)
        · replace hm := it_t c19 hm
          refine lv_iload hx hb dJ1_indexOfChar_4cfef_22 (lv_at hl 3 rfl) ?_
          cases hm
          exact k_iret hx hb hr hlocks hP hS dJ1_indexOfChar_4cfef_24
  exact hL7 _ _ hm _ _ hP hD hS _ (lv_sub hl [2, 5, 1, 0] rfl)
def fJ1_indexOf_4cfef (fu : Nat) (sL : Nat) (sb : Nat → Int32) (x2 : Int32) (x3 : Int32) (x4 : Int32) : Option Int32 := bd1 (fJ1_canEncode_9a6ad x2) (fun r1 => if r1 = 0 then (some ((-1) : Int32)) else (if (jmax x3 0) < (jmin x4 (nI sL)) then (bd1 (fJ1_indexOfChar_4cfef fu sL sb x2 (jmax x3 0) (jmin x4 (nI sL))) (fun r33 => some r33)) else (some ((-1) : Int32))))
abbrev rmJ1_indexOf_4cfef : Room := { frames := 1, cells := 0, slots := 0, locals := 37 }
set_option maxHeartbeats 4000000 in
set_option maxRecDepth 100000 in
theorem ctJ1_indexOf_4cfef {l : Launch} {dC : Nat → ClassId} {dI : Nat → Nat → Nat} {kc : Nat → ClassId} {s_q s_v : Nat} {sL : Nat} {sb : Nat → Int32} {sf : Option Nat} {x2 : Int32} {x3 : Int32} {x4 : Int32} {fu : Nat} {r : Int32} (hm : fJ1_indexOf_4cfef fu sL sb x2 x3 x4 = some r) : ∀ sz : Nat, Met l yJ1_indexOf_4cfef wsJ1_indexOf_4cfef rmJ1_indexOf_4cfef (kPcX dC dI kc (xW s_q s_v sL sb sf) [.ref s_v, .int x2, .int x3, .int x4] (fl []) sz) (kQi dC dI r (fl []) (va_A (fl []) sz)) 0 0 (va_A (fl []) sz) := by
  intro sz
  refine kMetX (cc := cJ1_indexOf_4cfef) (maxL := 4) (ret := (some .int)) (Qf := fun A => kQi dC dI r (fl []) A) (by decide) rfl (Nat.le_of_ble_eq_true rfl) ?_
  intro p e s m below meth c A ls hx hb hr hml hts hown hlocks hname hsz hA hP hK hD hX hl
  have hS : va_S A s.heap s.heap [] := va_S.rf
  have hl : lv_has ls 4 [(0, .ref s_v), (1, .int x2), (2, .int x3), (3, .int x4)] := hl
  unfold fJ1_indexOf_4cfef at hm
  refine lv_iload_n hx hb dJ1_indexOf_4cfef_0 rfl (lv_at hl 1 rfl) ?_
  obtain ⟨r1, hc1, hm⟩ := bd1_e hm
  refine k_callGSi (dC := dC) (dI := dI) (kc := kc) (As := [.int x2]) (rest := []) (Gs' := []) hx hb hml hown hts hK hP hD hS hA (ctJ1_canEncode_9a6ad (x1 := x2) hc1) (va_cwS 1 hts gJ1_indexOf_4cfef_J1_canEncode_9a6ad rfl rfl rfl (by decide +kernel) ⟨Nat.le_of_ble_eq_true rfl, Nat.le_of_ble_eq_true rfl⟩) [] rfl (by decide) rfl hl rfl (Nat.le_of_ble_eq_true rfl) dJ1_indexOf_4cfef_1 ⟨Nat.zero_le _, Nat.zero_le _⟩ rfl rfl rfl (fun H locs hP hD hS => ?_)
  refine lv_if_ne (tgt := 9) hx hb dJ1_indexOf_4cfef_4 (by decide) (fun c4 => ?_) (fun c4 => ?_)
  · replace hm := it_f c4 hm
    refine lv_iload_n hx hb dJ1_indexOf_4cfef_9 rfl (lv_at hl 2 rfl) ?_
    refine lv_iconst (v := 0) hx hb dJ1_indexOf_4cfef_10 (by decide) ?_
    refine va_mmax hx hb (hml.trans hl.1.symm) hown (hts _ (List.mem_of_getElem? (i := 1) rfl)) (hts _ (List.mem_of_getElem? (i := 2) rfl)) (hts _ (List.mem_of_getElem? (i := 3) rfl)) (hts _ (List.mem_of_getElem? (i := 4) rfl)) (Nat.le_of_ble_eq_true rfl) (Nat.le_of_ble_eq_true rfl) (Nat.zero_le _) (Nat.zero_le _) dJ1_indexOf_4cfef_11 ?_
    refine lv_istore_n (lv' := [(2, .int (jmax x3 0)), (0, .ref s_v), (1, .int x2), (3, .int x4)]) hx hb dJ1_indexOf_4cfef_14 rfl hl (by decide) rfl (fun ls hl => ?_)
    refine lv_iload_n hx hb dJ1_indexOf_4cfef_15 rfl (lv_at hl 3 rfl) ?_
    refine lv_aload_n hx hb dJ1_indexOf_4cfef_16 rfl (lv_at hl 1 rfl) ?_
    refine va_tlen hx hb hX.2.2.2.1 hS (v := nI sL) rfl dJ1_indexOf_4cfef_17 ?_
    refine va_mmin hx hb (hml.trans hl.1.symm) hown (hts _ (List.mem_of_getElem? (i := 5) rfl)) (hts _ (List.mem_of_getElem? (i := 6) rfl)) (hts _ (List.mem_of_getElem? (i := 3) rfl)) (hts _ (List.mem_of_getElem? (i := 7) rfl)) (Nat.le_of_ble_eq_true rfl) (Nat.le_of_ble_eq_true rfl) (Nat.zero_le _) (Nat.zero_le _) dJ1_indexOf_4cfef_18 ?_
    refine lv_istore_n (lv' := [(3, .int (jmin x4 (nI sL))), (2, .int (jmax x3 0)), (0, .ref s_v), (1, .int x2)]) hx hb dJ1_indexOf_4cfef_21 rfl hl (by decide) rfl (fun ls hl => ?_)
    refine lv_iload_n hx hb dJ1_indexOf_4cfef_22 rfl (lv_at hl 1 rfl) ?_
    refine lv_iload_n hx hb dJ1_indexOf_4cfef_23 rfl (lv_at hl 0 rfl) ?_
    refine lv_icmp_lt (tgt := 29) hx hb dJ1_indexOf_4cfef_24 (by decide) (fun c24 => ?_) (fun c24 => ?_)
    · replace hm := it_t c24 hm
      refine lv_aload_n hx hb dJ1_indexOf_4cfef_29 rfl (lv_at hl 2 rfl) ?_
      refine lv_iload_n hx hb dJ1_indexOf_4cfef_30 rfl (lv_at hl 3 rfl) ?_
      refine lv_iload_n hx hb dJ1_indexOf_4cfef_31 rfl (lv_at hl 1 rfl) ?_
      refine lv_iload_n hx hb dJ1_indexOf_4cfef_32 rfl (lv_at hl 0 rfl) ?_
      obtain ⟨r33, hc33, hm⟩ := bd1_e hm
      refine k_callXGSi (dC := dC) (dI := dI) (kc := kc) (As := [.ref s_v, .int x2, .int (jmax x3 0), .int (jmin x4 (nI sL))]) (rest := []) (Gs' := []) hx hb hml hown hts hK hP hD hS hA xW_ok hX (ctJ1_indexOfChar_4cfef (s_q := s_q) (s_v := s_v) (sL := sL) (sb := sb) (sf := sf) (x2 := x2) (x3 := jmax x3 0) (x4 := jmin x4 (nI sL)) hc33) (va_cwS 4 hts gJ1_indexOf_4cfef_J1_indexOfChar_4cfef rfl rfl rfl (by decide +kernel) ⟨Nat.le_of_ble_eq_true rfl, Nat.le_of_ble_eq_true rfl⟩) [] rfl (by decide) rfl hl rfl (Nat.le_of_ble_eq_true rfl) dJ1_indexOf_4cfef_33 ⟨Nat.zero_le _, Nat.zero_le _⟩ rfl rfl rfl (fun H locs hP hD hS => ?_)
      cases hm
      exact k_iret hx hb hr hlocks hP hS dJ1_indexOf_4cfef_36
    · replace hm := it_f c24 hm
      refine lv_iconst (v := (-1)) hx hb dJ1_indexOf_4cfef_27 (by decide) ?_
      cases hm
      exact k_iret hx hb hr hlocks hP hS dJ1_indexOf_4cfef_28
  · replace hm := it_t c4 hm
    refine lv_iconst (v := (-1)) hx hb dJ1_indexOf_4cfef_7 (by decide) ?_
    cases hm
    exact k_iret hx hb hr hlocks hP hS dJ1_indexOf_4cfef_8
def fJ0_indexOf_7cf53 (fu : Nat) (sL : Nat) (sb : Nat → Int32) (x1 : Int32) (x2 : Int32) : Option Int32 := bd1 (fJ0_length_8abf5 sL) (fun r14 => bd1 (fJ1_indexOf_4cfef fu sL sb x1 x2 r14) (fun r17 => some r17))
abbrev rmJ0_indexOf_7cf53 : Room := { frames := 2, cells := 0, slots := 0, locals := 60 }
set_option maxHeartbeats 4000000 in
set_option maxRecDepth 100000 in
theorem ctJ0_indexOf_7cf53 {l : Launch} {dC : Nat → ClassId} {dI : Nat → Nat → Nat} {kc : Nat → ClassId} {s_q s_v : Nat} {sL : Nat} {sb : Nat → Int32} {sf : Option Nat} {x1 : Int32} {x2 : Int32} {fu : Nat} {r : Int32} (hm : fJ0_indexOf_7cf53 fu sL sb x1 x2 = some r) : ∀ sz : Nat, Met l yJ0_indexOf_7cf53 wsJ0_indexOf_7cf53 rmJ0_indexOf_7cf53 (kPcX dC dI kc (xW s_q s_v sL sb sf) [.ref s_q, .int x1, .int x2] (fl []) sz) (kQi dC dI r (fl []) (va_A (fl []) sz)) 0 0 (va_A (fl []) sz) := by
  intro sz
  refine kMetX (cc := cJ0_indexOf_7cf53) (maxL := 3) (ret := (some .int)) (Qf := fun A => kQi dC dI r (fl []) A) (by decide) rfl (Nat.le_of_ble_eq_true rfl) ?_
  intro p e s m below meth c A ls hx hb hr hml hts hown hlocks hname hsz hA hP hK hD hX hl
  have hS : va_S A s.heap s.heap [] := va_S.rf
  have hl : lv_has ls 3 [(0, .ref s_q), (1, .int x1), (2, .int x2)] := hl
  unfold fJ0_indexOf_7cf53 at hm
  refine lv_aload_n hx hb dJ0_indexOf_7cf53_0 rfl (lv_at hl 0 rfl) ?_
  refine k_callXGVi (dC := dC) (dI := dI) (kc := kc) (As := []) (rest := []) (Gs' := []) hx hb hml hown hts hK hP hD hS hA xW_ok hX (ctJ0_isLatin1_aae02 (s_q := s_q) (s_v := s_v) (sL := sL) (sb := sb) (sf := sf) rfl) (cwV 0 hts gJ0_indexOf_7cf53_J0_isLatin1_aae02 rfl rfl rfl (by decide +kernel) ⟨Nat.le_of_ble_eq_true rfl, Nat.le_of_ble_eq_true rfl⟩) [] rfl (by decide) (xW_recv hX hS) rfl hl rfl (Nat.le_of_ble_eq_true rfl) dJ0_indexOf_7cf53_1 ⟨Nat.zero_le _, Nat.zero_le _⟩ rfl rfl rfl (fun H locs hP hD hS => ?_)
  refine lv_if_eq (tgt := 23) hx hb dJ0_indexOf_7cf53_4 (by decide) (fun c4 => ?_) (fun c4 => ?_)
  · exact absurd c4 (by decide)
  refine lv_aload_n hx hb dJ0_indexOf_7cf53_7 rfl (lv_at hl 0 rfl) ?_
  refine vk_getf (o := "java/lang/String") (n := "value") (d := "[B") hx hb hX.2.2.1 hS hown (hts _ (List.mem_of_getElem? (i := 1) rfl)) (fun _ h9 => h9) dJ0_indexOf_7cf53_8 ?_
  refine lv_iload_n hx hb dJ0_indexOf_7cf53_11 rfl (lv_at hl 1 rfl) ?_
  refine lv_iload_n hx hb dJ0_indexOf_7cf53_12 rfl (lv_at hl 2 rfl) ?_
  refine lv_aload_n hx hb dJ0_indexOf_7cf53_13 rfl (lv_at hl 0 rfl) ?_
  obtain ⟨r14, hc14, hm⟩ := bd1_e hm
  refine k_callXGVi (dC := dC) (dI := dI) (kc := kc) (As := []) (rest := [.int x2, .int x1, .ref s_v]) (Gs' := []) hx hb hml hown hts hK hP hD hS hA xW_ok hX (ctJ0_length_8abf5 (s_q := s_q) (s_v := s_v) (sL := sL) (sb := sb) (sf := sf) hc14) (cwV 0 hts gJ0_indexOf_7cf53_J0_length_8abf5 rfl rfl rfl (by decide +kernel) ⟨Nat.le_of_ble_eq_true rfl, Nat.le_of_ble_eq_true rfl⟩) [] rfl (by decide) (xW_recv hX hS) rfl hl rfl (Nat.le_of_ble_eq_true rfl) dJ0_indexOf_7cf53_14 ⟨Nat.zero_le _, Nat.zero_le _⟩ rfl rfl rfl (fun H locs hP hD hS => ?_)
  obtain ⟨r17, hc17, hm⟩ := bd1_e hm
  refine k_callXGSi (dC := dC) (dI := dI) (kc := kc) (As := [.ref s_v, .int x1, .int x2, .int r14]) (rest := []) (Gs' := []) hx hb hml hown hts hK hP hD hS hA xW_ok hX (ctJ1_indexOf_4cfef (s_q := s_q) (s_v := s_v) (sL := sL) (sb := sb) (sf := sf) (x2 := x1) (x3 := x2) (x4 := r14) hc17) (va_cwS 4 hts gJ0_indexOf_7cf53_J1_indexOf_4cfef rfl rfl rfl (by decide +kernel) ⟨Nat.le_of_ble_eq_true rfl, Nat.le_of_ble_eq_true rfl⟩) [] rfl (by decide) rfl hl rfl (Nat.le_of_ble_eq_true rfl) dJ0_indexOf_7cf53_17 ⟨Nat.zero_le _, Nat.zero_le _⟩ rfl rfl rfl (fun H locs hP hD hS => ?_)
  refine lv_goto (tgt := 36) hx hb dJ0_indexOf_7cf53_20 (by decide) ?_
  cases hm
  exact k_iret hx hb hr hlocks hP hS dJ0_indexOf_7cf53_36
def fJ0_indexOf_0f7a4 (fu : Nat) (sL : Nat) (sb : Nat → Int32) (x1 : Int32) : Option Int32 := bd1 (fJ0_indexOf_7cf53 fu sL sb x1 0) (fun r3 => some r3)
abbrev rmJ0_indexOf_0f7a4 : Room := { frames := 3, cells := 0, slots := 0, locals := 82 }
set_option maxHeartbeats 4000000 in
set_option maxRecDepth 100000 in
theorem ctJ0_indexOf_0f7a4 {l : Launch} {dC : Nat → ClassId} {dI : Nat → Nat → Nat} {kc : Nat → ClassId} {s_q s_v : Nat} {sL : Nat} {sb : Nat → Int32} {sf : Option Nat} {x1 : Int32} {fu : Nat} {r : Int32} (hm : fJ0_indexOf_0f7a4 fu sL sb x1 = some r) : ∀ sz : Nat, Met l yJ0_indexOf_0f7a4 wsJ0_indexOf_0f7a4 rmJ0_indexOf_0f7a4 (kPcX dC dI kc (xW s_q s_v sL sb sf) [.ref s_q, .int x1] (fl []) sz) (kQi dC dI r (fl []) (va_A (fl []) sz)) 0 0 (va_A (fl []) sz) := by
  intro sz
  refine kMetX (cc := cJ0_indexOf_0f7a4) (maxL := 2) (ret := (some .int)) (Qf := fun A => kQi dC dI r (fl []) A) (by decide) rfl (Nat.le_of_ble_eq_true rfl) ?_
  intro p e s m below meth c A ls hx hb hr hml hts hown hlocks hname hsz hA hP hK hD hX hl
  have hS : va_S A s.heap s.heap [] := va_S.rf
  have hl : lv_has ls 2 [(0, .ref s_q), (1, .int x1)] := hl
  unfold fJ0_indexOf_0f7a4 at hm
  refine lv_aload_n hx hb dJ0_indexOf_0f7a4_0 rfl (lv_at hl 0 rfl) ?_
  refine lv_iload_n hx hb dJ0_indexOf_0f7a4_1 rfl (lv_at hl 1 rfl) ?_
  refine lv_iconst (v := 0) hx hb dJ0_indexOf_0f7a4_2 (by decide) ?_
  obtain ⟨r3, hc3, hm⟩ := bd1_e hm
  refine k_callXGVi (dC := dC) (dI := dI) (kc := kc) (As := [.int x1, .int 0]) (rest := []) (Gs' := []) hx hb hml hown hts hK hP hD hS hA xW_ok hX (ctJ0_indexOf_7cf53 (s_q := s_q) (s_v := s_v) (sL := sL) (sb := sb) (sf := sf) (x1 := x1) (x2 := 0) hc3) (cwV 2 hts gJ0_indexOf_0f7a4_J0_indexOf_7cf53 rfl rfl rfl (by decide +kernel) ⟨Nat.le_of_ble_eq_true rfl, Nat.le_of_ble_eq_true rfl⟩) [] rfl (by decide) (xW_recv hX hS) rfl hl rfl (Nat.le_of_ble_eq_true rfl) dJ0_indexOf_0f7a4_3 ⟨Nat.zero_le _, Nat.zero_le _⟩ rfl rfl rfl (fun H locs hP hD hS => ?_)
  cases hm
  exact k_iret hx hb hr hlocks hP hS dJ0_indexOf_0f7a4_6
