abbrev wdX2 (kc : Nat → ClassId) (a_o a_kind a_v a_place a_rows a_length a_first a_second a_drifts a_traits : Nat) (c_people : Int32) (c_kind : Nat → Int32) (c_v : Nat → Int32) (c_place : Nat → Int32) (c_rows : Nat → Int32) (c_leaves : Int32) (c_length : Nat → Int32) (c_first : Nat → Int32) (c_second : Nat → Int32) (c_drops : Int32) (c_step : Int32) (c_library : Option Nat) (c_drifts : Nat → Int32) (c_traits : Nat → Int32) : va_W := [(a_o, .inr (2, [.int c_people, .ref a_kind, .ref a_v, .ref a_place, .ref a_rows, .int c_leaves, .ref a_length, .ref a_first, .ref a_second, .int c_drops, .int c_step, va_rf c_library, .ref a_drifts, .ref a_traits])), (a_kind, .inl (kc 1, 6, .inl c_kind)), (a_v, .inl (kc 1, 6, .inl c_v)), (a_place, .inl (kc 1, 6, .inl c_place)), (a_rows, .inl (kc 1, 24, .inl c_rows)), (a_length, .inl (kc 1, 4, .inl c_length)), (a_first, .inl (kc 1, 4, .inl c_first)), (a_second, .inl (kc 1, 4, .inl c_second)), (a_drifts, .inl (kc 1, 6, .inl c_drifts)), (a_traits, .inl (kc 1, 6, .inl c_traits))]
abbrev wdX3 (kc : Nat → ClassId) (a_o a_sorts a_letters a_numbers : Nat) (c_sorts : Nat → Int32) (c_letters : Nat → Int32) (c_numbers : Nat → Int32) (c_size : Int32) (c_bear : Int32) : va_W := [(a_o, .inr (3, [.ref a_sorts, .ref a_letters, .ref a_numbers, .int c_size, .int c_bear])), (a_sorts, .inl (kc 1, 100, .inl c_sorts)), (a_letters, .inl (kc 1, 100, .inl c_letters)), (a_numbers, .inl (kc 1, 100, .inl c_numbers))]
def fX2_isPerson (wpeople : Int32) (x1 : Int32) : Option Int32 := if x1 < 0 then (some (0 : Int32)) else (if wpeople ≤ x1 then (some (0 : Int32)) else (some (1 : Int32)))
theorem hinX2_isPerson_X2 : ∀ w ∈ u_ws RX2 TX2 14, w ∈ wsX2_isPerson := fun _ h => List.mem_cons_of_mem _ (List.mem_append_right _ h)
abbrev rmX2_isPerson : Room := { frames := 0, cells := 0, slots := 0, locals := 12 }
set_option maxHeartbeats 4000000 in
set_option maxRecDepth 100000 in
theorem ctX2_isPerson {l : Launch} {dC : Nat → ClassId} {dI : Nat → Nat → Nat} {kc : Nat → ClassId} {w_o w_kind w_v w_place w_rows w_length w_first w_second w_drifts w_traits : Nat} {wpeople : Int32} {wkind : Nat → Int32} {wv : Nat → Int32} {wplace : Nat → Int32} {wrows : Nat → Int32} {wleaves : Int32} {wlength : Nat → Int32} {wfirst : Nat → Int32} {wsecond : Nat → Int32} {wdrops : Int32} {wstep : Int32} {wlibrary : Option Nat} {wdrifts : Nat → Int32} {wtraits : Nat → Int32} {x1 : Int32} {r : Int32} (hm : fX2_isPerson wpeople x1 = some r) : ∀ sz : Nat, Met l yX2_isPerson wsX2_isPerson rmX2_isPerson (kPc dC dI kc [.ref w_o, .int x1] (fl [wdX2 kc w_o w_kind w_v w_place w_rows w_length w_first w_second w_drifts w_traits wpeople wkind wv wplace wrows wleaves wlength wfirst wsecond wdrops wstep wlibrary wdrifts wtraits]) sz) (kQi dC dI r (fl [wdX2 kc w_o w_kind w_v w_place w_rows w_length w_first w_second w_drifts w_traits wpeople wkind wv wplace wrows wleaves wlength wfirst wsecond wdrops wstep wlibrary wdrifts wtraits]) (va_A (fl [wdX2 kc w_o w_kind w_v w_place w_rows w_length w_first w_second w_drifts w_traits wpeople wkind wv wplace wrows wleaves wlength wfirst wsecond wdrops wstep wlibrary wdrifts wtraits]) sz)) 0 0 (va_A (fl [wdX2 kc w_o w_kind w_v w_place w_rows w_length w_first w_second w_drifts w_traits wpeople wkind wv wplace wrows wleaves wlength wfirst wsecond wdrops wstep wlibrary wdrifts wtraits]) sz) := by
  intro sz
  refine kMet (cc := cX2_isPerson) (maxL := 2) (ret := (some .boolean)) (Qf := fun A => kQi dC dI r (fl [wdX2 kc w_o w_kind w_v w_place w_rows w_length w_first w_second w_drifts w_traits wpeople wkind wv wplace wrows wleaves wlength wfirst wsecond wdrops wstep wlibrary wdrifts wtraits]) A) (by decide) rfl (Nat.le_of_ble_eq_true rfl) ?_
  intro p e s m below meth c A ls hx hb hr hml hts hown hlocks hname hsz hA hP hK hD hl
  have hS : va_S A s.heap s.heap [] := va_S.rf
  have hl : lv_has ls 2 [(0, .ref w_o), (1, .int x1)] := hl
  unfold fX2_isPerson at hm
  refine lv_iload_n hx hb dX2_isPerson_0 rfl (lv_at hl 1 rfl) ?_
  refine lv_if_lt (tgt := 16) hx hb dX2_isPerson_1 (by decide) (fun c1 => ?_) (fun c1 => ?_)
  · replace hm := it_t c1 hm
    refine lv_iconst (v := 0) hx hb dX2_isPerson_16 (by decide) ?_
    cases hm
    exact k_zret hx hb hr hlocks (by decide) hP hS dX2_isPerson_17
  · replace hm := it_f c1 hm
    refine lv_iload_n hx hb dX2_isPerson_4 rfl (lv_at hl 1 rfl) ?_
    refine lv_aload_n hx hb dX2_isPerson_5 rfl (lv_at hl 0 rfl) ?_
    refine va_get (D := (dC, dI)) (ci := 2) (v := .int wpeople) (C := RX2) (T := TX2) (N := 14) hx hb hts hinX2_isPerson_X2 hown hK hP 0 rfl rfl 0 (by decide) (hts _ (List.mem_of_getElem? (i := 1) rfl)) (fun _ h9 => h9) rfl dX2_isPerson_6 ?_
    refine lv_icmp_ge (tgt := 16) hx hb dX2_isPerson_9 (by decide) (fun c9 => ?_) (fun c9 => ?_)
    · replace hm := it_t c9 hm
      refine lv_iconst (v := 0) hx hb dX2_isPerson_16 (by decide) ?_
      cases hm
      exact k_zret hx hb hr hlocks (by decide) hP hS dX2_isPerson_17
    · replace hm := it_f c9 hm
      refine lv_iconst (v := 1) hx hb dX2_isPerson_12 (by decide) ?_
      refine lv_goto (tgt := 17) hx hb dX2_isPerson_13 (by decide) ?_
      cases hm
      exact k_zret hx hb hr hlocks (by decide) hP hS dX2_isPerson_17
def fX2_isLeaf (wleaves : Int32) (x1 : Int32) : Option Int32 := if x1 < 0 then (some (0 : Int32)) else (if wleaves ≤ x1 then (some (0 : Int32)) else (some (1 : Int32)))
theorem hinX2_isLeaf_X2 : ∀ w ∈ u_ws RX2 TX2 14, w ∈ wsX2_isLeaf := fun _ h => List.mem_cons_of_mem _ (List.mem_append_right _ h)
abbrev rmX2_isLeaf : Room := { frames := 0, cells := 0, slots := 0, locals := 12 }
set_option maxHeartbeats 4000000 in
set_option maxRecDepth 100000 in
theorem ctX2_isLeaf {l : Launch} {dC : Nat → ClassId} {dI : Nat → Nat → Nat} {kc : Nat → ClassId} {w_o w_kind w_v w_place w_rows w_length w_first w_second w_drifts w_traits : Nat} {wpeople : Int32} {wkind : Nat → Int32} {wv : Nat → Int32} {wplace : Nat → Int32} {wrows : Nat → Int32} {wleaves : Int32} {wlength : Nat → Int32} {wfirst : Nat → Int32} {wsecond : Nat → Int32} {wdrops : Int32} {wstep : Int32} {wlibrary : Option Nat} {wdrifts : Nat → Int32} {wtraits : Nat → Int32} {x1 : Int32} {r : Int32} (hm : fX2_isLeaf wleaves x1 = some r) : ∀ sz : Nat, Met l yX2_isLeaf wsX2_isLeaf rmX2_isLeaf (kPc dC dI kc [.ref w_o, .int x1] (fl [wdX2 kc w_o w_kind w_v w_place w_rows w_length w_first w_second w_drifts w_traits wpeople wkind wv wplace wrows wleaves wlength wfirst wsecond wdrops wstep wlibrary wdrifts wtraits]) sz) (kQi dC dI r (fl [wdX2 kc w_o w_kind w_v w_place w_rows w_length w_first w_second w_drifts w_traits wpeople wkind wv wplace wrows wleaves wlength wfirst wsecond wdrops wstep wlibrary wdrifts wtraits]) (va_A (fl [wdX2 kc w_o w_kind w_v w_place w_rows w_length w_first w_second w_drifts w_traits wpeople wkind wv wplace wrows wleaves wlength wfirst wsecond wdrops wstep wlibrary wdrifts wtraits]) sz)) 0 0 (va_A (fl [wdX2 kc w_o w_kind w_v w_place w_rows w_length w_first w_second w_drifts w_traits wpeople wkind wv wplace wrows wleaves wlength wfirst wsecond wdrops wstep wlibrary wdrifts wtraits]) sz) := by
  intro sz
  refine kMet (cc := cX2_isLeaf) (maxL := 2) (ret := (some .boolean)) (Qf := fun A => kQi dC dI r (fl [wdX2 kc w_o w_kind w_v w_place w_rows w_length w_first w_second w_drifts w_traits wpeople wkind wv wplace wrows wleaves wlength wfirst wsecond wdrops wstep wlibrary wdrifts wtraits]) A) (by decide) rfl (Nat.le_of_ble_eq_true rfl) ?_
  intro p e s m below meth c A ls hx hb hr hml hts hown hlocks hname hsz hA hP hK hD hl
  have hS : va_S A s.heap s.heap [] := va_S.rf
  have hl : lv_has ls 2 [(0, .ref w_o), (1, .int x1)] := hl
  unfold fX2_isLeaf at hm
  refine lv_iload_n hx hb dX2_isLeaf_0 rfl (lv_at hl 1 rfl) ?_
  refine lv_if_lt (tgt := 16) hx hb dX2_isLeaf_1 (by decide) (fun c1 => ?_) (fun c1 => ?_)
  · replace hm := it_t c1 hm
    refine lv_iconst (v := 0) hx hb dX2_isLeaf_16 (by decide) ?_
    cases hm
    exact k_zret hx hb hr hlocks (by decide) hP hS dX2_isLeaf_17
  · replace hm := it_f c1 hm
    refine lv_iload_n hx hb dX2_isLeaf_4 rfl (lv_at hl 1 rfl) ?_
    refine lv_aload_n hx hb dX2_isLeaf_5 rfl (lv_at hl 0 rfl) ?_
    refine va_get (D := (dC, dI)) (ci := 2) (v := .int wleaves) (C := RX2) (T := TX2) (N := 14) hx hb hts hinX2_isLeaf_X2 hown hK hP 0 rfl rfl 5 (by decide) (hts _ (List.mem_of_getElem? (i := 1) rfl)) (fun _ h9 => h9) rfl dX2_isLeaf_6 ?_
    refine lv_icmp_ge (tgt := 16) hx hb dX2_isLeaf_9 (by decide) (fun c9 => ?_) (fun c9 => ?_)
    · replace hm := it_t c9 hm
      refine lv_iconst (v := 0) hx hb dX2_isLeaf_16 (by decide) ?_
      cases hm
      exact k_zret hx hb hr hlocks (by decide) hP hS dX2_isLeaf_17
    · replace hm := it_f c9 hm
      refine lv_iconst (v := 1) hx hb dX2_isLeaf_12 (by decide) ?_
      refine lv_goto (tgt := 17) hx hb dX2_isLeaf_13 (by decide) ?_
      cases hm
      exact k_zret hx hb hr hlocks (by decide) hP hS dX2_isLeaf_17
def fX2_give (wfirst : Nat → Int32) (wsecond : Nat → Int32) (x1 : Int32) (x2 : Int32) (x3 : Int32) : Option ((Nat → Int32) × (Nat → Int32)) := gd (inb x1 4) (gd (inb x1 4) (some (upd wfirst (x1.toNatClampNeg) x2, upd wsecond (x1.toNatClampNeg) x3)))
theorem hinX2_give_X2 : ∀ w ∈ u_ws RX2 TX2 14, w ∈ wsX2_give := fun _ h => List.mem_cons_of_mem _ (List.mem_append_right _ h)
abbrev rmX2_give : Room := { frames := 0, cells := 0, slots := 0, locals := 12 }
set_option maxHeartbeats 4000000 in
set_option maxRecDepth 100000 in
theorem ctX2_give {l : Launch} {dC : Nat → ClassId} {dI : Nat → Nat → Nat} {kc : Nat → ClassId} {w_o w_kind w_v w_place w_rows w_length w_first w_second w_drifts w_traits : Nat} {wpeople : Int32} {wkind : Nat → Int32} {wv : Nat → Int32} {wplace : Nat → Int32} {wrows : Nat → Int32} {wleaves : Int32} {wlength : Nat → Int32} {wfirst : Nat → Int32} {wsecond : Nat → Int32} {wdrops : Int32} {wstep : Int32} {wlibrary : Option Nat} {wdrifts : Nat → Int32} {wtraits : Nat → Int32} {x1 : Int32} {x2 : Int32} {x3 : Int32} {wfirst' : Nat → Int32} {wsecond' : Nat → Int32} (hm : fX2_give wfirst wsecond x1 x2 x3 = some (wfirst', wsecond')) : ∀ sz : Nat, Met l yX2_give wsX2_give rmX2_give (kPc dC dI kc [.ref w_o, .int x1, .int x2, .int x3] (fl [wdX2 kc w_o w_kind w_v w_place w_rows w_length w_first w_second w_drifts w_traits wpeople wkind wv wplace wrows wleaves wlength wfirst wsecond wdrops wstep wlibrary wdrifts wtraits]) sz) (kQv dC dI (fl [wdX2 kc w_o w_kind w_v w_place w_rows w_length w_first w_second w_drifts w_traits wpeople wkind wv wplace wrows wleaves wlength wfirst' wsecond' wdrops wstep wlibrary wdrifts wtraits]) (va_A (fl [wdX2 kc w_o w_kind w_v w_place w_rows w_length w_first w_second w_drifts w_traits wpeople wkind wv wplace wrows wleaves wlength wfirst wsecond wdrops wstep wlibrary wdrifts wtraits]) sz)) 0 0 (va_A (fl [wdX2 kc w_o w_kind w_v w_place w_rows w_length w_first w_second w_drifts w_traits wpeople wkind wv wplace wrows wleaves wlength wfirst wsecond wdrops wstep wlibrary wdrifts wtraits]) sz) := by
  intro sz
  refine kMet (cc := cX2_give) (maxL := 4) (ret := none) (Qf := fun A => kQv dC dI (fl [wdX2 kc w_o w_kind w_v w_place w_rows w_length w_first w_second w_drifts w_traits wpeople wkind wv wplace wrows wleaves wlength wfirst' wsecond' wdrops wstep wlibrary wdrifts wtraits]) A) (by decide) rfl (Nat.le_of_ble_eq_true rfl) ?_
  intro p e s m below meth c A ls hx hb hr hml hts hown hlocks hname hsz hA hP hK hD hl
  have hS : va_S A s.heap s.heap [] := va_S.rf
  have hl : lv_has ls 4 [(0, .ref w_o), (1, .int x1), (2, .int x2), (3, .int x3)] := hl
  unfold fX2_give at hm
  refine lv_aload_n hx hb dX2_give_0 rfl (lv_at hl 0 rfl) ?_
  refine va_get (D := (dC, dI)) (ci := 2) (v := .ref w_first) (C := RX2) (T := TX2) (N := 14) hx hb hts hinX2_give_X2 hown hK hP 0 rfl rfl 7 (by decide) (hts _ (List.mem_of_getElem? (i := 1) rfl)) (fun _ h9 => h9) rfl dX2_give_1 ?_
  refine lv_iload_n hx hb dX2_give_4 rfl (lv_at hl 1 rfl) ?_
  refine lv_iload_n hx hb dX2_give_5 rfl (lv_at hl 2 rfl) ?_
  obtain ⟨hg6, hm⟩ := gd_e hm
  refine k_iast (D := (dC, dI)) hx hb hK hP hD hS 6 1 rfl rfl (k := x1.toNatClampNeg) rfl hg6 dX2_give_6 (fun H locs hP hD hS => ?_)
  have hP : va_P (dC, dI) vwCl (fl [wdX2 kc w_o w_kind w_v w_place w_rows w_length w_first w_second w_drifts w_traits wpeople wkind wv wplace wrows wleaves wlength (upd wfirst (x1.toNatClampNeg) x2) wsecond wdrops wstep wlibrary wdrifts wtraits]) H := hP
  have hD : va_D A (fl [wdX2 kc w_o w_kind w_v w_place w_rows w_length w_first w_second w_drifts w_traits wpeople wkind wv wplace wrows wleaves wlength (upd wfirst (x1.toNatClampNeg) x2) wsecond wdrops wstep wlibrary wdrifts wtraits]) := hD
  refine lv_aload_n hx hb dX2_give_7 rfl (lv_at hl 0 rfl) ?_
  refine va_get (D := (dC, dI)) (ci := 2) (v := .ref w_second) (C := RX2) (T := TX2) (N := 14) hx hb hts hinX2_give_X2 hown hK hP 0 rfl rfl 8 (by decide) (hts _ (List.mem_of_getElem? (i := 2) rfl)) (fun _ h9 => h9) rfl dX2_give_8 ?_
  refine lv_iload_n hx hb dX2_give_11 rfl (lv_at hl 1 rfl) ?_
  refine lv_iload_n hx hb dX2_give_12 rfl (lv_at hl 3 rfl) ?_
  obtain ⟨hg13, hm⟩ := gd_e hm
  refine k_iast (D := (dC, dI)) hx hb hK hP hD hS 7 1 rfl rfl (k := x1.toNatClampNeg) rfl hg13 dX2_give_13 (fun H locs hP hD hS => ?_)
  have hP : va_P (dC, dI) vwCl (fl [wdX2 kc w_o w_kind w_v w_place w_rows w_length w_first w_second w_drifts w_traits wpeople wkind wv wplace wrows wleaves wlength (upd wfirst (x1.toNatClampNeg) x2) (upd wsecond (x1.toNatClampNeg) x3) wdrops wstep wlibrary wdrifts wtraits]) H := hP
  have hD : va_D A (fl [wdX2 kc w_o w_kind w_v w_place w_rows w_length w_first w_second w_drifts w_traits wpeople wkind wv wplace wrows wleaves wlength (upd wfirst (x1.toNatClampNeg) x2) (upd wsecond (x1.toNatClampNeg) x3) wdrops wstep wlibrary wdrifts wtraits]) := hD
  cases hm
  exact k_vret hx hb hr hlocks hP hS dX2_give_14
def fX2_letGo (wfirst : Nat → Int32) (wsecond : Nat → Int32) (x1 : Int32) : Option ((Nat → Int32) × (Nat → Int32)) := bd2 (fX2_give wfirst wsecond x1 (-5) (-5)) (fun wfirst_6 wsecond_6 => some (wfirst_6, wsecond_6))
abbrev rmX2_letGo : Room := { frames := 1, cells := 0, slots := 0, locals := 35 }
set_option maxHeartbeats 4000000 in
set_option maxRecDepth 100000 in
theorem ctX2_letGo {l : Launch} {dC : Nat → ClassId} {dI : Nat → Nat → Nat} {kc : Nat → ClassId} {w_o w_kind w_v w_place w_rows w_length w_first w_second w_drifts w_traits : Nat} {wpeople : Int32} {wkind : Nat → Int32} {wv : Nat → Int32} {wplace : Nat → Int32} {wrows : Nat → Int32} {wleaves : Int32} {wlength : Nat → Int32} {wfirst : Nat → Int32} {wsecond : Nat → Int32} {wdrops : Int32} {wstep : Int32} {wlibrary : Option Nat} {wdrifts : Nat → Int32} {wtraits : Nat → Int32} {x1 : Int32} {wfirst' : Nat → Int32} {wsecond' : Nat → Int32} (hm : fX2_letGo wfirst wsecond x1 = some (wfirst', wsecond')) : ∀ sz : Nat, Met l yX2_letGo wsX2_letGo rmX2_letGo (kPc dC dI kc [.ref w_o, .int x1] (fl [wdX2 kc w_o w_kind w_v w_place w_rows w_length w_first w_second w_drifts w_traits wpeople wkind wv wplace wrows wleaves wlength wfirst wsecond wdrops wstep wlibrary wdrifts wtraits]) sz) (kQv dC dI (fl [wdX2 kc w_o w_kind w_v w_place w_rows w_length w_first w_second w_drifts w_traits wpeople wkind wv wplace wrows wleaves wlength wfirst' wsecond' wdrops wstep wlibrary wdrifts wtraits]) (va_A (fl [wdX2 kc w_o w_kind w_v w_place w_rows w_length w_first w_second w_drifts w_traits wpeople wkind wv wplace wrows wleaves wlength wfirst wsecond wdrops wstep wlibrary wdrifts wtraits]) sz)) 0 0 (va_A (fl [wdX2 kc w_o w_kind w_v w_place w_rows w_length w_first w_second w_drifts w_traits wpeople wkind wv wplace wrows wleaves wlength wfirst wsecond wdrops wstep wlibrary wdrifts wtraits]) sz) := by
  intro sz
  refine kMet (cc := cX2_letGo) (maxL := 2) (ret := none) (Qf := fun A => kQv dC dI (fl [wdX2 kc w_o w_kind w_v w_place w_rows w_length w_first w_second w_drifts w_traits wpeople wkind wv wplace wrows wleaves wlength wfirst' wsecond' wdrops wstep wlibrary wdrifts wtraits]) A) (by decide) rfl (Nat.le_of_ble_eq_true rfl) ?_
  intro p e s m below meth c A ls hx hb hr hml hts hown hlocks hname hsz hA hP hK hD hl
  have hS : va_S A s.heap s.heap [] := va_S.rf
  have hl : lv_has ls 2 [(0, .ref w_o), (1, .int x1)] := hl
  unfold fX2_letGo at hm
  refine lv_aload_n hx hb dX2_letGo_0 rfl (lv_at hl 0 rfl) ?_
  refine lv_iload_n hx hb dX2_letGo_1 rfl (lv_at hl 1 rfl) ?_
  refine lv_bipush (v := (-5)) hx hb dX2_letGo_2 (by decide) ?_
  refine lv_bipush (v := (-5)) hx hb dX2_letGo_4 (by decide) ?_
  obtain ⟨wfirst_6, wsecond_6, hc6, hm⟩ := bd2_e hm
  refine k_callGVv (dC := dC) (dI := dI) (kc := kc) (As := [.int x1, .int (-5), .int (-5)]) (rest := []) (Gs' := [wdX2 kc w_o w_kind w_v w_place w_rows w_length w_first w_second w_drifts w_traits wpeople wkind wv wplace wrows wleaves wlength wfirst_6 wsecond_6 wdrops wstep wlibrary wdrifts wtraits]) hx hb hml hown hts hK hP hD hS hA (ctX2_give (w_o := w_o) (w_kind := w_kind) (w_v := w_v) (w_place := w_place) (w_rows := w_rows) (w_length := w_length) (w_first := w_first) (w_second := w_second) (w_drifts := w_drifts) (w_traits := w_traits) (wpeople := wpeople) (wkind := wkind) (wv := wv) (wplace := wplace) (wrows := wrows) (wleaves := wleaves) (wlength := wlength) (wfirst := wfirst) (wsecond := wsecond) (wdrops := wdrops) (wstep := wstep) (wlibrary := wlibrary) (wdrifts := wdrifts) (wtraits := wtraits) (x1 := x1) (x2 := (-5)) (x3 := (-5)) hc6) (cwV 3 hts gX2_letGo_X2_give rfl rfl rfl (by decide +kernel) ⟨Nat.le_of_ble_eq_true rfl, Nat.le_of_ble_eq_true rfl⟩) [0] rfl (by decide) 2 rfl rfl rfl rfl hl rfl (Nat.le_of_ble_eq_true rfl) dX2_letGo_6 ⟨Nat.zero_le _, Nat.zero_le _⟩ rfl rfl rfl (fun H locs hP hD hS => ?_)
  cases hm
  exact k_vret hx hb hr hlocks hP hS dX2_letGo_9
def fX2_isHeld (wfirst : Nat → Int32) (x1 : Int32) : Option Int32 := gd (inb x1 4) (if (wfirst (x1.toNatClampNeg)) = (-5) then (some (0 : Int32)) else (some (1 : Int32)))
theorem hinX2_isHeld_X2 : ∀ w ∈ u_ws RX2 TX2 14, w ∈ wsX2_isHeld := fun _ h => List.mem_cons_of_mem _ (List.mem_append_right _ h)
abbrev rmX2_isHeld : Room := { frames := 0, cells := 0, slots := 0, locals := 12 }
set_option maxHeartbeats 4000000 in
set_option maxRecDepth 100000 in
theorem ctX2_isHeld {l : Launch} {dC : Nat → ClassId} {dI : Nat → Nat → Nat} {kc : Nat → ClassId} {w_o w_kind w_v w_place w_rows w_length w_first w_second w_drifts w_traits : Nat} {wpeople : Int32} {wkind : Nat → Int32} {wv : Nat → Int32} {wplace : Nat → Int32} {wrows : Nat → Int32} {wleaves : Int32} {wlength : Nat → Int32} {wfirst : Nat → Int32} {wsecond : Nat → Int32} {wdrops : Int32} {wstep : Int32} {wlibrary : Option Nat} {wdrifts : Nat → Int32} {wtraits : Nat → Int32} {x1 : Int32} {r : Int32} (hm : fX2_isHeld wfirst x1 = some r) : ∀ sz : Nat, Met l yX2_isHeld wsX2_isHeld rmX2_isHeld (kPc dC dI kc [.ref w_o, .int x1] (fl [wdX2 kc w_o w_kind w_v w_place w_rows w_length w_first w_second w_drifts w_traits wpeople wkind wv wplace wrows wleaves wlength wfirst wsecond wdrops wstep wlibrary wdrifts wtraits]) sz) (kQi dC dI r (fl [wdX2 kc w_o w_kind w_v w_place w_rows w_length w_first w_second w_drifts w_traits wpeople wkind wv wplace wrows wleaves wlength wfirst wsecond wdrops wstep wlibrary wdrifts wtraits]) (va_A (fl [wdX2 kc w_o w_kind w_v w_place w_rows w_length w_first w_second w_drifts w_traits wpeople wkind wv wplace wrows wleaves wlength wfirst wsecond wdrops wstep wlibrary wdrifts wtraits]) sz)) 0 0 (va_A (fl [wdX2 kc w_o w_kind w_v w_place w_rows w_length w_first w_second w_drifts w_traits wpeople wkind wv wplace wrows wleaves wlength wfirst wsecond wdrops wstep wlibrary wdrifts wtraits]) sz) := by
  intro sz
  refine kMet (cc := cX2_isHeld) (maxL := 2) (ret := (some .boolean)) (Qf := fun A => kQi dC dI r (fl [wdX2 kc w_o w_kind w_v w_place w_rows w_length w_first w_second w_drifts w_traits wpeople wkind wv wplace wrows wleaves wlength wfirst wsecond wdrops wstep wlibrary wdrifts wtraits]) A) (by decide) rfl (Nat.le_of_ble_eq_true rfl) ?_
  intro p e s m below meth c A ls hx hb hr hml hts hown hlocks hname hsz hA hP hK hD hl
  have hS : va_S A s.heap s.heap [] := va_S.rf
  have hl : lv_has ls 2 [(0, .ref w_o), (1, .int x1)] := hl
  unfold fX2_isHeld at hm
  refine lv_aload_n hx hb dX2_isHeld_0 rfl (lv_at hl 0 rfl) ?_
  refine va_get (D := (dC, dI)) (ci := 2) (v := .ref w_first) (C := RX2) (T := TX2) (N := 14) hx hb hts hinX2_isHeld_X2 hown hK hP 0 rfl rfl 7 (by decide) (hts _ (List.mem_of_getElem? (i := 1) rfl)) (fun _ h9 => h9) rfl dX2_isHeld_1 ?_
  refine lv_iload_n hx hb dX2_isHeld_4 rfl (lv_at hl 1 rfl) ?_
  obtain ⟨hg5, hm⟩ := gd_e hm
  refine k_iald (D := (dC, dI)) hx hb hK hP 6 1 rfl rfl (k := x1.toNatClampNeg) rfl hg5 dX2_isHeld_5 ?_
  refine lv_bipush (v := (-5)) hx hb dX2_isHeld_6 (by decide) ?_
  refine lv_icmp_eq (tgt := 15) hx hb dX2_isHeld_8 (by decide) (fun c8 => ?_) (fun c8 => ?_)
  · replace hm := it_t c8 hm
    refine lv_iconst (v := 0) hx hb dX2_isHeld_15 (by decide) ?_
    cases hm
    exact k_zret hx hb hr hlocks (by decide) hP hS dX2_isHeld_16
  · replace hm := it_f c8 hm
    refine lv_iconst (v := 1) hx hb dX2_isHeld_11 (by decide) ?_
    refine lv_goto (tgt := 16) hx hb dX2_isHeld_12 (by decide) ?_
    cases hm
    exact k_zret hx hb hr hlocks (by decide) hP hS dX2_isHeld_16
def fX2_isHolder (wfirst : Nat → Int32) (wsecond : Nat → Int32) (x1 : Int32) (x2 : Int32) : Option Int32 := gd (inb x1 4) (if (wfirst (x1.toNatClampNeg)) = x2 then (some (1 : Int32)) else (gd (inb x1 4) (if (wsecond (x1.toNatClampNeg)) = x2 then (some (1 : Int32)) else (some (0 : Int32)))))
theorem hinX2_isHolder_X2 : ∀ w ∈ u_ws RX2 TX2 14, w ∈ wsX2_isHolder := fun _ h => List.mem_cons_of_mem _ (List.mem_append_right _ h)
abbrev rmX2_isHolder : Room := { frames := 0, cells := 0, slots := 0, locals := 12 }
set_option maxHeartbeats 4000000 in
set_option maxRecDepth 100000 in
theorem ctX2_isHolder {l : Launch} {dC : Nat → ClassId} {dI : Nat → Nat → Nat} {kc : Nat → ClassId} {w_o w_kind w_v w_place w_rows w_length w_first w_second w_drifts w_traits : Nat} {wpeople : Int32} {wkind : Nat → Int32} {wv : Nat → Int32} {wplace : Nat → Int32} {wrows : Nat → Int32} {wleaves : Int32} {wlength : Nat → Int32} {wfirst : Nat → Int32} {wsecond : Nat → Int32} {wdrops : Int32} {wstep : Int32} {wlibrary : Option Nat} {wdrifts : Nat → Int32} {wtraits : Nat → Int32} {x1 : Int32} {x2 : Int32} {r : Int32} (hm : fX2_isHolder wfirst wsecond x1 x2 = some r) : ∀ sz : Nat, Met l yX2_isHolder wsX2_isHolder rmX2_isHolder (kPc dC dI kc [.ref w_o, .int x1, .int x2] (fl [wdX2 kc w_o w_kind w_v w_place w_rows w_length w_first w_second w_drifts w_traits wpeople wkind wv wplace wrows wleaves wlength wfirst wsecond wdrops wstep wlibrary wdrifts wtraits]) sz) (kQi dC dI r (fl [wdX2 kc w_o w_kind w_v w_place w_rows w_length w_first w_second w_drifts w_traits wpeople wkind wv wplace wrows wleaves wlength wfirst wsecond wdrops wstep wlibrary wdrifts wtraits]) (va_A (fl [wdX2 kc w_o w_kind w_v w_place w_rows w_length w_first w_second w_drifts w_traits wpeople wkind wv wplace wrows wleaves wlength wfirst wsecond wdrops wstep wlibrary wdrifts wtraits]) sz)) 0 0 (va_A (fl [wdX2 kc w_o w_kind w_v w_place w_rows w_length w_first w_second w_drifts w_traits wpeople wkind wv wplace wrows wleaves wlength wfirst wsecond wdrops wstep wlibrary wdrifts wtraits]) sz) := by
  intro sz
  refine kMet (cc := cX2_isHolder) (maxL := 3) (ret := (some .boolean)) (Qf := fun A => kQi dC dI r (fl [wdX2 kc w_o w_kind w_v w_place w_rows w_length w_first w_second w_drifts w_traits wpeople wkind wv wplace wrows wleaves wlength wfirst wsecond wdrops wstep wlibrary wdrifts wtraits]) A) (by decide) rfl (Nat.le_of_ble_eq_true rfl) ?_
  intro p e s m below meth c A ls hx hb hr hml hts hown hlocks hname hsz hA hP hK hD hl
  have hS : va_S A s.heap s.heap [] := va_S.rf
  have hl : lv_has ls 3 [(0, .ref w_o), (1, .int x1), (2, .int x2)] := hl
  unfold fX2_isHolder at hm
  refine lv_aload_n hx hb dX2_isHolder_0 rfl (lv_at hl 0 rfl) ?_
  refine va_get (D := (dC, dI)) (ci := 2) (v := .ref w_first) (C := RX2) (T := TX2) (N := 14) hx hb hts hinX2_isHolder_X2 hown hK hP 0 rfl rfl 7 (by decide) (hts _ (List.mem_of_getElem? (i := 1) rfl)) (fun _ h9 => h9) rfl dX2_isHolder_1 ?_
  refine lv_iload_n hx hb dX2_isHolder_4 rfl (lv_at hl 1 rfl) ?_
  obtain ⟨hg5, hm⟩ := gd_e hm
  refine k_iald (D := (dC, dI)) hx hb hK hP 6 1 rfl rfl (k := x1.toNatClampNeg) rfl hg5 dX2_isHolder_5 ?_
  refine lv_iload_n hx hb dX2_isHolder_6 rfl (lv_at hl 2 rfl) ?_
  refine lv_icmp_eq (tgt := 20) hx hb dX2_isHolder_7 (by decide) (fun c7 => ?_) (fun c7 => ?_)
  · replace hm := it_t c7 hm
    refine lv_iconst (v := 1) hx hb dX2_isHolder_20 (by decide) ?_
    refine lv_goto (tgt := 25) hx hb dX2_isHolder_21 (by decide) ?_
    cases hm
    exact k_zret hx hb hr hlocks (by decide) hP hS dX2_isHolder_25
  · replace hm := it_f c7 hm
    refine lv_aload_n hx hb dX2_isHolder_10 rfl (lv_at hl 0 rfl) ?_
    refine va_get (D := (dC, dI)) (ci := 2) (v := .ref w_second) (C := RX2) (T := TX2) (N := 14) hx hb hts hinX2_isHolder_X2 hown hK hP 0 rfl rfl 8 (by decide) (hts _ (List.mem_of_getElem? (i := 2) rfl)) (fun _ h9 => h9) rfl dX2_isHolder_11 ?_
    refine lv_iload_n hx hb dX2_isHolder_14 rfl (lv_at hl 1 rfl) ?_
    obtain ⟨hg15, hm⟩ := gd_e hm
    refine k_iald (D := (dC, dI)) hx hb hK hP 7 1 rfl rfl (k := x1.toNatClampNeg) rfl hg15 dX2_isHolder_15 ?_
    refine lv_iload_n hx hb dX2_isHolder_16 rfl (lv_at hl 2 rfl) ?_
    refine lv_icmp_ne (tgt := 24) hx hb dX2_isHolder_17 (by decide) (fun c17 => ?_) (fun c17 => ?_)
    · replace hm := it_f c17 hm
      refine lv_iconst (v := 0) hx hb dX2_isHolder_24 (by decide) ?_
      cases hm
      exact k_zret hx hb hr hlocks (by decide) hP hS dX2_isHolder_25
    · replace hm := it_t c17 hm
      refine lv_iconst (v := 1) hx hb dX2_isHolder_20 (by decide) ?_
      refine lv_goto (tgt := 25) hx hb dX2_isHolder_21 (by decide) ?_
      cases hm
      exact k_zret hx hb hr hlocks (by decide) hP hS dX2_isHolder_25
def LX2_holdsHowMany_4 (wleaves : Int32) (wfirst : Nat → Int32) (wsecond : Nat → Int32) (x1 : Int32) : Nat → Int32 → Int32 → Option Int32
  | 0, _, _ => none
  | n4 + 1, l2_4, l3_4 => if wleaves ≤ l3_4 then (some l2_4) else (bd1 (fX2_isHolder wfirst wsecond l3_4 x1) (fun r15 => if r15 = 0 then (LX2_holdsHowMany_4 wleaves wfirst wsecond x1 n4 l2_4 (l3_4 + 1)) else (LX2_holdsHowMany_4 wleaves wfirst wsecond x1 n4 (l2_4 + 1) (l3_4 + 1))))
def fX2_holdsHowMany (fu : Nat) (wleaves : Int32) (wfirst : Nat → Int32) (wsecond : Nat → Int32) (x1 : Int32) : Option Int32 := LX2_holdsHowMany_4 wleaves wfirst wsecond x1 fu 0 0
theorem hinX2_holdsHowMany_X2 : ∀ w ∈ u_ws RX2 TX2 14, w ∈ wsX2_holdsHowMany := fun _ h => List.mem_cons_of_mem _ (List.mem_append_right _ h)
abbrev rmX2_holdsHowMany : Room := { frames := 1, cells := 0, slots := 0, locals := 34 }
set_option maxHeartbeats 4000000 in
set_option maxRecDepth 100000 in
theorem ctX2_holdsHowMany {l : Launch} {dC : Nat → ClassId} {dI : Nat → Nat → Nat} {kc : Nat → ClassId} {w_o w_kind w_v w_place w_rows w_length w_first w_second w_drifts w_traits : Nat} {wpeople : Int32} {wkind : Nat → Int32} {wv : Nat → Int32} {wplace : Nat → Int32} {wrows : Nat → Int32} {wleaves : Int32} {wlength : Nat → Int32} {wfirst : Nat → Int32} {wsecond : Nat → Int32} {wdrops : Int32} {wstep : Int32} {wlibrary : Option Nat} {wdrifts : Nat → Int32} {wtraits : Nat → Int32} {x1 : Int32} {fu : Nat} {r : Int32} (hm : fX2_holdsHowMany fu wleaves wfirst wsecond x1 = some r) : ∀ sz : Nat, Met l yX2_holdsHowMany wsX2_holdsHowMany rmX2_holdsHowMany (kPc dC dI kc [.ref w_o, .int x1] (fl [wdX2 kc w_o w_kind w_v w_place w_rows w_length w_first w_second w_drifts w_traits wpeople wkind wv wplace wrows wleaves wlength wfirst wsecond wdrops wstep wlibrary wdrifts wtraits]) sz) (kQi dC dI r (fl [wdX2 kc w_o w_kind w_v w_place w_rows w_length w_first w_second w_drifts w_traits wpeople wkind wv wplace wrows wleaves wlength wfirst wsecond wdrops wstep wlibrary wdrifts wtraits]) (va_A (fl [wdX2 kc w_o w_kind w_v w_place w_rows w_length w_first w_second w_drifts w_traits wpeople wkind wv wplace wrows wleaves wlength wfirst wsecond wdrops wstep wlibrary wdrifts wtraits]) sz)) 0 0 (va_A (fl [wdX2 kc w_o w_kind w_v w_place w_rows w_length w_first w_second w_drifts w_traits wpeople wkind wv wplace wrows wleaves wlength wfirst wsecond wdrops wstep wlibrary wdrifts wtraits]) sz) := by
  intro sz
  refine kMet (cc := cX2_holdsHowMany) (maxL := 4) (ret := (some .int)) (Qf := fun A => kQi dC dI r (fl [wdX2 kc w_o w_kind w_v w_place w_rows w_length w_first w_second w_drifts w_traits wpeople wkind wv wplace wrows wleaves wlength wfirst wsecond wdrops wstep wlibrary wdrifts wtraits]) A) (by decide) rfl (Nat.le_of_ble_eq_true rfl) ?_
  intro p e s m below meth c A ls hx hb hr hml hts hown hlocks hname hsz hA hP hK hD hl
  have hS : va_S A s.heap s.heap [] := va_S.rf
  have hl : lv_has ls 4 [(0, .ref w_o), (1, .int x1)] := hl
  unfold fX2_holdsHowMany at hm
  refine lv_iconst (v := 0) hx hb dX2_holdsHowMany_0 (by decide) ?_
  refine lv_istore_n (lv' := [(2, .int 0), (0, .ref w_o), (1, .int x1)]) hx hb dX2_holdsHowMany_1 rfl hl (by decide) rfl (fun ls hl => ?_)
  refine lv_iconst (v := 0) hx hb dX2_holdsHowMany_2 (by decide) ?_
  refine lv_istore_n (lv' := [(3, .int 0), (2, .int 0), (0, .ref w_o), (1, .int x1)]) hx hb dX2_holdsHowMany_3 rfl hl (by decide) rfl (fun ls hl => ?_)
  have hL4 : ∀ (fn : Nat) (l2_4 : Int32) (l3_4 : Int32), LX2_holdsHowMany_4 wleaves wfirst wsecond x1 fn l2_4 l3_4 = some r → ∀ (H : Heap) (locs : List Loc), va_P (dC, dI) vwCl (fl [wdX2 kc w_o w_kind w_v w_place w_rows w_length w_first w_second w_drifts w_traits wpeople wkind wv wplace wrows wleaves wlength wfirst wsecond wdrops wstep wlibrary wdrifts wtraits]) H → va_D A (fl [wdX2 kc w_o w_kind w_v w_place w_rows w_length w_first w_second w_drifts w_traits wpeople wkind wv wplace wrows wleaves wlength wfirst wsecond wdrops wstep wlibrary wdrifts wtraits]) → va_S A s.heap H locs → ∀ ls : Array Slot, lv_has ls 4 [(0, .ref w_o), (1, .int x1), (2, .int l2_4), (3, .int l3_4)] → W p l e (headSpec wsX2_holdsHowMany rmX2_holdsHowMany).room s m [.ref w_o, .int x1].toArray below meth c H locs 0 0 (MQ below (kQi dC dI r (fl [wdX2 kc w_o w_kind w_v w_place w_rows w_length w_first w_second w_drifts w_traits wpeople wkind wv wplace wrows wleaves wlength wfirst wsecond wdrops wstep wlibrary wdrifts wtraits]) A) [.ref w_o, .int x1].toArray s 0 0 A) (F0 m 4 ls []) := by
    clear hm hP hD hS hl
    intro n4
    induction n4 with
    | zero => intro l2_4 l3_4 hm; rw [LX2_holdsHowMany_4] at hm; cases hm
    | succ n4 ih4 =>
      intro l2_4 l3_4 hm H locs hP hD hS ls hl
      rw [LX2_holdsHowMany_4] at hm
      refine lv_iload_n hx hb dX2_holdsHowMany_4 rfl (lv_at hl 3 rfl) ?_
      refine lv_aload_n hx hb dX2_holdsHowMany_5 rfl (lv_at hl 0 rfl) ?_
      refine va_get (D := (dC, dI)) (ci := 2) (v := .int wleaves) (C := RX2) (T := TX2) (N := 14) hx hb hts hinX2_holdsHowMany_X2 hown hK hP 0 rfl rfl 5 (by decide) (hts _ (List.mem_of_getElem? (i := 1) rfl)) (fun _ h9 => h9) rfl dX2_holdsHowMany_6 ?_
      refine lv_icmp_ge (tgt := 30) hx hb dX2_holdsHowMany_9 (by decide) (fun c9 => ?_) (fun c9 => ?_)
      · replace hm := it_t c9 hm
        refine lv_iload_n hx hb dX2_holdsHowMany_30 rfl (lv_at hl 2 rfl) ?_
        cases hm
        exact k_iret hx hb hr hlocks hP hS dX2_holdsHowMany_31
      · replace hm := it_f c9 hm
        refine lv_aload_n hx hb dX2_holdsHowMany_12 rfl (lv_at hl 0 rfl) ?_
        refine lv_iload_n hx hb dX2_holdsHowMany_13 rfl (lv_at hl 3 rfl) ?_
        refine lv_iload_n hx hb dX2_holdsHowMany_14 rfl (lv_at hl 1 rfl) ?_
        obtain ⟨r15, hc15, hm⟩ := bd1_e hm
        refine k_callGVi (dC := dC) (dI := dI) (kc := kc) (As := [.int l3_4, .int x1]) (rest := []) (Gs' := [wdX2 kc w_o w_kind w_v w_place w_rows w_length w_first w_second w_drifts w_traits wpeople wkind wv wplace wrows wleaves wlength wfirst wsecond wdrops wstep wlibrary wdrifts wtraits]) hx hb hml hown hts hK hP hD hS hA (ctX2_isHolder (w_o := w_o) (w_kind := w_kind) (w_v := w_v) (w_place := w_place) (w_rows := w_rows) (w_length := w_length) (w_first := w_first) (w_second := w_second) (w_drifts := w_drifts) (w_traits := w_traits) (wpeople := wpeople) (wkind := wkind) (wv := wv) (wplace := wplace) (wrows := wrows) (wleaves := wleaves) (wlength := wlength) (wfirst := wfirst) (wsecond := wsecond) (wdrops := wdrops) (wstep := wstep) (wlibrary := wlibrary) (wdrifts := wdrifts) (wtraits := wtraits) (x1 := l3_4) (x2 := x1) hc15) (cwV 2 hts gX2_holdsHowMany_X2_isHolder rfl rfl rfl (by decide +kernel) ⟨Nat.le_of_ble_eq_true rfl, Nat.le_of_ble_eq_true rfl⟩) [0] rfl (by decide) 2 rfl rfl rfl rfl hl rfl (Nat.le_of_ble_eq_true rfl) dX2_holdsHowMany_15 ⟨Nat.zero_le _, Nat.zero_le _⟩ rfl rfl rfl (fun H locs hP hD hS => ?_)
        refine lv_if_eq (tgt := 24) hx hb dX2_holdsHowMany_18 (by decide) (fun c18 => ?_) (fun c18 => ?_)
        · replace hm := it_t c18 hm
          refine lv_iinc (v := l3_4 + 1) (lv' := [(3, .int (l3_4 + 1)), (0, .ref w_o), (1, .int x1), (2, .int l2_4)]) hx hb dX2_holdsHowMany_24 hl (k := 3) rfl rfl (by decide) rfl (fun ls hl => ?_)
          refine lv_goto (tgt := 4) hx hb dX2_holdsHowMany_27 (by decide) ?_
          exact ih4 l2_4 (l3_4 + 1) hm _ _ hP hD hS _ (lv_sub hl [1, 2, 3, 0] rfl)
        · replace hm := it_f c18 hm
          refine lv_iinc (v := l2_4 + 1) (lv' := [(2, .int (l2_4 + 1)), (0, .ref w_o), (1, .int x1), (3, .int l3_4)]) hx hb dX2_holdsHowMany_21 hl (k := 2) rfl rfl (by decide) rfl (fun ls hl => ?_)
          refine lv_iinc (v := l3_4 + 1) (lv' := [(3, .int (l3_4 + 1)), (2, .int (l2_4 + 1)), (0, .ref w_o), (1, .int x1)]) hx hb dX2_holdsHowMany_24 hl (k := 3) rfl rfl (by decide) rfl (fun ls hl => ?_)
          refine lv_goto (tgt := 4) hx hb dX2_holdsHowMany_27 (by decide) ?_
          exact ih4 (l2_4 + 1) (l3_4 + 1) hm _ _ hP hD hS _ (lv_sub hl [2, 3, 1, 0] rfl)
  exact hL4 _ _ _ hm _ _ hP hD hS _ (lv_sub hl [2, 3, 1, 0] rfl)
def fX2_gapOf (wplace : Nat → Int32) (wlength : Nat → Int32) (wfirst : Nat → Int32) (wsecond : Nat → Int32) (x1 : Int32) : Option Int32 := gd (inb x1 4) (gd (inb (wfirst (x1.toNatClampNeg)) 6) (gd (inb x1 4) (gd (inb (wsecond (x1.toNatClampNeg)) 6) (gd (inb x1 4) (some ((jabs ((wplace ((wfirst (x1.toNatClampNeg)).toNatClampNeg)) - (wplace ((wsecond (x1.toNatClampNeg)).toNatClampNeg)))) - (wlength (x1.toNatClampNeg))))))))
theorem hinX2_gapOf_X2 : ∀ w ∈ u_ws RX2 TX2 14, w ∈ wsX2_gapOf := fun _ h => List.mem_cons_of_mem _ (List.mem_append_right _ h)
abbrev rmX2_gapOf : Room := { frames := 1, cells := 0, slots := 0, locals := 13 }
set_option maxHeartbeats 4000000 in
set_option maxRecDepth 100000 in
theorem ctX2_gapOf {l : Launch} {dC : Nat → ClassId} {dI : Nat → Nat → Nat} {kc : Nat → ClassId} {w_o w_kind w_v w_place w_rows w_length w_first w_second w_drifts w_traits : Nat} {wpeople : Int32} {wkind : Nat → Int32} {wv : Nat → Int32} {wplace : Nat → Int32} {wrows : Nat → Int32} {wleaves : Int32} {wlength : Nat → Int32} {wfirst : Nat → Int32} {wsecond : Nat → Int32} {wdrops : Int32} {wstep : Int32} {wlibrary : Option Nat} {wdrifts : Nat → Int32} {wtraits : Nat → Int32} {x1 : Int32} {r : Int32} (hm : fX2_gapOf wplace wlength wfirst wsecond x1 = some r) : ∀ sz : Nat, Met l yX2_gapOf wsX2_gapOf rmX2_gapOf (kPc dC dI kc [.ref w_o, .int x1] (fl [wdX2 kc w_o w_kind w_v w_place w_rows w_length w_first w_second w_drifts w_traits wpeople wkind wv wplace wrows wleaves wlength wfirst wsecond wdrops wstep wlibrary wdrifts wtraits]) sz) (kQi dC dI r (fl [wdX2 kc w_o w_kind w_v w_place w_rows w_length w_first w_second w_drifts w_traits wpeople wkind wv wplace wrows wleaves wlength wfirst wsecond wdrops wstep wlibrary wdrifts wtraits]) (va_A (fl [wdX2 kc w_o w_kind w_v w_place w_rows w_length w_first w_second w_drifts w_traits wpeople wkind wv wplace wrows wleaves wlength wfirst wsecond wdrops wstep wlibrary wdrifts wtraits]) sz)) 0 0 (va_A (fl [wdX2 kc w_o w_kind w_v w_place w_rows w_length w_first w_second w_drifts w_traits wpeople wkind wv wplace wrows wleaves wlength wfirst wsecond wdrops wstep wlibrary wdrifts wtraits]) sz) := by
  intro sz
  refine kMet (cc := cX2_gapOf) (maxL := 2) (ret := (some .int)) (Qf := fun A => kQi dC dI r (fl [wdX2 kc w_o w_kind w_v w_place w_rows w_length w_first w_second w_drifts w_traits wpeople wkind wv wplace wrows wleaves wlength wfirst wsecond wdrops wstep wlibrary wdrifts wtraits]) A) (by decide) rfl (Nat.le_of_ble_eq_true rfl) ?_
  intro p e s m below meth c A ls hx hb hr hml hts hown hlocks hname hsz hA hP hK hD hl
  have hS : va_S A s.heap s.heap [] := va_S.rf
  have hl : lv_has ls 2 [(0, .ref w_o), (1, .int x1)] := hl
  unfold fX2_gapOf at hm
  refine lv_aload_n hx hb dX2_gapOf_0 rfl (lv_at hl 0 rfl) ?_
  refine va_get (D := (dC, dI)) (ci := 2) (v := .ref w_place) (C := RX2) (T := TX2) (N := 14) hx hb hts hinX2_gapOf_X2 hown hK hP 0 rfl rfl 3 (by decide) (hts _ (List.mem_of_getElem? (i := 1) rfl)) (fun _ h9 => h9) rfl dX2_gapOf_1 ?_
  refine lv_aload_n hx hb dX2_gapOf_4 rfl (lv_at hl 0 rfl) ?_
  refine va_get (D := (dC, dI)) (ci := 2) (v := .ref w_first) (C := RX2) (T := TX2) (N := 14) hx hb hts hinX2_gapOf_X2 hown hK hP 0 rfl rfl 7 (by decide) (hts _ (List.mem_of_getElem? (i := 2) rfl)) (fun _ h9 => h9) rfl dX2_gapOf_5 ?_
  refine lv_iload_n hx hb dX2_gapOf_8 rfl (lv_at hl 1 rfl) ?_
  obtain ⟨hg9, hm⟩ := gd_e hm
  refine k_iald (D := (dC, dI)) hx hb hK hP 6 1 rfl rfl (k := x1.toNatClampNeg) rfl hg9 dX2_gapOf_9 ?_
  obtain ⟨hg10, hm⟩ := gd_e hm
  refine k_iald (D := (dC, dI)) hx hb hK hP 3 1 rfl rfl (k := (wfirst (x1.toNatClampNeg)).toNatClampNeg) rfl hg10 dX2_gapOf_10 ?_
  refine lv_aload_n hx hb dX2_gapOf_11 rfl (lv_at hl 0 rfl) ?_
  refine va_get (D := (dC, dI)) (ci := 2) (v := .ref w_place) (C := RX2) (T := TX2) (N := 14) hx hb hts hinX2_gapOf_X2 hown hK hP 0 rfl rfl 3 (by decide) (hts _ (List.mem_of_getElem? (i := 1) rfl)) (fun _ h9 => h9) rfl dX2_gapOf_12 ?_
  refine lv_aload_n hx hb dX2_gapOf_15 rfl (lv_at hl 0 rfl) ?_
  refine va_get (D := (dC, dI)) (ci := 2) (v := .ref w_second) (C := RX2) (T := TX2) (N := 14) hx hb hts hinX2_gapOf_X2 hown hK hP 0 rfl rfl 8 (by decide) (hts _ (List.mem_of_getElem? (i := 3) rfl)) (fun _ h9 => h9) rfl dX2_gapOf_16 ?_
  refine lv_iload_n hx hb dX2_gapOf_19 rfl (lv_at hl 1 rfl) ?_
  obtain ⟨hg20, hm⟩ := gd_e hm
  refine k_iald (D := (dC, dI)) hx hb hK hP 7 1 rfl rfl (k := x1.toNatClampNeg) rfl hg20 dX2_gapOf_20 ?_
  obtain ⟨hg21, hm⟩ := gd_e hm
  refine k_iald (D := (dC, dI)) hx hb hK hP 3 1 rfl rfl (k := (wsecond (x1.toNatClampNeg)).toNatClampNeg) rfl hg21 dX2_gapOf_21 ?_
  refine lv_isub hx hb dX2_gapOf_22 ?_
  refine va_mabs hx hb (hml.trans hl.1.symm) hown (hts _ (List.mem_of_getElem? (i := 4) rfl)) (hts _ (List.mem_of_getElem? (i := 5) rfl)) (hts _ (List.mem_of_getElem? (i := 6) rfl)) (hts _ (List.mem_of_getElem? (i := 7) rfl)) (Nat.le_of_ble_eq_true rfl) (Nat.le_of_ble_eq_true rfl) (Nat.zero_le _) (Nat.zero_le _) dX2_gapOf_23 ?_
  refine lv_aload_n hx hb dX2_gapOf_26 rfl (lv_at hl 0 rfl) ?_
  refine va_get (D := (dC, dI)) (ci := 2) (v := .ref w_length) (C := RX2) (T := TX2) (N := 14) hx hb hts hinX2_gapOf_X2 hown hK hP 0 rfl rfl 6 (by decide) (hts _ (List.mem_of_getElem? (i := 8) rfl)) (fun _ h9 => h9) rfl dX2_gapOf_27 ?_
  refine lv_iload_n hx hb dX2_gapOf_30 rfl (lv_at hl 1 rfl) ?_
  obtain ⟨hg31, hm⟩ := gd_e hm
  refine k_iald (D := (dC, dI)) hx hb hK hP 5 1 rfl rfl (k := x1.toNatClampNeg) rfl hg31 dX2_gapOf_31 ?_
  refine lv_isub hx hb dX2_gapOf_32 ?_
  cases hm
  exact k_iret hx hb hr hlocks hP hS dX2_gapOf_33
def fX2_isTaut (wplace : Nat → Int32) (wlength : Nat → Int32) (wfirst : Nat → Int32) (wsecond : Nat → Int32) (x1 : Int32) : Option Int32 := bd1 (fX2_isHeld wfirst x1) (fun r2 => if r2 = 0 then (some (0 : Int32)) else (bd1 (fX2_gapOf wplace wlength wfirst wsecond x1) (fun r10 => if r10 ≤ 0 then (some (0 : Int32)) else (some (1 : Int32)))))
abbrev rmX2_isTaut : Room := { frames := 2, cells := 0, slots := 0, locals := 34 }
set_option maxHeartbeats 4000000 in
set_option maxRecDepth 100000 in
theorem ctX2_isTaut {l : Launch} {dC : Nat → ClassId} {dI : Nat → Nat → Nat} {kc : Nat → ClassId} {w_o w_kind w_v w_place w_rows w_length w_first w_second w_drifts w_traits : Nat} {wpeople : Int32} {wkind : Nat → Int32} {wv : Nat → Int32} {wplace : Nat → Int32} {wrows : Nat → Int32} {wleaves : Int32} {wlength : Nat → Int32} {wfirst : Nat → Int32} {wsecond : Nat → Int32} {wdrops : Int32} {wstep : Int32} {wlibrary : Option Nat} {wdrifts : Nat → Int32} {wtraits : Nat → Int32} {x1 : Int32} {r : Int32} (hm : fX2_isTaut wplace wlength wfirst wsecond x1 = some r) : ∀ sz : Nat, Met l yX2_isTaut wsX2_isTaut rmX2_isTaut (kPc dC dI kc [.ref w_o, .int x1] (fl [wdX2 kc w_o w_kind w_v w_place w_rows w_length w_first w_second w_drifts w_traits wpeople wkind wv wplace wrows wleaves wlength wfirst wsecond wdrops wstep wlibrary wdrifts wtraits]) sz) (kQi dC dI r (fl [wdX2 kc w_o w_kind w_v w_place w_rows w_length w_first w_second w_drifts w_traits wpeople wkind wv wplace wrows wleaves wlength wfirst wsecond wdrops wstep wlibrary wdrifts wtraits]) (va_A (fl [wdX2 kc w_o w_kind w_v w_place w_rows w_length w_first w_second w_drifts w_traits wpeople wkind wv wplace wrows wleaves wlength wfirst wsecond wdrops wstep wlibrary wdrifts wtraits]) sz)) 0 0 (va_A (fl [wdX2 kc w_o w_kind w_v w_place w_rows w_length w_first w_second w_drifts w_traits wpeople wkind wv wplace wrows wleaves wlength wfirst wsecond wdrops wstep wlibrary wdrifts wtraits]) sz) := by
  intro sz
  refine kMet (cc := cX2_isTaut) (maxL := 2) (ret := (some .boolean)) (Qf := fun A => kQi dC dI r (fl [wdX2 kc w_o w_kind w_v w_place w_rows w_length w_first w_second w_drifts w_traits wpeople wkind wv wplace wrows wleaves wlength wfirst wsecond wdrops wstep wlibrary wdrifts wtraits]) A) (by decide) rfl (Nat.le_of_ble_eq_true rfl) ?_
  intro p e s m below meth c A ls hx hb hr hml hts hown hlocks hname hsz hA hP hK hD hl
  have hS : va_S A s.heap s.heap [] := va_S.rf
  have hl : lv_has ls 2 [(0, .ref w_o), (1, .int x1)] := hl
  unfold fX2_isTaut at hm
  refine lv_aload_n hx hb dX2_isTaut_0 rfl (lv_at hl 0 rfl) ?_
  refine lv_iload_n hx hb dX2_isTaut_1 rfl (lv_at hl 1 rfl) ?_
  obtain ⟨r2, hc2, hm⟩ := bd1_e hm
  refine k_callGVi (dC := dC) (dI := dI) (kc := kc) (As := [.int x1]) (rest := []) (Gs' := [wdX2 kc w_o w_kind w_v w_place w_rows w_length w_first w_second w_drifts w_traits wpeople wkind wv wplace wrows wleaves wlength wfirst wsecond wdrops wstep wlibrary wdrifts wtraits]) hx hb hml hown hts hK hP hD hS hA (ctX2_isHeld (w_o := w_o) (w_kind := w_kind) (w_v := w_v) (w_place := w_place) (w_rows := w_rows) (w_length := w_length) (w_first := w_first) (w_second := w_second) (w_drifts := w_drifts) (w_traits := w_traits) (wpeople := wpeople) (wkind := wkind) (wv := wv) (wplace := wplace) (wrows := wrows) (wleaves := wleaves) (wlength := wlength) (wfirst := wfirst) (wsecond := wsecond) (wdrops := wdrops) (wstep := wstep) (wlibrary := wlibrary) (wdrifts := wdrifts) (wtraits := wtraits) (x1 := x1) hc2) (cwV 1 hts gX2_isTaut_X2_isHeld rfl rfl rfl (by decide +kernel) ⟨Nat.le_of_ble_eq_true rfl, Nat.le_of_ble_eq_true rfl⟩) [0] rfl (by decide) 2 rfl rfl rfl rfl hl rfl (Nat.le_of_ble_eq_true rfl) dX2_isTaut_2 ⟨Nat.zero_le _, Nat.zero_le _⟩ rfl rfl rfl (fun H locs hP hD hS => ?_)
  refine lv_if_eq (tgt := 20) hx hb dX2_isTaut_5 (by decide) (fun c5 => ?_) (fun c5 => ?_)
  · replace hm := it_t c5 hm
    refine lv_iconst (v := 0) hx hb dX2_isTaut_20 (by decide) ?_
    cases hm
    exact k_zret hx hb hr hlocks (by decide) hP hS dX2_isTaut_21
  · replace hm := it_f c5 hm
    refine lv_aload_n hx hb dX2_isTaut_8 rfl (lv_at hl 0 rfl) ?_
    refine lv_iload_n hx hb dX2_isTaut_9 rfl (lv_at hl 1 rfl) ?_
    obtain ⟨r10, hc10, hm⟩ := bd1_e hm
    refine k_callGVi (dC := dC) (dI := dI) (kc := kc) (As := [.int x1]) (rest := []) (Gs' := [wdX2 kc w_o w_kind w_v w_place w_rows w_length w_first w_second w_drifts w_traits wpeople wkind wv wplace wrows wleaves wlength wfirst wsecond wdrops wstep wlibrary wdrifts wtraits]) hx hb hml hown hts hK hP hD hS hA (ctX2_gapOf (w_o := w_o) (w_kind := w_kind) (w_v := w_v) (w_place := w_place) (w_rows := w_rows) (w_length := w_length) (w_first := w_first) (w_second := w_second) (w_drifts := w_drifts) (w_traits := w_traits) (wpeople := wpeople) (wkind := wkind) (wv := wv) (wplace := wplace) (wrows := wrows) (wleaves := wleaves) (wlength := wlength) (wfirst := wfirst) (wsecond := wsecond) (wdrops := wdrops) (wstep := wstep) (wlibrary := wlibrary) (wdrifts := wdrifts) (wtraits := wtraits) (x1 := x1) hc10) (cwV 1 hts gX2_isTaut_X2_gapOf rfl rfl rfl (by decide +kernel) ⟨Nat.le_of_ble_eq_true rfl, Nat.le_of_ble_eq_true rfl⟩) [0] rfl (by decide) 2 rfl rfl rfl rfl hl rfl (Nat.le_of_ble_eq_true rfl) dX2_isTaut_10 ⟨Nat.zero_le _, Nat.zero_le _⟩ rfl rfl rfl (fun H locs hP hD hS => ?_)
    refine lv_if_le (tgt := 20) hx hb dX2_isTaut_13 (by decide) (fun c13 => ?_) (fun c13 => ?_)
    · replace hm := it_t c13 hm
      refine lv_iconst (v := 0) hx hb dX2_isTaut_20 (by decide) ?_
      cases hm
      exact k_zret hx hb hr hlocks (by decide) hP hS dX2_isTaut_21
    · replace hm := it_f c13 hm
      refine lv_iconst (v := 1) hx hb dX2_isTaut_16 (by decide) ?_
      refine lv_goto (tgt := 21) hx hb dX2_isTaut_17 (by decide) ?_
      cases hm
      exact k_zret hx hb hr hlocks (by decide) hP hS dX2_isTaut_21
def LX2_tautBits_4 (wplace : Nat → Int32) (wleaves : Int32) (wlength : Nat → Int32) (wfirst : Nat → Int32) (wsecond : Nat → Int32) : Nat → Int32 → Int32 → Option Int32
  | 0, _, _ => none
  | n4 + 1, l1_4, l2_4 => if wleaves ≤ l2_4 then (some l1_4) else (bd1 (fX2_isTaut wplace wlength wfirst wsecond l2_4) (fun r14 => if r14 = 0 then (LX2_tautBits_4 wplace wleaves wlength wfirst wsecond n4 l1_4 (l2_4 + 1)) else (LX2_tautBits_4 wplace wleaves wlength wfirst wsecond n4 (l1_4 ||| (1 <<< (l2_4 &&& 31))) (l2_4 + 1))))
def fX2_tautBits (fu : Nat) (wplace : Nat → Int32) (wleaves : Int32) (wlength : Nat → Int32) (wfirst : Nat → Int32) (wsecond : Nat → Int32) : Option Int32 := LX2_tautBits_4 wplace wleaves wlength wfirst wsecond fu 0 0
theorem hinX2_tautBits_X2 : ∀ w ∈ u_ws RX2 TX2 14, w ∈ wsX2_tautBits := fun _ h => List.mem_cons_of_mem _ (List.mem_append_right _ h)
abbrev rmX2_tautBits : Room := { frames := 3, cells := 0, slots := 0, locals := 55 }
set_option maxHeartbeats 4000000 in
set_option maxRecDepth 100000 in
theorem ctX2_tautBits {l : Launch} {dC : Nat → ClassId} {dI : Nat → Nat → Nat} {kc : Nat → ClassId} {w_o w_kind w_v w_place w_rows w_length w_first w_second w_drifts w_traits : Nat} {wpeople : Int32} {wkind : Nat → Int32} {wv : Nat → Int32} {wplace : Nat → Int32} {wrows : Nat → Int32} {wleaves : Int32} {wlength : Nat → Int32} {wfirst : Nat → Int32} {wsecond : Nat → Int32} {wdrops : Int32} {wstep : Int32} {wlibrary : Option Nat} {wdrifts : Nat → Int32} {wtraits : Nat → Int32} {fu : Nat} {r : Int32} (hm : fX2_tautBits fu wplace wleaves wlength wfirst wsecond = some r) : ∀ sz : Nat, Met l yX2_tautBits wsX2_tautBits rmX2_tautBits (kPc dC dI kc [.ref w_o] (fl [wdX2 kc w_o w_kind w_v w_place w_rows w_length w_first w_second w_drifts w_traits wpeople wkind wv wplace wrows wleaves wlength wfirst wsecond wdrops wstep wlibrary wdrifts wtraits]) sz) (kQi dC dI r (fl [wdX2 kc w_o w_kind w_v w_place w_rows w_length w_first w_second w_drifts w_traits wpeople wkind wv wplace wrows wleaves wlength wfirst wsecond wdrops wstep wlibrary wdrifts wtraits]) (va_A (fl [wdX2 kc w_o w_kind w_v w_place w_rows w_length w_first w_second w_drifts w_traits wpeople wkind wv wplace wrows wleaves wlength wfirst wsecond wdrops wstep wlibrary wdrifts wtraits]) sz)) 0 0 (va_A (fl [wdX2 kc w_o w_kind w_v w_place w_rows w_length w_first w_second w_drifts w_traits wpeople wkind wv wplace wrows wleaves wlength wfirst wsecond wdrops wstep wlibrary wdrifts wtraits]) sz) := by
  intro sz
  refine kMet (cc := cX2_tautBits) (maxL := 3) (ret := (some .int)) (Qf := fun A => kQi dC dI r (fl [wdX2 kc w_o w_kind w_v w_place w_rows w_length w_first w_second w_drifts w_traits wpeople wkind wv wplace wrows wleaves wlength wfirst wsecond wdrops wstep wlibrary wdrifts wtraits]) A) (by decide) rfl (Nat.le_of_ble_eq_true rfl) ?_
  intro p e s m below meth c A ls hx hb hr hml hts hown hlocks hname hsz hA hP hK hD hl
  have hS : va_S A s.heap s.heap [] := va_S.rf
  have hl : lv_has ls 3 [(0, .ref w_o)] := hl
  unfold fX2_tautBits at hm
  refine lv_iconst (v := 0) hx hb dX2_tautBits_0 (by decide) ?_
  refine lv_istore_n (lv' := [(1, .int 0), (0, .ref w_o)]) hx hb dX2_tautBits_1 rfl hl (by decide) rfl (fun ls hl => ?_)
  refine lv_iconst (v := 0) hx hb dX2_tautBits_2 (by decide) ?_
  refine lv_istore_n (lv' := [(2, .int 0), (1, .int 0), (0, .ref w_o)]) hx hb dX2_tautBits_3 rfl hl (by decide) rfl (fun ls hl => ?_)
  have hL4 : ∀ (fn : Nat) (l1_4 : Int32) (l2_4 : Int32), LX2_tautBits_4 wplace wleaves wlength wfirst wsecond fn l1_4 l2_4 = some r → ∀ (H : Heap) (locs : List Loc), va_P (dC, dI) vwCl (fl [wdX2 kc w_o w_kind w_v w_place w_rows w_length w_first w_second w_drifts w_traits wpeople wkind wv wplace wrows wleaves wlength wfirst wsecond wdrops wstep wlibrary wdrifts wtraits]) H → va_D A (fl [wdX2 kc w_o w_kind w_v w_place w_rows w_length w_first w_second w_drifts w_traits wpeople wkind wv wplace wrows wleaves wlength wfirst wsecond wdrops wstep wlibrary wdrifts wtraits]) → va_S A s.heap H locs → ∀ ls : Array Slot, lv_has ls 3 [(0, .ref w_o), (1, .int l1_4), (2, .int l2_4)] → W p l e (headSpec wsX2_tautBits rmX2_tautBits).room s m [.ref w_o].toArray below meth c H locs 0 0 (MQ below (kQi dC dI r (fl [wdX2 kc w_o w_kind w_v w_place w_rows w_length w_first w_second w_drifts w_traits wpeople wkind wv wplace wrows wleaves wlength wfirst wsecond wdrops wstep wlibrary wdrifts wtraits]) A) [.ref w_o].toArray s 0 0 A) (F0 m 4 ls []) := by
    clear hm hP hD hS hl
    intro n4
    induction n4 with
    | zero => intro l1_4 l2_4 hm; rw [LX2_tautBits_4] at hm; cases hm
    | succ n4 ih4 =>
      intro l1_4 l2_4 hm H locs hP hD hS ls hl
      rw [LX2_tautBits_4] at hm
      refine lv_iload_n hx hb dX2_tautBits_4 rfl (lv_at hl 2 rfl) ?_
      refine lv_aload_n hx hb dX2_tautBits_5 rfl (lv_at hl 0 rfl) ?_
      refine va_get (D := (dC, dI)) (ci := 2) (v := .int wleaves) (C := RX2) (T := TX2) (N := 14) hx hb hts hinX2_tautBits_X2 hown hK hP 0 rfl rfl 5 (by decide) (hts _ (List.mem_of_getElem? (i := 1) rfl)) (fun _ h9 => h9) rfl dX2_tautBits_6 ?_
      refine lv_icmp_ge (tgt := 32) hx hb dX2_tautBits_9 (by decide) (fun c9 => ?_) (fun c9 => ?_)
      · replace hm := it_t c9 hm
        refine lv_iload_n hx hb dX2_tautBits_32 rfl (lv_at hl 1 rfl) ?_
        cases hm
        exact k_iret hx hb hr hlocks hP hS dX2_tautBits_33
      · replace hm := it_f c9 hm
        refine lv_aload_n hx hb dX2_tautBits_12 rfl (lv_at hl 0 rfl) ?_
        refine lv_iload_n hx hb dX2_tautBits_13 rfl (lv_at hl 2 rfl) ?_
        obtain ⟨r14, hc14, hm⟩ := bd1_e hm
        refine k_callGVi (dC := dC) (dI := dI) (kc := kc) (As := [.int l2_4]) (rest := []) (Gs' := [wdX2 kc w_o w_kind w_v w_place w_rows w_length w_first w_second w_drifts w_traits wpeople wkind wv wplace wrows wleaves wlength wfirst wsecond wdrops wstep wlibrary wdrifts wtraits]) hx hb hml hown hts hK hP hD hS hA (ctX2_isTaut (w_o := w_o) (w_kind := w_kind) (w_v := w_v) (w_place := w_place) (w_rows := w_rows) (w_length := w_length) (w_first := w_first) (w_second := w_second) (w_drifts := w_drifts) (w_traits := w_traits) (wpeople := wpeople) (wkind := wkind) (wv := wv) (wplace := wplace) (wrows := wrows) (wleaves := wleaves) (wlength := wlength) (wfirst := wfirst) (wsecond := wsecond) (wdrops := wdrops) (wstep := wstep) (wlibrary := wlibrary) (wdrifts := wdrifts) (wtraits := wtraits) (x1 := l2_4) hc14) (cwV 1 hts gX2_tautBits_X2_isTaut rfl rfl rfl (by decide +kernel) ⟨Nat.le_of_ble_eq_true rfl, Nat.le_of_ble_eq_true rfl⟩) [0] rfl (by decide) 2 rfl rfl rfl rfl hl rfl (Nat.le_of_ble_eq_true rfl) dX2_tautBits_14 ⟨Nat.zero_le _, Nat.zero_le _⟩ rfl rfl rfl (fun H locs hP hD hS => ?_)
        refine lv_if_eq (tgt := 26) hx hb dX2_tautBits_17 (by decide) (fun c17 => ?_) (fun c17 => ?_)
        · replace hm := it_t c17 hm
          refine lv_iinc (v := l2_4 + 1) (lv' := [(2, .int (l2_4 + 1)), (0, .ref w_o), (1, .int l1_4)]) hx hb dX2_tautBits_26 hl (k := 2) rfl rfl (by decide) rfl (fun ls hl => ?_)
          refine lv_goto (tgt := 4) hx hb dX2_tautBits_29 (by decide) ?_
          exact ih4 l1_4 (l2_4 + 1) hm _ _ hP hD hS _ (lv_sub hl [1, 2, 0] rfl)
        · replace hm := it_f c17 hm
          refine lv_iload_n hx hb dX2_tautBits_20 rfl (lv_at hl 1 rfl) ?_
          refine lv_iconst (v := 1) hx hb dX2_tautBits_21 (by decide) ?_
          refine lv_iload_n hx hb dX2_tautBits_22 rfl (lv_at hl 2 rfl) ?_
          refine lv_ishl hx hb dX2_tautBits_23 ?_
          refine lv_ior hx hb dX2_tautBits_24 ?_
          refine lv_istore_n (lv' := [(1, .int (l1_4 ||| (1 <<< (l2_4 &&& 31)))), (0, .ref w_o), (2, .int l2_4)]) hx hb dX2_tautBits_25 rfl hl (by decide) rfl (fun ls hl => ?_)
          refine lv_iinc (v := l2_4 + 1) (lv' := [(2, .int (l2_4 + 1)), (1, .int (l1_4 ||| (1 <<< (l2_4 &&& 31)))), (0, .ref w_o)]) hx hb dX2_tautBits_26 hl (k := 2) rfl rfl (by decide) rfl (fun ls hl => ?_)
          refine lv_goto (tgt := 4) hx hb dX2_tautBits_29 (by decide) ?_
          exact ih4 (l1_4 ||| (1 <<< (l2_4 &&& 31))) (l2_4 + 1) hm _ _ hP hD hS _ (lv_sub hl [2, 1, 0] rfl)
  exact hL4 _ _ _ hm _ _ hP hD hS _ (lv_sub hl [2, 1, 0] rfl)
def LX2_heldBits_4 (wleaves : Int32) (wfirst : Nat → Int32) : Nat → Int32 → Int32 → Option Int32
  | 0, _, _ => none
  | n4 + 1, l1_4, l2_4 => if wleaves ≤ l2_4 then (some l1_4) else (bd1 (fX2_isHeld wfirst l2_4) (fun r14 => if r14 = 0 then (LX2_heldBits_4 wleaves wfirst n4 l1_4 (l2_4 + 1)) else (LX2_heldBits_4 wleaves wfirst n4 (l1_4 ||| (1 <<< (l2_4 &&& 31))) (l2_4 + 1))))
def fX2_heldBits (fu : Nat) (wleaves : Int32) (wfirst : Nat → Int32) : Option Int32 := LX2_heldBits_4 wleaves wfirst fu 0 0
theorem hinX2_heldBits_X2 : ∀ w ∈ u_ws RX2 TX2 14, w ∈ wsX2_heldBits := fun _ h => List.mem_cons_of_mem _ (List.mem_append_right _ h)
abbrev rmX2_heldBits : Room := { frames := 1, cells := 0, slots := 0, locals := 33 }
set_option maxHeartbeats 4000000 in
set_option maxRecDepth 100000 in
theorem ctX2_heldBits {l : Launch} {dC : Nat → ClassId} {dI : Nat → Nat → Nat} {kc : Nat → ClassId} {w_o w_kind w_v w_place w_rows w_length w_first w_second w_drifts w_traits : Nat} {wpeople : Int32} {wkind : Nat → Int32} {wv : Nat → Int32} {wplace : Nat → Int32} {wrows : Nat → Int32} {wleaves : Int32} {wlength : Nat → Int32} {wfirst : Nat → Int32} {wsecond : Nat → Int32} {wdrops : Int32} {wstep : Int32} {wlibrary : Option Nat} {wdrifts : Nat → Int32} {wtraits : Nat → Int32} {fu : Nat} {r : Int32} (hm : fX2_heldBits fu wleaves wfirst = some r) : ∀ sz : Nat, Met l yX2_heldBits wsX2_heldBits rmX2_heldBits (kPc dC dI kc [.ref w_o] (fl [wdX2 kc w_o w_kind w_v w_place w_rows w_length w_first w_second w_drifts w_traits wpeople wkind wv wplace wrows wleaves wlength wfirst wsecond wdrops wstep wlibrary wdrifts wtraits]) sz) (kQi dC dI r (fl [wdX2 kc w_o w_kind w_v w_place w_rows w_length w_first w_second w_drifts w_traits wpeople wkind wv wplace wrows wleaves wlength wfirst wsecond wdrops wstep wlibrary wdrifts wtraits]) (va_A (fl [wdX2 kc w_o w_kind w_v w_place w_rows w_length w_first w_second w_drifts w_traits wpeople wkind wv wplace wrows wleaves wlength wfirst wsecond wdrops wstep wlibrary wdrifts wtraits]) sz)) 0 0 (va_A (fl [wdX2 kc w_o w_kind w_v w_place w_rows w_length w_first w_second w_drifts w_traits wpeople wkind wv wplace wrows wleaves wlength wfirst wsecond wdrops wstep wlibrary wdrifts wtraits]) sz) := by
  intro sz
  refine kMet (cc := cX2_heldBits) (maxL := 3) (ret := (some .int)) (Qf := fun A => kQi dC dI r (fl [wdX2 kc w_o w_kind w_v w_place w_rows w_length w_first w_second w_drifts w_traits wpeople wkind wv wplace wrows wleaves wlength wfirst wsecond wdrops wstep wlibrary wdrifts wtraits]) A) (by decide) rfl (Nat.le_of_ble_eq_true rfl) ?_
  intro p e s m below meth c A ls hx hb hr hml hts hown hlocks hname hsz hA hP hK hD hl
  have hS : va_S A s.heap s.heap [] := va_S.rf
  have hl : lv_has ls 3 [(0, .ref w_o)] := hl
  unfold fX2_heldBits at hm
  refine lv_iconst (v := 0) hx hb dX2_heldBits_0 (by decide) ?_
  refine lv_istore_n (lv' := [(1, .int 0), (0, .ref w_o)]) hx hb dX2_heldBits_1 rfl hl (by decide) rfl (fun ls hl => ?_)
  refine lv_iconst (v := 0) hx hb dX2_heldBits_2 (by decide) ?_
  refine lv_istore_n (lv' := [(2, .int 0), (1, .int 0), (0, .ref w_o)]) hx hb dX2_heldBits_3 rfl hl (by decide) rfl (fun ls hl => ?_)
  have hL4 : ∀ (fn : Nat) (l1_4 : Int32) (l2_4 : Int32), LX2_heldBits_4 wleaves wfirst fn l1_4 l2_4 = some r → ∀ (H : Heap) (locs : List Loc), va_P (dC, dI) vwCl (fl [wdX2 kc w_o w_kind w_v w_place w_rows w_length w_first w_second w_drifts w_traits wpeople wkind wv wplace wrows wleaves wlength wfirst wsecond wdrops wstep wlibrary wdrifts wtraits]) H → va_D A (fl [wdX2 kc w_o w_kind w_v w_place w_rows w_length w_first w_second w_drifts w_traits wpeople wkind wv wplace wrows wleaves wlength wfirst wsecond wdrops wstep wlibrary wdrifts wtraits]) → va_S A s.heap H locs → ∀ ls : Array Slot, lv_has ls 3 [(0, .ref w_o), (1, .int l1_4), (2, .int l2_4)] → W p l e (headSpec wsX2_heldBits rmX2_heldBits).room s m [.ref w_o].toArray below meth c H locs 0 0 (MQ below (kQi dC dI r (fl [wdX2 kc w_o w_kind w_v w_place w_rows w_length w_first w_second w_drifts w_traits wpeople wkind wv wplace wrows wleaves wlength wfirst wsecond wdrops wstep wlibrary wdrifts wtraits]) A) [.ref w_o].toArray s 0 0 A) (F0 m 4 ls []) := by
    clear hm hP hD hS hl
    intro n4
    induction n4 with
    | zero => intro l1_4 l2_4 hm; rw [LX2_heldBits_4] at hm; cases hm
    | succ n4 ih4 =>
      intro l1_4 l2_4 hm H locs hP hD hS ls hl
      rw [LX2_heldBits_4] at hm
      refine lv_iload_n hx hb dX2_heldBits_4 rfl (lv_at hl 2 rfl) ?_
      refine lv_aload_n hx hb dX2_heldBits_5 rfl (lv_at hl 0 rfl) ?_
      refine va_get (D := (dC, dI)) (ci := 2) (v := .int wleaves) (C := RX2) (T := TX2) (N := 14) hx hb hts hinX2_heldBits_X2 hown hK hP 0 rfl rfl 5 (by decide) (hts _ (List.mem_of_getElem? (i := 1) rfl)) (fun _ h9 => h9) rfl dX2_heldBits_6 ?_
      refine lv_icmp_ge (tgt := 32) hx hb dX2_heldBits_9 (by decide) (fun c9 => ?_) (fun c9 => ?_)
      · replace hm := it_t c9 hm
        refine lv_iload_n hx hb dX2_heldBits_32 rfl (lv_at hl 1 rfl) ?_
        cases hm
        exact k_iret hx hb hr hlocks hP hS dX2_heldBits_33
      · replace hm := it_f c9 hm
        refine lv_aload_n hx hb dX2_heldBits_12 rfl (lv_at hl 0 rfl) ?_
        refine lv_iload_n hx hb dX2_heldBits_13 rfl (lv_at hl 2 rfl) ?_
        obtain ⟨r14, hc14, hm⟩ := bd1_e hm
        refine k_callGVi (dC := dC) (dI := dI) (kc := kc) (As := [.int l2_4]) (rest := []) (Gs' := [wdX2 kc w_o w_kind w_v w_place w_rows w_length w_first w_second w_drifts w_traits wpeople wkind wv wplace wrows wleaves wlength wfirst wsecond wdrops wstep wlibrary wdrifts wtraits]) hx hb hml hown hts hK hP hD hS hA (ctX2_isHeld (w_o := w_o) (w_kind := w_kind) (w_v := w_v) (w_place := w_place) (w_rows := w_rows) (w_length := w_length) (w_first := w_first) (w_second := w_second) (w_drifts := w_drifts) (w_traits := w_traits) (wpeople := wpeople) (wkind := wkind) (wv := wv) (wplace := wplace) (wrows := wrows) (wleaves := wleaves) (wlength := wlength) (wfirst := wfirst) (wsecond := wsecond) (wdrops := wdrops) (wstep := wstep) (wlibrary := wlibrary) (wdrifts := wdrifts) (wtraits := wtraits) (x1 := l2_4) hc14) (cwV 1 hts gX2_heldBits_X2_isHeld rfl rfl rfl (by decide +kernel) ⟨Nat.le_of_ble_eq_true rfl, Nat.le_of_ble_eq_true rfl⟩) [0] rfl (by decide) 2 rfl rfl rfl rfl hl rfl (Nat.le_of_ble_eq_true rfl) dX2_heldBits_14 ⟨Nat.zero_le _, Nat.zero_le _⟩ rfl rfl rfl (fun H locs hP hD hS => ?_)
        refine lv_if_eq (tgt := 26) hx hb dX2_heldBits_17 (by decide) (fun c17 => ?_) (fun c17 => ?_)
        · replace hm := it_t c17 hm
          refine lv_iinc (v := l2_4 + 1) (lv' := [(2, .int (l2_4 + 1)), (0, .ref w_o), (1, .int l1_4)]) hx hb dX2_heldBits_26 hl (k := 2) rfl rfl (by decide) rfl (fun ls hl => ?_)
          refine lv_goto (tgt := 4) hx hb dX2_heldBits_29 (by decide) ?_
          exact ih4 l1_4 (l2_4 + 1) hm _ _ hP hD hS _ (lv_sub hl [1, 2, 0] rfl)
        · replace hm := it_f c17 hm
          refine lv_iload_n hx hb dX2_heldBits_20 rfl (lv_at hl 1 rfl) ?_
          refine lv_iconst (v := 1) hx hb dX2_heldBits_21 (by decide) ?_
          refine lv_iload_n hx hb dX2_heldBits_22 rfl (lv_at hl 2 rfl) ?_
          refine lv_ishl hx hb dX2_heldBits_23 ?_
          refine lv_ior hx hb dX2_heldBits_24 ?_
          refine lv_istore_n (lv' := [(1, .int (l1_4 ||| (1 <<< (l2_4 &&& 31)))), (0, .ref w_o), (2, .int l2_4)]) hx hb dX2_heldBits_25 rfl hl (by decide) rfl (fun ls hl => ?_)
          refine lv_iinc (v := l2_4 + 1) (lv' := [(2, .int (l2_4 + 1)), (1, .int (l1_4 ||| (1 <<< (l2_4 &&& 31)))), (0, .ref w_o)]) hx hb dX2_heldBits_26 hl (k := 2) rfl rfl (by decide) rfl (fun ls hl => ?_)
          refine lv_goto (tgt := 4) hx hb dX2_heldBits_29 (by decide) ?_
          exact ih4 (l1_4 ||| (1 <<< (l2_4 &&& 31))) (l2_4 + 1) hm _ _ hP hD hS _ (lv_sub hl [2, 1, 0] rfl)
  exact hL4 _ _ _ hm _ _ hP hD hS _ (lv_sub hl [2, 1, 0] rfl)
def LX2_placesTogether_4 (wpeople : Int32) (wplace : Nat → Int32) : Nat → Int32 → Int32 → Option Int32
  | 0, _, _ => none
  | n4 + 1, l1_4, l2_4 => if wpeople ≤ l2_4 then (some l1_4) else (gd (inb l2_4 6) (LX2_placesTogether_4 wpeople wplace n4 (l1_4 + (wplace (l2_4.toNatClampNeg))) (l2_4 + 1)))
def fX2_placesTogether (fu : Nat) (wpeople : Int32) (wplace : Nat → Int32) : Option Int32 := LX2_placesTogether_4 wpeople wplace fu 0 0
theorem hinX2_placesTogether_X2 : ∀ w ∈ u_ws RX2 TX2 14, w ∈ wsX2_placesTogether := fun _ h => List.mem_cons_of_mem _ (List.mem_append_right _ h)
abbrev rmX2_placesTogether : Room := { frames := 0, cells := 0, slots := 0, locals := 12 }
set_option maxHeartbeats 4000000 in
set_option maxRecDepth 100000 in
theorem ctX2_placesTogether {l : Launch} {dC : Nat → ClassId} {dI : Nat → Nat → Nat} {kc : Nat → ClassId} {w_o w_kind w_v w_place w_rows w_length w_first w_second w_drifts w_traits : Nat} {wpeople : Int32} {wkind : Nat → Int32} {wv : Nat → Int32} {wplace : Nat → Int32} {wrows : Nat → Int32} {wleaves : Int32} {wlength : Nat → Int32} {wfirst : Nat → Int32} {wsecond : Nat → Int32} {wdrops : Int32} {wstep : Int32} {wlibrary : Option Nat} {wdrifts : Nat → Int32} {wtraits : Nat → Int32} {fu : Nat} {r : Int32} (hm : fX2_placesTogether fu wpeople wplace = some r) : ∀ sz : Nat, Met l yX2_placesTogether wsX2_placesTogether rmX2_placesTogether (kPc dC dI kc [.ref w_o] (fl [wdX2 kc w_o w_kind w_v w_place w_rows w_length w_first w_second w_drifts w_traits wpeople wkind wv wplace wrows wleaves wlength wfirst wsecond wdrops wstep wlibrary wdrifts wtraits]) sz) (kQi dC dI r (fl [wdX2 kc w_o w_kind w_v w_place w_rows w_length w_first w_second w_drifts w_traits wpeople wkind wv wplace wrows wleaves wlength wfirst wsecond wdrops wstep wlibrary wdrifts wtraits]) (va_A (fl [wdX2 kc w_o w_kind w_v w_place w_rows w_length w_first w_second w_drifts w_traits wpeople wkind wv wplace wrows wleaves wlength wfirst wsecond wdrops wstep wlibrary wdrifts wtraits]) sz)) 0 0 (va_A (fl [wdX2 kc w_o w_kind w_v w_place w_rows w_length w_first w_second w_drifts w_traits wpeople wkind wv wplace wrows wleaves wlength wfirst wsecond wdrops wstep wlibrary wdrifts wtraits]) sz) := by
  intro sz
  refine kMet (cc := cX2_placesTogether) (maxL := 3) (ret := (some .int)) (Qf := fun A => kQi dC dI r (fl [wdX2 kc w_o w_kind w_v w_place w_rows w_length w_first w_second w_drifts w_traits wpeople wkind wv wplace wrows wleaves wlength wfirst wsecond wdrops wstep wlibrary wdrifts wtraits]) A) (by decide) rfl (Nat.le_of_ble_eq_true rfl) ?_
  intro p e s m below meth c A ls hx hb hr hml hts hown hlocks hname hsz hA hP hK hD hl
  have hS : va_S A s.heap s.heap [] := va_S.rf
  have hl : lv_has ls 3 [(0, .ref w_o)] := hl
  unfold fX2_placesTogether at hm
  refine lv_iconst (v := 0) hx hb dX2_placesTogether_0 (by decide) ?_
  refine lv_istore_n (lv' := [(1, .int 0), (0, .ref w_o)]) hx hb dX2_placesTogether_1 rfl hl (by decide) rfl (fun ls hl => ?_)
  refine lv_iconst (v := 0) hx hb dX2_placesTogether_2 (by decide) ?_
  refine lv_istore_n (lv' := [(2, .int 0), (1, .int 0), (0, .ref w_o)]) hx hb dX2_placesTogether_3 rfl hl (by decide) rfl (fun ls hl => ?_)
  have hL4 : ∀ (fn : Nat) (l1_4 : Int32) (l2_4 : Int32), LX2_placesTogether_4 wpeople wplace fn l1_4 l2_4 = some r → ∀ (H : Heap) (locs : List Loc), va_P (dC, dI) vwCl (fl [wdX2 kc w_o w_kind w_v w_place w_rows w_length w_first w_second w_drifts w_traits wpeople wkind wv wplace wrows wleaves wlength wfirst wsecond wdrops wstep wlibrary wdrifts wtraits]) H → va_D A (fl [wdX2 kc w_o w_kind w_v w_place w_rows w_length w_first w_second w_drifts w_traits wpeople wkind wv wplace wrows wleaves wlength wfirst wsecond wdrops wstep wlibrary wdrifts wtraits]) → va_S A s.heap H locs → ∀ ls : Array Slot, lv_has ls 3 [(0, .ref w_o), (1, .int l1_4), (2, .int l2_4)] → W p l e (headSpec wsX2_placesTogether rmX2_placesTogether).room s m [.ref w_o].toArray below meth c H locs 0 0 (MQ below (kQi dC dI r (fl [wdX2 kc w_o w_kind w_v w_place w_rows w_length w_first w_second w_drifts w_traits wpeople wkind wv wplace wrows wleaves wlength wfirst wsecond wdrops wstep wlibrary wdrifts wtraits]) A) [.ref w_o].toArray s 0 0 A) (F0 m 4 ls []) := by
    clear hm hP hD hS hl
    intro n4
    induction n4 with
    | zero => intro l1_4 l2_4 hm; rw [LX2_placesTogether_4] at hm; cases hm
    | succ n4 ih4 =>
      intro l1_4 l2_4 hm H locs hP hD hS ls hl
      rw [LX2_placesTogether_4] at hm
      refine lv_iload_n hx hb dX2_placesTogether_4 rfl (lv_at hl 2 rfl) ?_
      refine lv_aload_n hx hb dX2_placesTogether_5 rfl (lv_at hl 0 rfl) ?_
      refine va_get (D := (dC, dI)) (ci := 2) (v := .int wpeople) (C := RX2) (T := TX2) (N := 14) hx hb hts hinX2_placesTogether_X2 hown hK hP 0 rfl rfl 0 (by decide) (hts _ (List.mem_of_getElem? (i := 1) rfl)) (fun _ h9 => h9) rfl dX2_placesTogether_6 ?_
      refine lv_icmp_ge (tgt := 27) hx hb dX2_placesTogether_9 (by decide) (fun c9 => ?_) (fun c9 => ?_)
      · replace hm := it_t c9 hm
        refine lv_iload_n hx hb dX2_placesTogether_27 rfl (lv_at hl 1 rfl) ?_
        cases hm
        exact k_iret hx hb hr hlocks hP hS dX2_placesTogether_28
      · replace hm := it_f c9 hm
        refine lv_iload_n hx hb dX2_placesTogether_12 rfl (lv_at hl 1 rfl) ?_
        refine lv_aload_n hx hb dX2_placesTogether_13 rfl (lv_at hl 0 rfl) ?_
        refine va_get (D := (dC, dI)) (ci := 2) (v := .ref w_place) (C := RX2) (T := TX2) (N := 14) hx hb hts hinX2_placesTogether_X2 hown hK hP 0 rfl rfl 3 (by decide) (hts _ (List.mem_of_getElem? (i := 2) rfl)) (fun _ h9 => h9) rfl dX2_placesTogether_14 ?_
        refine lv_iload_n hx hb dX2_placesTogether_17 rfl (lv_at hl 2 rfl) ?_
        obtain ⟨hg18, hm⟩ := gd_e hm
        refine k_iald (D := (dC, dI)) hx hb hK hP 3 1 rfl rfl (k := l2_4.toNatClampNeg) rfl hg18 dX2_placesTogether_18 ?_
        refine lv_iadd hx hb dX2_placesTogether_19 ?_
        refine lv_istore_n (lv' := [(1, .int (l1_4 + (wplace (l2_4.toNatClampNeg)))), (0, .ref w_o), (2, .int l2_4)]) hx hb dX2_placesTogether_20 rfl hl (by decide) rfl (fun ls hl => ?_)
        refine lv_iinc (v := l2_4 + 1) (lv' := [(2, .int (l2_4 + 1)), (1, .int (l1_4 + (wplace (l2_4.toNatClampNeg)))), (0, .ref w_o)]) hx hb dX2_placesTogether_21 hl (k := 2) rfl rfl (by decide) rfl (fun ls hl => ?_)
        refine lv_goto (tgt := 4) hx hb dX2_placesTogether_24 (by decide) ?_
        exact ih4 (l1_4 + (wplace (l2_4.toNatClampNeg))) (l2_4 + 1) hm _ _ hP hD hS _ (lv_sub hl [2, 1, 0] rfl)
  exact hL4 _ _ _ hm _ _ hP hD hS _ (lv_sub hl [2, 1, 0] rfl)
def fX2_addPerson (wpeople : Int32) (wkind : Nat → Int32) (wv : Nat → Int32) (wplace : Nat → Int32) (x1 : Int32) (x2 : Int32) (x3 : Int32) : Option (Int32 × Int32 × (Nat → Int32) × (Nat → Int32) × (Nat → Int32)) := gd (inb wpeople 6) (gd (inb wpeople 6) (gd (inb wpeople 6) (some ((wpeople + 1) - 1, wpeople + 1, upd wkind (wpeople.toNatClampNeg) x1, upd wv (wpeople.toNatClampNeg) x2, upd wplace (wpeople.toNatClampNeg) x3))))
theorem hinX2_addPerson_X2 : ∀ w ∈ u_ws RX2 TX2 14, w ∈ wsX2_addPerson := fun _ h => List.mem_cons_of_mem _ (List.mem_append_right _ h)
abbrev rmX2_addPerson : Room := { frames := 0, cells := 0, slots := 0, locals := 12 }
set_option maxHeartbeats 4000000 in
set_option maxRecDepth 100000 in
theorem ctX2_addPerson {l : Launch} {dC : Nat → ClassId} {dI : Nat → Nat → Nat} {kc : Nat → ClassId} {w_o w_kind w_v w_place w_rows w_length w_first w_second w_drifts w_traits : Nat} {wpeople : Int32} {wkind : Nat → Int32} {wv : Nat → Int32} {wplace : Nat → Int32} {wrows : Nat → Int32} {wleaves : Int32} {wlength : Nat → Int32} {wfirst : Nat → Int32} {wsecond : Nat → Int32} {wdrops : Int32} {wstep : Int32} {wlibrary : Option Nat} {wdrifts : Nat → Int32} {wtraits : Nat → Int32} {x1 : Int32} {x2 : Int32} {x3 : Int32} {r : Int32} {wpeople' : Int32} {wkind' : Nat → Int32} {wv' : Nat → Int32} {wplace' : Nat → Int32} (hm : fX2_addPerson wpeople wkind wv wplace x1 x2 x3 = some (r, wpeople', wkind', wv', wplace')) : ∀ sz : Nat, Met l yX2_addPerson wsX2_addPerson rmX2_addPerson (kPc dC dI kc [.ref w_o, .int x1, .int x2, .int x3] (fl [wdX2 kc w_o w_kind w_v w_place w_rows w_length w_first w_second w_drifts w_traits wpeople wkind wv wplace wrows wleaves wlength wfirst wsecond wdrops wstep wlibrary wdrifts wtraits]) sz) (kQi dC dI r (fl [wdX2 kc w_o w_kind w_v w_place w_rows w_length w_first w_second w_drifts w_traits wpeople' wkind' wv' wplace' wrows wleaves wlength wfirst wsecond wdrops wstep wlibrary wdrifts wtraits]) (va_A (fl [wdX2 kc w_o w_kind w_v w_place w_rows w_length w_first w_second w_drifts w_traits wpeople wkind wv wplace wrows wleaves wlength wfirst wsecond wdrops wstep wlibrary wdrifts wtraits]) sz)) 0 0 (va_A (fl [wdX2 kc w_o w_kind w_v w_place w_rows w_length w_first w_second w_drifts w_traits wpeople wkind wv wplace wrows wleaves wlength wfirst wsecond wdrops wstep wlibrary wdrifts wtraits]) sz) := by
  intro sz
  refine kMet (cc := cX2_addPerson) (maxL := 4) (ret := (some .int)) (Qf := fun A => kQi dC dI r (fl [wdX2 kc w_o w_kind w_v w_place w_rows w_length w_first w_second w_drifts w_traits wpeople' wkind' wv' wplace' wrows wleaves wlength wfirst wsecond wdrops wstep wlibrary wdrifts wtraits]) A) (by decide) rfl (Nat.le_of_ble_eq_true rfl) ?_
  intro p e s m below meth c A ls hx hb hr hml hts hown hlocks hname hsz hA hP hK hD hl
  have hS : va_S A s.heap s.heap [] := va_S.rf
  have hl : lv_has ls 4 [(0, .ref w_o), (1, .int x1), (2, .int x2), (3, .int x3)] := hl
  unfold fX2_addPerson at hm
  refine lv_aload_n hx hb dX2_addPerson_0 rfl (lv_at hl 0 rfl) ?_
  refine va_get (D := (dC, dI)) (ci := 2) (v := .ref w_kind) (C := RX2) (T := TX2) (N := 14) hx hb hts hinX2_addPerson_X2 hown hK hP 0 rfl rfl 1 (by decide) (hts _ (List.mem_of_getElem? (i := 1) rfl)) (fun _ h9 => h9) rfl dX2_addPerson_1 ?_
  refine lv_aload_n hx hb dX2_addPerson_4 rfl (lv_at hl 0 rfl) ?_
  refine va_get (D := (dC, dI)) (ci := 2) (v := .int wpeople) (C := RX2) (T := TX2) (N := 14) hx hb hts hinX2_addPerson_X2 hown hK hP 0 rfl rfl 0 (by decide) (hts _ (List.mem_of_getElem? (i := 2) rfl)) (fun _ h9 => h9) rfl dX2_addPerson_5 ?_
  refine lv_iload_n hx hb dX2_addPerson_8 rfl (lv_at hl 1 rfl) ?_
  obtain ⟨hg9, hm⟩ := gd_e hm
  refine k_iast (D := (dC, dI)) hx hb hK hP hD hS 1 1 rfl rfl (k := wpeople.toNatClampNeg) rfl hg9 dX2_addPerson_9 (fun H locs hP hD hS => ?_)
  have hP : va_P (dC, dI) vwCl (fl [wdX2 kc w_o w_kind w_v w_place w_rows w_length w_first w_second w_drifts w_traits wpeople (upd wkind (wpeople.toNatClampNeg) x1) wv wplace wrows wleaves wlength wfirst wsecond wdrops wstep wlibrary wdrifts wtraits]) H := hP
  have hD : va_D A (fl [wdX2 kc w_o w_kind w_v w_place w_rows w_length w_first w_second w_drifts w_traits wpeople (upd wkind (wpeople.toNatClampNeg) x1) wv wplace wrows wleaves wlength wfirst wsecond wdrops wstep wlibrary wdrifts wtraits]) := hD
  refine lv_aload_n hx hb dX2_addPerson_10 rfl (lv_at hl 0 rfl) ?_
  refine va_get (D := (dC, dI)) (ci := 2) (v := .ref w_v) (C := RX2) (T := TX2) (N := 14) hx hb hts hinX2_addPerson_X2 hown hK hP 0 rfl rfl 2 (by decide) (hts _ (List.mem_of_getElem? (i := 3) rfl)) (fun _ h9 => h9) rfl dX2_addPerson_11 ?_
  refine lv_aload_n hx hb dX2_addPerson_14 rfl (lv_at hl 0 rfl) ?_
  refine va_get (D := (dC, dI)) (ci := 2) (v := .int wpeople) (C := RX2) (T := TX2) (N := 14) hx hb hts hinX2_addPerson_X2 hown hK hP 0 rfl rfl 0 (by decide) (hts _ (List.mem_of_getElem? (i := 2) rfl)) (fun _ h9 => h9) rfl dX2_addPerson_15 ?_
  refine lv_iload_n hx hb dX2_addPerson_18 rfl (lv_at hl 2 rfl) ?_
  obtain ⟨hg19, hm⟩ := gd_e hm
  refine k_iast (D := (dC, dI)) hx hb hK hP hD hS 2 1 rfl rfl (k := wpeople.toNatClampNeg) rfl hg19 dX2_addPerson_19 (fun H locs hP hD hS => ?_)
  have hP : va_P (dC, dI) vwCl (fl [wdX2 kc w_o w_kind w_v w_place w_rows w_length w_first w_second w_drifts w_traits wpeople (upd wkind (wpeople.toNatClampNeg) x1) (upd wv (wpeople.toNatClampNeg) x2) wplace wrows wleaves wlength wfirst wsecond wdrops wstep wlibrary wdrifts wtraits]) H := hP
  have hD : va_D A (fl [wdX2 kc w_o w_kind w_v w_place w_rows w_length w_first w_second w_drifts w_traits wpeople (upd wkind (wpeople.toNatClampNeg) x1) (upd wv (wpeople.toNatClampNeg) x2) wplace wrows wleaves wlength wfirst wsecond wdrops wstep wlibrary wdrifts wtraits]) := hD
  refine lv_aload_n hx hb dX2_addPerson_20 rfl (lv_at hl 0 rfl) ?_
  refine va_get (D := (dC, dI)) (ci := 2) (v := .ref w_place) (C := RX2) (T := TX2) (N := 14) hx hb hts hinX2_addPerson_X2 hown hK hP 0 rfl rfl 3 (by decide) (hts _ (List.mem_of_getElem? (i := 4) rfl)) (fun _ h9 => h9) rfl dX2_addPerson_21 ?_
  refine lv_aload_n hx hb dX2_addPerson_24 rfl (lv_at hl 0 rfl) ?_
  refine va_get (D := (dC, dI)) (ci := 2) (v := .int wpeople) (C := RX2) (T := TX2) (N := 14) hx hb hts hinX2_addPerson_X2 hown hK hP 0 rfl rfl 0 (by decide) (hts _ (List.mem_of_getElem? (i := 2) rfl)) (fun _ h9 => h9) rfl dX2_addPerson_25 ?_
  refine lv_iload_n hx hb dX2_addPerson_28 rfl (lv_at hl 3 rfl) ?_
  obtain ⟨hg29, hm⟩ := gd_e hm
  refine k_iast (D := (dC, dI)) hx hb hK hP hD hS 3 1 rfl rfl (k := wpeople.toNatClampNeg) rfl hg29 dX2_addPerson_29 (fun H locs hP hD hS => ?_)
  have hP : va_P (dC, dI) vwCl (fl [wdX2 kc w_o w_kind w_v w_place w_rows w_length w_first w_second w_drifts w_traits wpeople (upd wkind (wpeople.toNatClampNeg) x1) (upd wv (wpeople.toNatClampNeg) x2) (upd wplace (wpeople.toNatClampNeg) x3) wrows wleaves wlength wfirst wsecond wdrops wstep wlibrary wdrifts wtraits]) H := hP
  have hD : va_D A (fl [wdX2 kc w_o w_kind w_v w_place w_rows w_length w_first w_second w_drifts w_traits wpeople (upd wkind (wpeople.toNatClampNeg) x1) (upd wv (wpeople.toNatClampNeg) x2) (upd wplace (wpeople.toNatClampNeg) x3) wrows wleaves wlength wfirst wsecond wdrops wstep wlibrary wdrifts wtraits]) := hD
  refine lv_aload_n hx hb dX2_addPerson_30 rfl (lv_at hl 0 rfl) ?_
  refine lv_dup hx hb dX2_addPerson_31 rfl ?_
  refine va_get (D := (dC, dI)) (ci := 2) (v := .int wpeople) (C := RX2) (T := TX2) (N := 14) hx hb hts hinX2_addPerson_X2 hown hK hP 0 rfl rfl 0 (by decide) (hts _ (List.mem_of_getElem? (i := 2) rfl)) (fun _ h9 => h9) rfl dX2_addPerson_32 ?_
  refine lv_iconst (v := 1) hx hb dX2_addPerson_35 (by decide) ?_
  refine lv_iadd hx hb dX2_addPerson_36 ?_
  refine va_put (D := (dC, dI)) (ci := 2) (v := .int (wpeople + 1)) (ty := .int) (C := RX2) (T := TX2) (N := 14) hx hb hts hinX2_addPerson_X2 tyX2 tyX2_ok nmX2 hown hK hP hD hS 0 rfl rfl 0 (by decide) (hts _ (List.mem_of_getElem? (i := 2) rfl)) (fun _ h9 => h9) rfl (by decide +kernel) rfl rfl (Nat.le_of_ble_eq_true rfl) dX2_addPerson_37 (fun H locs hP hD hS => ?_)
  have hP : va_P (dC, dI) vwCl (fl [wdX2 kc w_o w_kind w_v w_place w_rows w_length w_first w_second w_drifts w_traits (wpeople + 1) (upd wkind (wpeople.toNatClampNeg) x1) (upd wv (wpeople.toNatClampNeg) x2) (upd wplace (wpeople.toNatClampNeg) x3) wrows wleaves wlength wfirst wsecond wdrops wstep wlibrary wdrifts wtraits]) H := hP
  have hD : va_D A (fl [wdX2 kc w_o w_kind w_v w_place w_rows w_length w_first w_second w_drifts w_traits (wpeople + 1) (upd wkind (wpeople.toNatClampNeg) x1) (upd wv (wpeople.toNatClampNeg) x2) (upd wplace (wpeople.toNatClampNeg) x3) wrows wleaves wlength wfirst wsecond wdrops wstep wlibrary wdrifts wtraits]) := hD
  refine lv_aload_n hx hb dX2_addPerson_40 rfl (lv_at hl 0 rfl) ?_
  refine va_get (D := (dC, dI)) (ci := 2) (v := .int (wpeople + 1)) (C := RX2) (T := TX2) (N := 14) hx hb hts hinX2_addPerson_X2 hown hK hP 0 rfl rfl 0 (by decide) (hts _ (List.mem_of_getElem? (i := 2) rfl)) (fun _ h9 => h9) rfl dX2_addPerson_41 ?_
  refine lv_iconst (v := 1) hx hb dX2_addPerson_44 (by decide) ?_
  refine lv_isub hx hb dX2_addPerson_45 ?_
  cases hm
  exact k_iret hx hb hr hlocks hP hS dX2_addPerson_46
def fX2_addLeaf (wleaves : Int32) (wlength : Nat → Int32) (wfirst : Nat → Int32) (wsecond : Nat → Int32) (x1 : Int32) : Option (Int32 × Int32 × (Nat → Int32) × (Nat → Int32) × (Nat → Int32)) := gd (inb wleaves 4) (bd2 (fX2_letGo wfirst wsecond wleaves) (fun wfirst_15 wsecond_15 => some ((wleaves + 1) - 1, wleaves + 1, upd wlength (wleaves.toNatClampNeg) x1, wfirst_15, wsecond_15)))
theorem hinX2_addLeaf_X2 : ∀ w ∈ u_ws RX2 TX2 14, w ∈ wsX2_addLeaf := fun _ h => List.mem_cons_of_mem _ (List.mem_append_right _ h)
abbrev rmX2_addLeaf : Room := { frames := 2, cells := 0, slots := 0, locals := 56 }
set_option maxHeartbeats 4000000 in
set_option maxRecDepth 100000 in
theorem ctX2_addLeaf {l : Launch} {dC : Nat → ClassId} {dI : Nat → Nat → Nat} {kc : Nat → ClassId} {w_o w_kind w_v w_place w_rows w_length w_first w_second w_drifts w_traits : Nat} {wpeople : Int32} {wkind : Nat → Int32} {wv : Nat → Int32} {wplace : Nat → Int32} {wrows : Nat → Int32} {wleaves : Int32} {wlength : Nat → Int32} {wfirst : Nat → Int32} {wsecond : Nat → Int32} {wdrops : Int32} {wstep : Int32} {wlibrary : Option Nat} {wdrifts : Nat → Int32} {wtraits : Nat → Int32} {x1 : Int32} {r : Int32} {wleaves' : Int32} {wlength' : Nat → Int32} {wfirst' : Nat → Int32} {wsecond' : Nat → Int32} (hm : fX2_addLeaf wleaves wlength wfirst wsecond x1 = some (r, wleaves', wlength', wfirst', wsecond')) : ∀ sz : Nat, Met l yX2_addLeaf wsX2_addLeaf rmX2_addLeaf (kPc dC dI kc [.ref w_o, .int x1] (fl [wdX2 kc w_o w_kind w_v w_place w_rows w_length w_first w_second w_drifts w_traits wpeople wkind wv wplace wrows wleaves wlength wfirst wsecond wdrops wstep wlibrary wdrifts wtraits]) sz) (kQi dC dI r (fl [wdX2 kc w_o w_kind w_v w_place w_rows w_length w_first w_second w_drifts w_traits wpeople wkind wv wplace wrows wleaves' wlength' wfirst' wsecond' wdrops wstep wlibrary wdrifts wtraits]) (va_A (fl [wdX2 kc w_o w_kind w_v w_place w_rows w_length w_first w_second w_drifts w_traits wpeople wkind wv wplace wrows wleaves wlength wfirst wsecond wdrops wstep wlibrary wdrifts wtraits]) sz)) 0 0 (va_A (fl [wdX2 kc w_o w_kind w_v w_place w_rows w_length w_first w_second w_drifts w_traits wpeople wkind wv wplace wrows wleaves wlength wfirst wsecond wdrops wstep wlibrary wdrifts wtraits]) sz) := by
  intro sz
  refine kMet (cc := cX2_addLeaf) (maxL := 2) (ret := (some .int)) (Qf := fun A => kQi dC dI r (fl [wdX2 kc w_o w_kind w_v w_place w_rows w_length w_first w_second w_drifts w_traits wpeople wkind wv wplace wrows wleaves' wlength' wfirst' wsecond' wdrops wstep wlibrary wdrifts wtraits]) A) (by decide) rfl (Nat.le_of_ble_eq_true rfl) ?_
  intro p e s m below meth c A ls hx hb hr hml hts hown hlocks hname hsz hA hP hK hD hl
  have hS : va_S A s.heap s.heap [] := va_S.rf
  have hl : lv_has ls 2 [(0, .ref w_o), (1, .int x1)] := hl
  unfold fX2_addLeaf at hm
  refine lv_aload_n hx hb dX2_addLeaf_0 rfl (lv_at hl 0 rfl) ?_
  refine va_get (D := (dC, dI)) (ci := 2) (v := .ref w_length) (C := RX2) (T := TX2) (N := 14) hx hb hts hinX2_addLeaf_X2 hown hK hP 0 rfl rfl 6 (by decide) (hts _ (List.mem_of_getElem? (i := 1) rfl)) (fun _ h9 => h9) rfl dX2_addLeaf_1 ?_
  refine lv_aload_n hx hb dX2_addLeaf_4 rfl (lv_at hl 0 rfl) ?_
  refine va_get (D := (dC, dI)) (ci := 2) (v := .int wleaves) (C := RX2) (T := TX2) (N := 14) hx hb hts hinX2_addLeaf_X2 hown hK hP 0 rfl rfl 5 (by decide) (hts _ (List.mem_of_getElem? (i := 2) rfl)) (fun _ h9 => h9) rfl dX2_addLeaf_5 ?_
  refine lv_iload_n hx hb dX2_addLeaf_8 rfl (lv_at hl 1 rfl) ?_
  obtain ⟨hg9, hm⟩ := gd_e hm
  refine k_iast (D := (dC, dI)) hx hb hK hP hD hS 5 1 rfl rfl (k := wleaves.toNatClampNeg) rfl hg9 dX2_addLeaf_9 (fun H locs hP hD hS => ?_)
  have hP : va_P (dC, dI) vwCl (fl [wdX2 kc w_o w_kind w_v w_place w_rows w_length w_first w_second w_drifts w_traits wpeople wkind wv wplace wrows wleaves (upd wlength (wleaves.toNatClampNeg) x1) wfirst wsecond wdrops wstep wlibrary wdrifts wtraits]) H := hP
  have hD : va_D A (fl [wdX2 kc w_o w_kind w_v w_place w_rows w_length w_first w_second w_drifts w_traits wpeople wkind wv wplace wrows wleaves (upd wlength (wleaves.toNatClampNeg) x1) wfirst wsecond wdrops wstep wlibrary wdrifts wtraits]) := hD
  refine lv_aload_n hx hb dX2_addLeaf_10 rfl (lv_at hl 0 rfl) ?_
  refine lv_aload_n hx hb dX2_addLeaf_11 rfl (lv_at hl 0 rfl) ?_
  refine va_get (D := (dC, dI)) (ci := 2) (v := .int wleaves) (C := RX2) (T := TX2) (N := 14) hx hb hts hinX2_addLeaf_X2 hown hK hP 0 rfl rfl 5 (by decide) (hts _ (List.mem_of_getElem? (i := 2) rfl)) (fun _ h9 => h9) rfl dX2_addLeaf_12 ?_
  obtain ⟨wfirst_15, wsecond_15, hc15, hm⟩ := bd2_e hm
  refine k_callGVv (dC := dC) (dI := dI) (kc := kc) (As := [.int wleaves]) (rest := []) (Gs' := [wdX2 kc w_o w_kind w_v w_place w_rows w_length w_first w_second w_drifts w_traits wpeople wkind wv wplace wrows wleaves (upd wlength (wleaves.toNatClampNeg) x1) wfirst_15 wsecond_15 wdrops wstep wlibrary wdrifts wtraits]) hx hb hml hown hts hK hP hD hS hA (ctX2_letGo (w_o := w_o) (w_kind := w_kind) (w_v := w_v) (w_place := w_place) (w_rows := w_rows) (w_length := w_length) (w_first := w_first) (w_second := w_second) (w_drifts := w_drifts) (w_traits := w_traits) (wpeople := wpeople) (wkind := wkind) (wv := wv) (wplace := wplace) (wrows := wrows) (wleaves := wleaves) (wlength := upd wlength (wleaves.toNatClampNeg) x1) (wfirst := wfirst) (wsecond := wsecond) (wdrops := wdrops) (wstep := wstep) (wlibrary := wlibrary) (wdrifts := wdrifts) (wtraits := wtraits) (x1 := wleaves) hc15) (cwV 1 hts gX2_addLeaf_X2_letGo rfl rfl rfl (by decide +kernel) ⟨Nat.le_of_ble_eq_true rfl, Nat.le_of_ble_eq_true rfl⟩) [0] rfl (by decide) 2 rfl rfl rfl rfl hl rfl (Nat.le_of_ble_eq_true rfl) dX2_addLeaf_15 ⟨Nat.zero_le _, Nat.zero_le _⟩ rfl rfl rfl (fun H locs hP hD hS => ?_)
  refine lv_aload_n hx hb dX2_addLeaf_18 rfl (lv_at hl 0 rfl) ?_
  refine lv_dup hx hb dX2_addLeaf_19 rfl ?_
  refine va_get (D := (dC, dI)) (ci := 2) (v := .int wleaves) (C := RX2) (T := TX2) (N := 14) hx hb hts hinX2_addLeaf_X2 hown hK hP 0 rfl rfl 5 (by decide) (hts _ (List.mem_of_getElem? (i := 2) rfl)) (fun _ h9 => h9) rfl dX2_addLeaf_20 ?_
  refine lv_iconst (v := 1) hx hb dX2_addLeaf_23 (by decide) ?_
  refine lv_iadd hx hb dX2_addLeaf_24 ?_
  refine va_put (D := (dC, dI)) (ci := 2) (v := .int (wleaves + 1)) (ty := .int) (C := RX2) (T := TX2) (N := 14) hx hb hts hinX2_addLeaf_X2 tyX2 tyX2_ok nmX2 hown hK hP hD hS 0 rfl rfl 5 (by decide) (hts _ (List.mem_of_getElem? (i := 2) rfl)) (fun _ h9 => h9) rfl (by decide +kernel) rfl rfl (Nat.le_of_ble_eq_true rfl) dX2_addLeaf_25 (fun H locs hP hD hS => ?_)
  have hP : va_P (dC, dI) vwCl (fl [wdX2 kc w_o w_kind w_v w_place w_rows w_length w_first w_second w_drifts w_traits wpeople wkind wv wplace wrows (wleaves + 1) (upd wlength (wleaves.toNatClampNeg) x1) wfirst_15 wsecond_15 wdrops wstep wlibrary wdrifts wtraits]) H := hP
  have hD : va_D A (fl [wdX2 kc w_o w_kind w_v w_place w_rows w_length w_first w_second w_drifts w_traits wpeople wkind wv wplace wrows (wleaves + 1) (upd wlength (wleaves.toNatClampNeg) x1) wfirst_15 wsecond_15 wdrops wstep wlibrary wdrifts wtraits]) := hD
  refine lv_aload_n hx hb dX2_addLeaf_28 rfl (lv_at hl 0 rfl) ?_
  refine va_get (D := (dC, dI)) (ci := 2) (v := .int (wleaves + 1)) (C := RX2) (T := TX2) (N := 14) hx hb hts hinX2_addLeaf_X2 hown hK hP 0 rfl rfl 5 (by decide) (hts _ (List.mem_of_getElem? (i := 2) rfl)) (fun _ h9 => h9) rfl dX2_addLeaf_29 ?_
  refine lv_iconst (v := 1) hx hb dX2_addLeaf_32 (by decide) ?_
  refine lv_isub hx hb dX2_addLeaf_33 ?_
  cases hm
  exact k_iret hx hb hr hlocks hP hS dX2_addLeaf_34
def fX2_walkerDrift (wstep : Int32) (x1 : Int32) : Option Int32 := if (wstep - wstep / 8 * 8) < 4 then (some x1) else (some (-x1))
theorem hinX2_walkerDrift_X2 : ∀ w ∈ u_ws RX2 TX2 14, w ∈ wsX2_walkerDrift := fun _ h => List.mem_cons_of_mem _ (List.mem_append_right _ h)
abbrev rmX2_walkerDrift : Room := { frames := 0, cells := 0, slots := 0, locals := 12 }
set_option maxHeartbeats 4000000 in
set_option maxRecDepth 100000 in
theorem ctX2_walkerDrift {l : Launch} {dC : Nat → ClassId} {dI : Nat → Nat → Nat} {kc : Nat → ClassId} {w_o w_kind w_v w_place w_rows w_length w_first w_second w_drifts w_traits : Nat} {wpeople : Int32} {wkind : Nat → Int32} {wv : Nat → Int32} {wplace : Nat → Int32} {wrows : Nat → Int32} {wleaves : Int32} {wlength : Nat → Int32} {wfirst : Nat → Int32} {wsecond : Nat → Int32} {wdrops : Int32} {wstep : Int32} {wlibrary : Option Nat} {wdrifts : Nat → Int32} {wtraits : Nat → Int32} {x1 : Int32} {r : Int32} (hm : fX2_walkerDrift wstep x1 = some r) : ∀ sz : Nat, Met l yX2_walkerDrift wsX2_walkerDrift rmX2_walkerDrift (kPc dC dI kc [.ref w_o, .int x1] (fl [wdX2 kc w_o w_kind w_v w_place w_rows w_length w_first w_second w_drifts w_traits wpeople wkind wv wplace wrows wleaves wlength wfirst wsecond wdrops wstep wlibrary wdrifts wtraits]) sz) (kQi dC dI r (fl [wdX2 kc w_o w_kind w_v w_place w_rows w_length w_first w_second w_drifts w_traits wpeople wkind wv wplace wrows wleaves wlength wfirst wsecond wdrops wstep wlibrary wdrifts wtraits]) (va_A (fl [wdX2 kc w_o w_kind w_v w_place w_rows w_length w_first w_second w_drifts w_traits wpeople wkind wv wplace wrows wleaves wlength wfirst wsecond wdrops wstep wlibrary wdrifts wtraits]) sz)) 0 0 (va_A (fl [wdX2 kc w_o w_kind w_v w_place w_rows w_length w_first w_second w_drifts w_traits wpeople wkind wv wplace wrows wleaves wlength wfirst wsecond wdrops wstep wlibrary wdrifts wtraits]) sz) := by
  intro sz
  refine kMet (cc := cX2_walkerDrift) (maxL := 2) (ret := (some .int)) (Qf := fun A => kQi dC dI r (fl [wdX2 kc w_o w_kind w_v w_place w_rows w_length w_first w_second w_drifts w_traits wpeople wkind wv wplace wrows wleaves wlength wfirst wsecond wdrops wstep wlibrary wdrifts wtraits]) A) (by decide) rfl (Nat.le_of_ble_eq_true rfl) ?_
  intro p e s m below meth c A ls hx hb hr hml hts hown hlocks hname hsz hA hP hK hD hl
  have hS : va_S A s.heap s.heap [] := va_S.rf
  have hl : lv_has ls 2 [(0, .ref w_o), (1, .int x1)] := hl
  unfold fX2_walkerDrift at hm
  refine lv_aload_n hx hb dX2_walkerDrift_0 rfl (lv_at hl 0 rfl) ?_
  refine va_get (D := (dC, dI)) (ci := 2) (v := .int wstep) (C := RX2) (T := TX2) (N := 14) hx hb hts hinX2_walkerDrift_X2 hown hK hP 0 rfl rfl 10 (by decide) (hts _ (List.mem_of_getElem? (i := 1) rfl)) (fun _ h9 => h9) rfl dX2_walkerDrift_1 ?_
  refine lv_bipush (v := 8) hx hb dX2_walkerDrift_4 (by decide) ?_
  refine lv_irem hx hb dX2_walkerDrift_6 (by decide) ?_
  refine lv_iconst (v := 4) hx hb dX2_walkerDrift_7 (by decide) ?_
  refine lv_icmp_lt (tgt := 16) hx hb dX2_walkerDrift_8 (by decide) (fun c8 => ?_) (fun c8 => ?_)
  · replace hm := it_t c8 hm
    refine lv_iload_n hx hb dX2_walkerDrift_16 rfl (lv_at hl 1 rfl) ?_
    cases hm
    exact k_iret hx hb hr hlocks hP hS dX2_walkerDrift_17
  · replace hm := it_f c8 hm
    refine lv_iload_n hx hb dX2_walkerDrift_11 rfl (lv_at hl 1 rfl) ?_
    refine lv_ineg hx hb dX2_walkerDrift_12 ?_
    refine lv_goto (tgt := 17) hx hb dX2_walkerDrift_13 (by decide) ?_
    cases hm
    exact k_iret hx hb hr hlocks hP hS dX2_walkerDrift_17
def LX2_letGoAllBut_2 (wleaves : Int32) (x1 : Int32) : Nat → Int32 → (Nat → Int32) → (Nat → Int32) → Option ((Nat → Int32) × (Nat → Int32))
  | 0, _, _, _ => none
  | n2 + 1, l2_2, wfirst_2, wsecond_2 => if wleaves ≤ l2_2 then (some (wfirst_2, wsecond_2)) else (if (x1 &&& (1 <<< (l2_2 &&& 31))) = 0 then (bd2 (fX2_letGo wfirst_2 wsecond_2 l2_2) (fun wfirst_20 wsecond_20 => LX2_letGoAllBut_2 wleaves x1 n2 (l2_2 + 1) wfirst_20 wsecond_20)) else (LX2_letGoAllBut_2 wleaves x1 n2 (l2_2 + 1) wfirst_2 wsecond_2))
def fX2_letGoAllBut (fu : Nat) (wleaves : Int32) (wfirst : Nat → Int32) (wsecond : Nat → Int32) (x1 : Int32) : Option ((Nat → Int32) × (Nat → Int32)) := LX2_letGoAllBut_2 wleaves x1 fu 0 wfirst wsecond
theorem hinX2_letGoAllBut_X2 : ∀ w ∈ u_ws RX2 TX2 14, w ∈ wsX2_letGoAllBut := fun _ h => List.mem_cons_of_mem _ (List.mem_append_right _ h)
abbrev rmX2_letGoAllBut : Room := { frames := 2, cells := 0, slots := 0, locals := 56 }
set_option maxHeartbeats 4000000 in
set_option maxRecDepth 100000 in
theorem ctX2_letGoAllBut {l : Launch} {dC : Nat → ClassId} {dI : Nat → Nat → Nat} {kc : Nat → ClassId} {w_o w_kind w_v w_place w_rows w_length w_first w_second w_drifts w_traits : Nat} {wpeople : Int32} {wkind : Nat → Int32} {wv : Nat → Int32} {wplace : Nat → Int32} {wrows : Nat → Int32} {wleaves : Int32} {wlength : Nat → Int32} {wfirst : Nat → Int32} {wsecond : Nat → Int32} {wdrops : Int32} {wstep : Int32} {wlibrary : Option Nat} {wdrifts : Nat → Int32} {wtraits : Nat → Int32} {x1 : Int32} {fu : Nat} {wfirst' : Nat → Int32} {wsecond' : Nat → Int32} (hm : fX2_letGoAllBut fu wleaves wfirst wsecond x1 = some (wfirst', wsecond')) : ∀ sz : Nat, Met l yX2_letGoAllBut wsX2_letGoAllBut rmX2_letGoAllBut (kPc dC dI kc [.ref w_o, .int x1] (fl [wdX2 kc w_o w_kind w_v w_place w_rows w_length w_first w_second w_drifts w_traits wpeople wkind wv wplace wrows wleaves wlength wfirst wsecond wdrops wstep wlibrary wdrifts wtraits]) sz) (kQv dC dI (fl [wdX2 kc w_o w_kind w_v w_place w_rows w_length w_first w_second w_drifts w_traits wpeople wkind wv wplace wrows wleaves wlength wfirst' wsecond' wdrops wstep wlibrary wdrifts wtraits]) (va_A (fl [wdX2 kc w_o w_kind w_v w_place w_rows w_length w_first w_second w_drifts w_traits wpeople wkind wv wplace wrows wleaves wlength wfirst wsecond wdrops wstep wlibrary wdrifts wtraits]) sz)) 0 0 (va_A (fl [wdX2 kc w_o w_kind w_v w_place w_rows w_length w_first w_second w_drifts w_traits wpeople wkind wv wplace wrows wleaves wlength wfirst wsecond wdrops wstep wlibrary wdrifts wtraits]) sz) := by
  intro sz
  refine kMet (cc := cX2_letGoAllBut) (maxL := 3) (ret := none) (Qf := fun A => kQv dC dI (fl [wdX2 kc w_o w_kind w_v w_place w_rows w_length w_first w_second w_drifts w_traits wpeople wkind wv wplace wrows wleaves wlength wfirst' wsecond' wdrops wstep wlibrary wdrifts wtraits]) A) (by decide) rfl (Nat.le_of_ble_eq_true rfl) ?_
  intro p e s m below meth c A ls hx hb hr hml hts hown hlocks hname hsz hA hP hK hD hl
  have hS : va_S A s.heap s.heap [] := va_S.rf
  have hl : lv_has ls 3 [(0, .ref w_o), (1, .int x1)] := hl
  unfold fX2_letGoAllBut at hm
  refine lv_iconst (v := 0) hx hb dX2_letGoAllBut_0 (by decide) ?_
  refine lv_istore_n (lv' := [(2, .int 0), (0, .ref w_o), (1, .int x1)]) hx hb dX2_letGoAllBut_1 rfl hl (by decide) rfl (fun ls hl => ?_)
  have hL2 : ∀ (fn : Nat) (l2_2 : Int32) (wfirst_2 : Nat → Int32) (wsecond_2 : Nat → Int32), LX2_letGoAllBut_2 wleaves x1 fn l2_2 wfirst_2 wsecond_2 = some (wfirst', wsecond') → ∀ (H : Heap) (locs : List Loc), va_P (dC, dI) vwCl (fl [wdX2 kc w_o w_kind w_v w_place w_rows w_length w_first w_second w_drifts w_traits wpeople wkind wv wplace wrows wleaves wlength wfirst_2 wsecond_2 wdrops wstep wlibrary wdrifts wtraits]) H → va_D A (fl [wdX2 kc w_o w_kind w_v w_place w_rows w_length w_first w_second w_drifts w_traits wpeople wkind wv wplace wrows wleaves wlength wfirst_2 wsecond_2 wdrops wstep wlibrary wdrifts wtraits]) → va_S A s.heap H locs → ∀ ls : Array Slot, lv_has ls 3 [(0, .ref w_o), (1, .int x1), (2, .int l2_2)] → W p l e (headSpec wsX2_letGoAllBut rmX2_letGoAllBut).room s m [.ref w_o, .int x1].toArray below meth c H locs 0 0 (MQ below (kQv dC dI (fl [wdX2 kc w_o w_kind w_v w_place w_rows w_length w_first w_second w_drifts w_traits wpeople wkind wv wplace wrows wleaves wlength wfirst' wsecond' wdrops wstep wlibrary wdrifts wtraits]) A) [.ref w_o, .int x1].toArray s 0 0 A) (F0 m 2 ls []) := by
    clear hm hP hD hS hl
    intro n2
    induction n2 with
    | zero => intro l2_2 wfirst_2 wsecond_2 hm; rw [LX2_letGoAllBut_2] at hm; cases hm
    | succ n2 ih2 =>
      intro l2_2 wfirst_2 wsecond_2 hm H locs hP hD hS ls hl
      rw [LX2_letGoAllBut_2] at hm
      refine lv_iload_n hx hb dX2_letGoAllBut_2 rfl (lv_at hl 2 rfl) ?_
      refine lv_aload_n hx hb dX2_letGoAllBut_3 rfl (lv_at hl 0 rfl) ?_
      refine va_get (D := (dC, dI)) (ci := 2) (v := .int wleaves) (C := RX2) (T := TX2) (N := 14) hx hb hts hinX2_letGoAllBut_X2 hown hK hP 0 rfl rfl 5 (by decide) (hts _ (List.mem_of_getElem? (i := 1) rfl)) (fun _ h9 => h9) rfl dX2_letGoAllBut_4 ?_
      refine lv_icmp_ge (tgt := 29) hx hb dX2_letGoAllBut_7 (by decide) (fun c7 => ?_) (fun c7 => ?_)
      · replace hm := it_t c7 hm
        cases hm
        exact k_vret hx hb hr hlocks hP hS dX2_letGoAllBut_29
      · replace hm := it_f c7 hm
        refine lv_iload_n hx hb dX2_letGoAllBut_10 rfl (lv_at hl 1 rfl) ?_
        refine lv_iconst (v := 1) hx hb dX2_letGoAllBut_11 (by decide) ?_
        refine lv_iload_n hx hb dX2_letGoAllBut_12 rfl (lv_at hl 2 rfl) ?_
        refine lv_ishl hx hb dX2_letGoAllBut_13 ?_
        refine lv_iand hx hb dX2_letGoAllBut_14 ?_
        refine lv_if_ne (tgt := 23) hx hb dX2_letGoAllBut_15 (by decide) (fun c15 => ?_) (fun c15 => ?_)
        · replace hm := it_f c15 hm
          refine lv_iinc (v := l2_2 + 1) (lv' := [(2, .int (l2_2 + 1)), (0, .ref w_o), (1, .int x1)]) hx hb dX2_letGoAllBut_23 hl (k := 2) rfl rfl (by decide) rfl (fun ls hl => ?_)
          refine lv_goto (tgt := 2) hx hb dX2_letGoAllBut_26 (by decide) ?_
          exact ih2 (l2_2 + 1) wfirst_2 wsecond_2 hm _ _ hP hD hS _ (lv_sub hl [1, 2, 0] rfl)
        · replace hm := it_t c15 hm
          refine lv_aload_n hx hb dX2_letGoAllBut_18 rfl (lv_at hl 0 rfl) ?_
          refine lv_iload_n hx hb dX2_letGoAllBut_19 rfl (lv_at hl 2 rfl) ?_
          obtain ⟨wfirst_20, wsecond_20, hc20, hm⟩ := bd2_e hm
          refine k_callGVv (dC := dC) (dI := dI) (kc := kc) (As := [.int l2_2]) (rest := []) (Gs' := [wdX2 kc w_o w_kind w_v w_place w_rows w_length w_first w_second w_drifts w_traits wpeople wkind wv wplace wrows wleaves wlength wfirst_20 wsecond_20 wdrops wstep wlibrary wdrifts wtraits]) hx hb hml hown hts hK hP hD hS hA (ctX2_letGo (w_o := w_o) (w_kind := w_kind) (w_v := w_v) (w_place := w_place) (w_rows := w_rows) (w_length := w_length) (w_first := w_first) (w_second := w_second) (w_drifts := w_drifts) (w_traits := w_traits) (wpeople := wpeople) (wkind := wkind) (wv := wv) (wplace := wplace) (wrows := wrows) (wleaves := wleaves) (wlength := wlength) (wfirst := wfirst_2) (wsecond := wsecond_2) (wdrops := wdrops) (wstep := wstep) (wlibrary := wlibrary) (wdrifts := wdrifts) (wtraits := wtraits) (x1 := l2_2) hc20) (cwV 1 hts gX2_letGoAllBut_X2_letGo rfl rfl rfl (by decide +kernel) ⟨Nat.le_of_ble_eq_true rfl, Nat.le_of_ble_eq_true rfl⟩) [0] rfl (by decide) 2 rfl rfl rfl rfl hl rfl (Nat.le_of_ble_eq_true rfl) dX2_letGoAllBut_20 ⟨Nat.zero_le _, Nat.zero_le _⟩ rfl rfl rfl (fun H locs hP hD hS => ?_)
          refine lv_iinc (v := l2_2 + 1) (lv' := [(2, .int (l2_2 + 1)), (0, .ref w_o), (1, .int x1)]) hx hb dX2_letGoAllBut_23 hl (k := 2) rfl rfl (by decide) rfl (fun ls hl => ?_)
          refine lv_goto (tgt := 2) hx hb dX2_letGoAllBut_26 (by decide) ?_
          exact ih2 (l2_2 + 1) wfirst_20 wsecond_20 hm _ _ hP hD hS _ (lv_sub hl [1, 2, 0] rfl)
  exact hL2 _ _ _ _ hm _ _ hP hD hS _ (lv_sub hl [1, 2, 0] rfl)
def fX2_changePlaces (wplace : Nat → Int32) (x1 : Int32) (x2 : Int32) : Option (Nat → Int32) := gd (inb x1 6) (gd (inb x2 6) (gd (inb x1 6) (gd (inb x2 6) (some (upd (upd wplace (x1.toNatClampNeg) (wplace (x2.toNatClampNeg))) (x2.toNatClampNeg) (wplace (x1.toNatClampNeg)))))))
theorem hinX2_changePlaces_X2 : ∀ w ∈ u_ws RX2 TX2 14, w ∈ wsX2_changePlaces := fun _ h => List.mem_cons_of_mem _ (List.mem_append_right _ h)
abbrev rmX2_changePlaces : Room := { frames := 0, cells := 0, slots := 0, locals := 12 }
set_option maxHeartbeats 4000000 in
set_option maxRecDepth 100000 in
theorem ctX2_changePlaces {l : Launch} {dC : Nat → ClassId} {dI : Nat → Nat → Nat} {kc : Nat → ClassId} {w_o w_kind w_v w_place w_rows w_length w_first w_second w_drifts w_traits : Nat} {wpeople : Int32} {wkind : Nat → Int32} {wv : Nat → Int32} {wplace : Nat → Int32} {wrows : Nat → Int32} {wleaves : Int32} {wlength : Nat → Int32} {wfirst : Nat → Int32} {wsecond : Nat → Int32} {wdrops : Int32} {wstep : Int32} {wlibrary : Option Nat} {wdrifts : Nat → Int32} {wtraits : Nat → Int32} {x1 : Int32} {x2 : Int32} {wplace' : Nat → Int32} (hm : fX2_changePlaces wplace x1 x2 = some wplace') : ∀ sz : Nat, Met l yX2_changePlaces wsX2_changePlaces rmX2_changePlaces (kPc dC dI kc [.ref w_o, .int x1, .int x2] (fl [wdX2 kc w_o w_kind w_v w_place w_rows w_length w_first w_second w_drifts w_traits wpeople wkind wv wplace wrows wleaves wlength wfirst wsecond wdrops wstep wlibrary wdrifts wtraits]) sz) (kQv dC dI (fl [wdX2 kc w_o w_kind w_v w_place w_rows w_length w_first w_second w_drifts w_traits wpeople wkind wv wplace' wrows wleaves wlength wfirst wsecond wdrops wstep wlibrary wdrifts wtraits]) (va_A (fl [wdX2 kc w_o w_kind w_v w_place w_rows w_length w_first w_second w_drifts w_traits wpeople wkind wv wplace wrows wleaves wlength wfirst wsecond wdrops wstep wlibrary wdrifts wtraits]) sz)) 0 0 (va_A (fl [wdX2 kc w_o w_kind w_v w_place w_rows w_length w_first w_second w_drifts w_traits wpeople wkind wv wplace wrows wleaves wlength wfirst wsecond wdrops wstep wlibrary wdrifts wtraits]) sz) := by
  intro sz
  refine kMet (cc := cX2_changePlaces) (maxL := 4) (ret := none) (Qf := fun A => kQv dC dI (fl [wdX2 kc w_o w_kind w_v w_place w_rows w_length w_first w_second w_drifts w_traits wpeople wkind wv wplace' wrows wleaves wlength wfirst wsecond wdrops wstep wlibrary wdrifts wtraits]) A) (by decide) rfl (Nat.le_of_ble_eq_true rfl) ?_
  intro p e s m below meth c A ls hx hb hr hml hts hown hlocks hname hsz hA hP hK hD hl
  have hS : va_S A s.heap s.heap [] := va_S.rf
  have hl : lv_has ls 4 [(0, .ref w_o), (1, .int x1), (2, .int x2)] := hl
  unfold fX2_changePlaces at hm
  refine lv_aload_n hx hb dX2_changePlaces_0 rfl (lv_at hl 0 rfl) ?_
  refine va_get (D := (dC, dI)) (ci := 2) (v := .ref w_place) (C := RX2) (T := TX2) (N := 14) hx hb hts hinX2_changePlaces_X2 hown hK hP 0 rfl rfl 3 (by decide) (hts _ (List.mem_of_getElem? (i := 1) rfl)) (fun _ h9 => h9) rfl dX2_changePlaces_1 ?_
  refine lv_iload_n hx hb dX2_changePlaces_4 rfl (lv_at hl 1 rfl) ?_
  obtain ⟨hg5, hm⟩ := gd_e hm
  refine k_iald (D := (dC, dI)) hx hb hK hP 3 1 rfl rfl (k := x1.toNatClampNeg) rfl hg5 dX2_changePlaces_5 ?_
  refine lv_istore_n (lv' := [(3, .int (wplace (x1.toNatClampNeg))), (0, .ref w_o), (1, .int x1), (2, .int x2)]) hx hb dX2_changePlaces_6 rfl hl (by decide) rfl (fun ls hl => ?_)
  refine lv_aload_n hx hb dX2_changePlaces_7 rfl (lv_at hl 1 rfl) ?_
  refine va_get (D := (dC, dI)) (ci := 2) (v := .ref w_place) (C := RX2) (T := TX2) (N := 14) hx hb hts hinX2_changePlaces_X2 hown hK hP 0 rfl rfl 3 (by decide) (hts _ (List.mem_of_getElem? (i := 1) rfl)) (fun _ h9 => h9) rfl dX2_changePlaces_8 ?_
  refine lv_iload_n hx hb dX2_changePlaces_11 rfl (lv_at hl 2 rfl) ?_
  refine lv_aload_n hx hb dX2_changePlaces_12 rfl (lv_at hl 1 rfl) ?_
  refine va_get (D := (dC, dI)) (ci := 2) (v := .ref w_place) (C := RX2) (T := TX2) (N := 14) hx hb hts hinX2_changePlaces_X2 hown hK hP 0 rfl rfl 3 (by decide) (hts _ (List.mem_of_getElem? (i := 1) rfl)) (fun _ h9 => h9) rfl dX2_changePlaces_13 ?_
  refine lv_iload_n hx hb dX2_changePlaces_16 rfl (lv_at hl 3 rfl) ?_
  obtain ⟨hg17, hm⟩ := gd_e hm
  refine k_iald (D := (dC, dI)) hx hb hK hP 3 1 rfl rfl (k := x2.toNatClampNeg) rfl hg17 dX2_changePlaces_17 ?_
  obtain ⟨hg18, hm⟩ := gd_e hm
  refine k_iast (D := (dC, dI)) hx hb hK hP hD hS 3 1 rfl rfl (k := x1.toNatClampNeg) rfl hg18 dX2_changePlaces_18 (fun H locs hP hD hS => ?_)
  have hP : va_P (dC, dI) vwCl (fl [wdX2 kc w_o w_kind w_v w_place w_rows w_length w_first w_second w_drifts w_traits wpeople wkind wv (upd wplace (x1.toNatClampNeg) (wplace (x2.toNatClampNeg))) wrows wleaves wlength wfirst wsecond wdrops wstep wlibrary wdrifts wtraits]) H := hP
  have hD : va_D A (fl [wdX2 kc w_o w_kind w_v w_place w_rows w_length w_first w_second w_drifts w_traits wpeople wkind wv (upd wplace (x1.toNatClampNeg) (wplace (x2.toNatClampNeg))) wrows wleaves wlength wfirst wsecond wdrops wstep wlibrary wdrifts wtraits]) := hD
  refine lv_aload_n hx hb dX2_changePlaces_19 rfl (lv_at hl 1 rfl) ?_
  refine va_get (D := (dC, dI)) (ci := 2) (v := .ref w_place) (C := RX2) (T := TX2) (N := 14) hx hb hts hinX2_changePlaces_X2 hown hK hP 0 rfl rfl 3 (by decide) (hts _ (List.mem_of_getElem? (i := 1) rfl)) (fun _ h9 => h9) rfl dX2_changePlaces_20 ?_
  refine lv_iload_n hx hb dX2_changePlaces_23 rfl (lv_at hl 3 rfl) ?_
  refine lv_iload_n hx hb dX2_changePlaces_24 rfl (lv_at hl 0 rfl) ?_
  obtain ⟨hg25, hm⟩ := gd_e hm
  refine k_iast (D := (dC, dI)) hx hb hK hP hD hS 3 1 rfl rfl (k := x2.toNatClampNeg) rfl hg25 dX2_changePlaces_25 (fun H locs hP hD hS => ?_)
  have hP : va_P (dC, dI) vwCl (fl [wdX2 kc w_o w_kind w_v w_place w_rows w_length w_first w_second w_drifts w_traits wpeople wkind wv (upd (upd wplace (x1.toNatClampNeg) (wplace (x2.toNatClampNeg))) (x2.toNatClampNeg) (wplace (x1.toNatClampNeg))) wrows wleaves wlength wfirst wsecond wdrops wstep wlibrary wdrifts wtraits]) H := hP
  have hD : va_D A (fl [wdX2 kc w_o w_kind w_v w_place w_rows w_length w_first w_second w_drifts w_traits wpeople wkind wv (upd (upd wplace (x1.toNatClampNeg) (wplace (x2.toNatClampNeg))) (x2.toNatClampNeg) (wplace (x1.toNatClampNeg))) wrows wleaves wlength wfirst wsecond wdrops wstep wlibrary wdrifts wtraits]) := hD
  cases hm
  exact k_vret hx hb hr hlocks hP hS dX2_changePlaces_26
def fX2_traitsOf (wkind : Nat → Int32) (wv : Nat → Int32) (wplace : Nat → Int32) (wstep : Int32) (wtraits : Nat → Int32) (x1 : Int32) (x2 : Int32) : Option (Nat → Int32) := gd (inb x1 6) (gd (inb x1 6) (gd (inb x1 6) (some (upd (upd (upd (upd (upd (upd wtraits 0 x1) 1 (wkind (x1.toNatClampNeg))) 2 (wv (x1.toNatClampNeg))) 3 ((wplace (x1.toNatClampNeg)) / 10)) 4 x2) 5 (wstep - wstep / 10 * 10)))))
theorem hinX2_traitsOf_X2 : ∀ w ∈ u_ws RX2 TX2 14, w ∈ wsX2_traitsOf := fun _ h => List.mem_cons_of_mem _ (List.mem_append_right _ h)
abbrev rmX2_traitsOf : Room := { frames := 0, cells := 0, slots := 0, locals := 12 }
set_option maxHeartbeats 4000000 in
set_option maxRecDepth 100000 in
theorem ctX2_traitsOf {l : Launch} {dC : Nat → ClassId} {dI : Nat → Nat → Nat} {kc : Nat → ClassId} {w_o w_kind w_v w_place w_rows w_length w_first w_second w_drifts w_traits : Nat} {wpeople : Int32} {wkind : Nat → Int32} {wv : Nat → Int32} {wplace : Nat → Int32} {wrows : Nat → Int32} {wleaves : Int32} {wlength : Nat → Int32} {wfirst : Nat → Int32} {wsecond : Nat → Int32} {wdrops : Int32} {wstep : Int32} {wlibrary : Option Nat} {wdrifts : Nat → Int32} {wtraits : Nat → Int32} {x1 : Int32} {x2 : Int32} {wtraits' : Nat → Int32} (hm : fX2_traitsOf wkind wv wplace wstep wtraits x1 x2 = some wtraits') : ∀ sz : Nat, Met l yX2_traitsOf wsX2_traitsOf rmX2_traitsOf (kPc dC dI kc [.ref w_o, .int x1, .int x2] (fl [wdX2 kc w_o w_kind w_v w_place w_rows w_length w_first w_second w_drifts w_traits wpeople wkind wv wplace wrows wleaves wlength wfirst wsecond wdrops wstep wlibrary wdrifts wtraits]) sz) (kQr dC dI w_traits (fl [wdX2 kc w_o w_kind w_v w_place w_rows w_length w_first w_second w_drifts w_traits wpeople wkind wv wplace wrows wleaves wlength wfirst wsecond wdrops wstep wlibrary wdrifts wtraits']) (va_A (fl [wdX2 kc w_o w_kind w_v w_place w_rows w_length w_first w_second w_drifts w_traits wpeople wkind wv wplace wrows wleaves wlength wfirst wsecond wdrops wstep wlibrary wdrifts wtraits]) sz)) 0 0 (va_A (fl [wdX2 kc w_o w_kind w_v w_place w_rows w_length w_first w_second w_drifts w_traits wpeople wkind wv wplace wrows wleaves wlength wfirst wsecond wdrops wstep wlibrary wdrifts wtraits]) sz) := by
  intro sz
  refine kMet (cc := cX2_traitsOf) (maxL := 3) (ret := (some (.array .int))) (Qf := fun A => kQr dC dI w_traits (fl [wdX2 kc w_o w_kind w_v w_place w_rows w_length w_first w_second w_drifts w_traits wpeople wkind wv wplace wrows wleaves wlength wfirst wsecond wdrops wstep wlibrary wdrifts wtraits']) A) (by decide) rfl (Nat.le_of_ble_eq_true rfl) ?_
  intro p e s m below meth c A ls hx hb hr hml hts hown hlocks hname hsz hA hP hK hD hl
  have hS : va_S A s.heap s.heap [] := va_S.rf
  have hl : lv_has ls 3 [(0, .ref w_o), (1, .int x1), (2, .int x2)] := hl
  unfold fX2_traitsOf at hm
  refine lv_aload_n hx hb dX2_traitsOf_0 rfl (lv_at hl 0 rfl) ?_
  refine va_get (D := (dC, dI)) (ci := 2) (v := .ref w_traits) (C := RX2) (T := TX2) (N := 14) hx hb hts hinX2_traitsOf_X2 hown hK hP 0 rfl rfl 13 (by decide) (hts _ (List.mem_of_getElem? (i := 1) rfl)) (fun _ h9 => h9) rfl dX2_traitsOf_1 ?_
  refine lv_iconst (v := 0) hx hb dX2_traitsOf_4 (by decide) ?_
  refine lv_iload_n hx hb dX2_traitsOf_5 rfl (lv_at hl 1 rfl) ?_
  refine k_iast (D := (dC, dI)) hx hb hK hP hD hS 9 1 rfl rfl (k := 0) (by decide) (show ¬ ((0 : Int32) < 0 ∨ 6 ≤ (0 : Int32).toNatClampNeg) from by decide) dX2_traitsOf_6 (fun H locs hP hD hS => ?_)
  have hP : va_P (dC, dI) vwCl (fl [wdX2 kc w_o w_kind w_v w_place w_rows w_length w_first w_second w_drifts w_traits wpeople wkind wv wplace wrows wleaves wlength wfirst wsecond wdrops wstep wlibrary wdrifts (upd wtraits 0 x1)]) H := hP
  have hD : va_D A (fl [wdX2 kc w_o w_kind w_v w_place w_rows w_length w_first w_second w_drifts w_traits wpeople wkind wv wplace wrows wleaves wlength wfirst wsecond wdrops wstep wlibrary wdrifts (upd wtraits 0 x1)]) := hD
  refine lv_aload_n hx hb dX2_traitsOf_7 rfl (lv_at hl 0 rfl) ?_
  refine va_get (D := (dC, dI)) (ci := 2) (v := .ref w_traits) (C := RX2) (T := TX2) (N := 14) hx hb hts hinX2_traitsOf_X2 hown hK hP 0 rfl rfl 13 (by decide) (hts _ (List.mem_of_getElem? (i := 1) rfl)) (fun _ h9 => h9) rfl dX2_traitsOf_8 ?_
  refine lv_iconst (v := 1) hx hb dX2_traitsOf_11 (by decide) ?_
  refine lv_aload_n hx hb dX2_traitsOf_12 rfl (lv_at hl 0 rfl) ?_
  refine va_get (D := (dC, dI)) (ci := 2) (v := .ref w_kind) (C := RX2) (T := TX2) (N := 14) hx hb hts hinX2_traitsOf_X2 hown hK hP 0 rfl rfl 1 (by decide) (hts _ (List.mem_of_getElem? (i := 2) rfl)) (fun _ h9 => h9) rfl dX2_traitsOf_13 ?_
  refine lv_iload_n hx hb dX2_traitsOf_16 rfl (lv_at hl 1 rfl) ?_
  obtain ⟨hg17, hm⟩ := gd_e hm
  refine k_iald (D := (dC, dI)) hx hb hK hP 1 1 rfl rfl (k := x1.toNatClampNeg) rfl hg17 dX2_traitsOf_17 ?_
  refine k_iast (D := (dC, dI)) hx hb hK hP hD hS 9 1 rfl rfl (k := 1) (by decide) (show ¬ ((1 : Int32) < 0 ∨ 6 ≤ (1 : Int32).toNatClampNeg) from by decide) dX2_traitsOf_18 (fun H locs hP hD hS => ?_)
  have hP : va_P (dC, dI) vwCl (fl [wdX2 kc w_o w_kind w_v w_place w_rows w_length w_first w_second w_drifts w_traits wpeople wkind wv wplace wrows wleaves wlength wfirst wsecond wdrops wstep wlibrary wdrifts (upd (upd wtraits 0 x1) 1 (wkind (x1.toNatClampNeg)))]) H := hP
  have hD : va_D A (fl [wdX2 kc w_o w_kind w_v w_place w_rows w_length w_first w_second w_drifts w_traits wpeople wkind wv wplace wrows wleaves wlength wfirst wsecond wdrops wstep wlibrary wdrifts (upd (upd wtraits 0 x1) 1 (wkind (x1.toNatClampNeg)))]) := hD
  refine lv_aload_n hx hb dX2_traitsOf_19 rfl (lv_at hl 0 rfl) ?_
  refine va_get (D := (dC, dI)) (ci := 2) (v := .ref w_traits) (C := RX2) (T := TX2) (N := 14) hx hb hts hinX2_traitsOf_X2 hown hK hP 0 rfl rfl 13 (by decide) (hts _ (List.mem_of_getElem? (i := 1) rfl)) (fun _ h9 => h9) rfl dX2_traitsOf_20 ?_
  refine lv_iconst (v := 2) hx hb dX2_traitsOf_23 (by decide) ?_
  refine lv_aload_n hx hb dX2_traitsOf_24 rfl (lv_at hl 0 rfl) ?_
  refine va_get (D := (dC, dI)) (ci := 2) (v := .ref w_v) (C := RX2) (T := TX2) (N := 14) hx hb hts hinX2_traitsOf_X2 hown hK hP 0 rfl rfl 2 (by decide) (hts _ (List.mem_of_getElem? (i := 3) rfl)) (fun _ h9 => h9) rfl dX2_traitsOf_25 ?_
  refine lv_iload_n hx hb dX2_traitsOf_28 rfl (lv_at hl 1 rfl) ?_
  obtain ⟨hg29, hm⟩ := gd_e hm
  refine k_iald (D := (dC, dI)) hx hb hK hP 2 1 rfl rfl (k := x1.toNatClampNeg) rfl hg29 dX2_traitsOf_29 ?_
  refine k_iast (D := (dC, dI)) hx hb hK hP hD hS 9 1 rfl rfl (k := 2) (by decide) (show ¬ ((2 : Int32) < 0 ∨ 6 ≤ (2 : Int32).toNatClampNeg) from by decide) dX2_traitsOf_30 (fun H locs hP hD hS => ?_)
  have hP : va_P (dC, dI) vwCl (fl [wdX2 kc w_o w_kind w_v w_place w_rows w_length w_first w_second w_drifts w_traits wpeople wkind wv wplace wrows wleaves wlength wfirst wsecond wdrops wstep wlibrary wdrifts (upd (upd (upd wtraits 0 x1) 1 (wkind (x1.toNatClampNeg))) 2 (wv (x1.toNatClampNeg)))]) H := hP
  have hD : va_D A (fl [wdX2 kc w_o w_kind w_v w_place w_rows w_length w_first w_second w_drifts w_traits wpeople wkind wv wplace wrows wleaves wlength wfirst wsecond wdrops wstep wlibrary wdrifts (upd (upd (upd wtraits 0 x1) 1 (wkind (x1.toNatClampNeg))) 2 (wv (x1.toNatClampNeg)))]) := hD
  refine lv_aload_n hx hb dX2_traitsOf_31 rfl (lv_at hl 0 rfl) ?_
  refine va_get (D := (dC, dI)) (ci := 2) (v := .ref w_traits) (C := RX2) (T := TX2) (N := 14) hx hb hts hinX2_traitsOf_X2 hown hK hP 0 rfl rfl 13 (by decide) (hts _ (List.mem_of_getElem? (i := 1) rfl)) (fun _ h9 => h9) rfl dX2_traitsOf_32 ?_
  refine lv_iconst (v := 3) hx hb dX2_traitsOf_35 (by decide) ?_
  refine lv_aload_n hx hb dX2_traitsOf_36 rfl (lv_at hl 0 rfl) ?_
  refine va_get (D := (dC, dI)) (ci := 2) (v := .ref w_place) (C := RX2) (T := TX2) (N := 14) hx hb hts hinX2_traitsOf_X2 hown hK hP 0 rfl rfl 3 (by decide) (hts _ (List.mem_of_getElem? (i := 4) rfl)) (fun _ h9 => h9) rfl dX2_traitsOf_37 ?_
  refine lv_iload_n hx hb dX2_traitsOf_40 rfl (lv_at hl 1 rfl) ?_
  obtain ⟨hg41, hm⟩ := gd_e hm
  refine k_iald (D := (dC, dI)) hx hb hK hP 3 1 rfl rfl (k := x1.toNatClampNeg) rfl hg41 dX2_traitsOf_41 ?_
  refine lv_bipush (v := 10) hx hb dX2_traitsOf_42 (by decide) ?_
  refine lv_idiv hx hb dX2_traitsOf_44 (by decide) ?_
  refine k_iast (D := (dC, dI)) hx hb hK hP hD hS 9 1 rfl rfl (k := 3) (by decide) (show ¬ ((3 : Int32) < 0 ∨ 6 ≤ (3 : Int32).toNatClampNeg) from by decide) dX2_traitsOf_45 (fun H locs hP hD hS => ?_)
  have hP : va_P (dC, dI) vwCl (fl [wdX2 kc w_o w_kind w_v w_place w_rows w_length w_first w_second w_drifts w_traits wpeople wkind wv wplace wrows wleaves wlength wfirst wsecond wdrops wstep wlibrary wdrifts (upd (upd (upd (upd wtraits 0 x1) 1 (wkind (x1.toNatClampNeg))) 2 (wv (x1.toNatClampNeg))) 3 ((wplace (x1.toNatClampNeg)) / 10))]) H := hP
  have hD : va_D A (fl [wdX2 kc w_o w_kind w_v w_place w_rows w_length w_first w_second w_drifts w_traits wpeople wkind wv wplace wrows wleaves wlength wfirst wsecond wdrops wstep wlibrary wdrifts (upd (upd (upd (upd wtraits 0 x1) 1 (wkind (x1.toNatClampNeg))) 2 (wv (x1.toNatClampNeg))) 3 ((wplace (x1.toNatClampNeg)) / 10))]) := hD
  refine lv_aload_n hx hb dX2_traitsOf_46 rfl (lv_at hl 0 rfl) ?_
  refine va_get (D := (dC, dI)) (ci := 2) (v := .ref w_traits) (C := RX2) (T := TX2) (N := 14) hx hb hts hinX2_traitsOf_X2 hown hK hP 0 rfl rfl 13 (by decide) (hts _ (List.mem_of_getElem? (i := 1) rfl)) (fun _ h9 => h9) rfl dX2_traitsOf_47 ?_
  refine lv_iconst (v := 4) hx hb dX2_traitsOf_50 (by decide) ?_
  refine lv_iload_n hx hb dX2_traitsOf_51 rfl (lv_at hl 2 rfl) ?_
  refine k_iast (D := (dC, dI)) hx hb hK hP hD hS 9 1 rfl rfl (k := 4) (by decide) (show ¬ ((4 : Int32) < 0 ∨ 6 ≤ (4 : Int32).toNatClampNeg) from by decide) dX2_traitsOf_52 (fun H locs hP hD hS => ?_)
  have hP : va_P (dC, dI) vwCl (fl [wdX2 kc w_o w_kind w_v w_place w_rows w_length w_first w_second w_drifts w_traits wpeople wkind wv wplace wrows wleaves wlength wfirst wsecond wdrops wstep wlibrary wdrifts (upd (upd (upd (upd (upd wtraits 0 x1) 1 (wkind (x1.toNatClampNeg))) 2 (wv (x1.toNatClampNeg))) 3 ((wplace (x1.toNatClampNeg)) / 10)) 4 x2)]) H := hP
  have hD : va_D A (fl [wdX2 kc w_o w_kind w_v w_place w_rows w_length w_first w_second w_drifts w_traits wpeople wkind wv wplace wrows wleaves wlength wfirst wsecond wdrops wstep wlibrary wdrifts (upd (upd (upd (upd (upd wtraits 0 x1) 1 (wkind (x1.toNatClampNeg))) 2 (wv (x1.toNatClampNeg))) 3 ((wplace (x1.toNatClampNeg)) / 10)) 4 x2)]) := hD
  refine lv_aload_n hx hb dX2_traitsOf_53 rfl (lv_at hl 0 rfl) ?_
  refine va_get (D := (dC, dI)) (ci := 2) (v := .ref w_traits) (C := RX2) (T := TX2) (N := 14) hx hb hts hinX2_traitsOf_X2 hown hK hP 0 rfl rfl 13 (by decide) (hts _ (List.mem_of_getElem? (i := 1) rfl)) (fun _ h9 => h9) rfl dX2_traitsOf_54 ?_
  refine lv_iconst (v := 5) hx hb dX2_traitsOf_57 (by decide) ?_
  refine lv_aload_n hx hb dX2_traitsOf_58 rfl (lv_at hl 0 rfl) ?_
  refine va_get (D := (dC, dI)) (ci := 2) (v := .int wstep) (C := RX2) (T := TX2) (N := 14) hx hb hts hinX2_traitsOf_X2 hown hK hP 0 rfl rfl 10 (by decide) (hts _ (List.mem_of_getElem? (i := 5) rfl)) (fun _ h9 => h9) rfl dX2_traitsOf_59 ?_
  refine lv_bipush (v := 10) hx hb dX2_traitsOf_62 (by decide) ?_
  refine lv_irem hx hb dX2_traitsOf_64 (by decide) ?_
  refine k_iast (D := (dC, dI)) hx hb hK hP hD hS 9 1 rfl rfl (k := 5) (by decide) (show ¬ ((5 : Int32) < 0 ∨ 6 ≤ (5 : Int32).toNatClampNeg) from by decide) dX2_traitsOf_65 (fun H locs hP hD hS => ?_)
  have hP : va_P (dC, dI) vwCl (fl [wdX2 kc w_o w_kind w_v w_place w_rows w_length w_first w_second w_drifts w_traits wpeople wkind wv wplace wrows wleaves wlength wfirst wsecond wdrops wstep wlibrary wdrifts (upd (upd (upd (upd (upd (upd wtraits 0 x1) 1 (wkind (x1.toNatClampNeg))) 2 (wv (x1.toNatClampNeg))) 3 ((wplace (x1.toNatClampNeg)) / 10)) 4 x2) 5 (wstep - wstep / 10 * 10))]) H := hP
  have hD : va_D A (fl [wdX2 kc w_o w_kind w_v w_place w_rows w_length w_first w_second w_drifts w_traits wpeople wkind wv wplace wrows wleaves wlength wfirst wsecond wdrops wstep wlibrary wdrifts (upd (upd (upd (upd (upd (upd wtraits 0 x1) 1 (wkind (x1.toNatClampNeg))) 2 (wv (x1.toNatClampNeg))) 3 ((wplace (x1.toNatClampNeg)) / 10)) 4 x2) 5 (wstep - wstep / 10 * 10))]) := hD
  refine lv_aload_n hx hb dX2_traitsOf_66 rfl (lv_at hl 0 rfl) ?_
  refine va_get (D := (dC, dI)) (ci := 2) (v := .ref w_traits) (C := RX2) (T := TX2) (N := 14) hx hb hts hinX2_traitsOf_X2 hown hK hP 0 rfl rfl 13 (by decide) (hts _ (List.mem_of_getElem? (i := 1) rfl)) (fun _ h9 => h9) rfl dX2_traitsOf_67 ?_
  cases hm
  exact k_aret hx hb hr (by first | exact Or.inl ⟨_, rfl⟩ | exact Or.inr ⟨_, rfl⟩) hlocks hP hS dX2_traitsOf_70
