abbrev wdX6 (kc : Nat → ClassId) (a_o a_items : Nat) (c_sort : Int32) (c_size : Int32) (c_items : Nat → Int64) : va_W := [(a_o, .inr (6, [.int c_sort, .int c_size, .ref a_items])), (a_items, .inl (kc 2, 60, .inr (.inl c_items)))]
def LX6_become_12 (x1 : Int32) (x2 : Int32) : Nat → Int32 → (Nat → Int64) → Option (Int32 × Int32 × (Nat → Int64))
  | 0, _, _ => none
  | n12 + 1, l3_12, uitems_12 => if 60 ≤ l3_12 then (some (x1, x2, uitems_12)) else (gd (inb l3_12 60) (LX6_become_12 x1 x2 n12 (l3_12 + 1) (vp_updL uitems_12 (l3_12.toNatClampNeg) 0)))
def fX6_become (fu : Nat) (usort : Int32) (usize : Int32) (uitems : Nat → Int64) (x1 : Int32) (x2 : Int32) : Option (Int32 × Int32 × (Nat → Int64)) := LX6_become_12 x1 x2 fu 0 uitems
theorem hinX6_become_X6 : ∀ w ∈ u_ws RX6 TX6 3, w ∈ wsX6_become := fun _ h => List.mem_cons_of_mem _ (List.mem_append_right _ h)
abbrev rmX6_become : Room := { frames := 0, cells := 0, slots := 0, locals := 12 }
set_option maxHeartbeats 4000000 in
set_option maxRecDepth 100000 in
theorem ctX6_become {l : Launch} {dC : Nat → ClassId} {dI : Nat → Nat → Nat} {kc : Nat → ClassId} {u_o u_items : Nat} {usort : Int32} {usize : Int32} {uitems : Nat → Int64} {x1 : Int32} {x2 : Int32} {fu : Nat} {usort' : Int32} {usize' : Int32} {uitems' : Nat → Int64} (hm : fX6_become fu usort usize uitems x1 x2 = some (usort', usize', uitems')) : ∀ sz : Nat, Met l yX6_become wsX6_become rmX6_become (kPc dC dI kc [.ref u_o, .int x1, .int x2] (fl [wdX6 kc u_o u_items usort usize uitems]) sz) (kQv dC dI (fl [wdX6 kc u_o u_items usort' usize' uitems']) (va_A (fl [wdX6 kc u_o u_items usort usize uitems]) sz)) 0 0 (va_A (fl [wdX6 kc u_o u_items usort usize uitems]) sz) := by
  intro sz
  refine kMet (cc := cX6_become) (maxL := 4) (ret := none) (Qf := fun A => kQv dC dI (fl [wdX6 kc u_o u_items usort' usize' uitems']) A) (by decide) rfl (Nat.le_of_ble_eq_true rfl) ?_
  intro p e s m below meth c A ls hx hb hr hml hts hown hlocks hname hsz hA hP hK hD hl
  have hS : va_S A s.heap s.heap [] := va_S.rf
  have hl : lv_has ls 4 [(0, .ref u_o), (1, .int x1), (2, .int x2)] := hl
  unfold fX6_become at hm
  refine lv_aload_n hx hb dX6_become_0 rfl (lv_at hl 0 rfl) ?_
  refine lv_iload_n hx hb dX6_become_1 rfl (lv_at hl 1 rfl) ?_
  refine va_put (D := (dC, dI)) (ci := 6) (v := .int x1) (ty := .int) (C := RX6) (T := TX6) (N := 3) hx hb hts hinX6_become_X6 tyX6 tyX6_ok nmX6 hown hK hP hD hS 0 rfl rfl 0 (by decide) (hts _ (List.mem_of_getElem? (i := 1) rfl)) (fun _ h9 => h9) rfl (by decide +kernel) rfl rfl (Nat.le_of_ble_eq_true rfl) dX6_become_2 (fun H locs hP hD hS => ?_)
  have hP : va_P (dC, dI) vwCl (fl [wdX6 kc u_o u_items x1 usize uitems]) H := hP
  have hD : va_D A (fl [wdX6 kc u_o u_items x1 usize uitems]) := hD
  refine lv_aload_n hx hb dX6_become_5 rfl (lv_at hl 0 rfl) ?_
  refine lv_iload_n hx hb dX6_become_6 rfl (lv_at hl 2 rfl) ?_
  refine va_put (D := (dC, dI)) (ci := 6) (v := .int x2) (ty := .int) (C := RX6) (T := TX6) (N := 3) hx hb hts hinX6_become_X6 tyX6 tyX6_ok nmX6 hown hK hP hD hS 0 rfl rfl 1 (by decide) (hts _ (List.mem_of_getElem? (i := 2) rfl)) (fun _ h9 => h9) rfl (by decide +kernel) rfl rfl (Nat.le_of_ble_eq_true rfl) dX6_become_7 (fun H locs hP hD hS => ?_)
  have hP : va_P (dC, dI) vwCl (fl [wdX6 kc u_o u_items x1 x2 uitems]) H := hP
  have hD : va_D A (fl [wdX6 kc u_o u_items x1 x2 uitems]) := hD
  refine lv_iconst (v := 0) hx hb dX6_become_10 (by decide) ?_
  refine lv_istore_n (lv' := [(3, .int 0), (0, .ref u_o), (1, .int x1), (2, .int x2)]) hx hb dX6_become_11 rfl hl (by decide) rfl (fun ls hl => ?_)
  have hL12 : ∀ (fn : Nat) (l3_12 : Int32) (uitems_12 : Nat → Int64), LX6_become_12 x1 x2 fn l3_12 uitems_12 = some (usort', usize', uitems') → ∀ (H : Heap) (locs : List Loc), va_P (dC, dI) vwCl (fl [wdX6 kc u_o u_items x1 x2 uitems_12]) H → va_D A (fl [wdX6 kc u_o u_items x1 x2 uitems_12]) → va_S A s.heap H locs → ∀ ls : Array Slot, lv_has ls 4 [(0, .ref u_o), (3, .int l3_12)] → W p l e (headSpec wsX6_become rmX6_become).room s m [.ref u_o, .int x1, .int x2].toArray below meth c H locs 0 0 (MQ below (kQv dC dI (fl [wdX6 kc u_o u_items usort' usize' uitems']) A) [.ref u_o, .int x1, .int x2].toArray s 0 0 A) (F0 m 12 ls []) := by
    clear hm hP hD hS hl
    intro n12
    induction n12 with
    | zero => intro l3_12 uitems_12 hm; rw [LX6_become_12] at hm; cases hm
    | succ n12 ih12 =>
      intro l3_12 uitems_12 hm H locs hP hD hS ls hl
      rw [LX6_become_12] at hm
      refine lv_iload_n hx hb dX6_become_12 rfl (lv_at hl 1 rfl) ?_
      refine lv_bipush (v := 60) hx hb dX6_become_13 (by decide) ?_
      refine lv_icmp_ge (tgt := 31) hx hb dX6_become_15 (by decide) (fun c15 => ?_) (fun c15 => ?_)
      · replace hm := it_t c15 hm
        cases hm
        exact k_vret hx hb hr hlocks hP hS dX6_become_31
      · replace hm := it_f c15 hm
        refine lv_aload_n hx hb dX6_become_18 rfl (lv_at hl 0 rfl) ?_
        refine va_get (D := (dC, dI)) (ci := 6) (v := .ref u_items) (C := RX6) (T := TX6) (N := 3) hx hb hts hinX6_become_X6 hown hK hP 0 rfl rfl 2 (by decide) (hts _ (List.mem_of_getElem? (i := 3) rfl)) (fun _ h9 => h9) rfl dX6_become_19 ?_
        refine lv_iload_n hx hb dX6_become_22 rfl (lv_at hl 1 rfl) ?_
        refine lv_lconst (v := 0) hx hb dX6_become_23 (by decide) ?_
        obtain ⟨hg24, hm⟩ := gd_e hm
        refine k_last (D := (dC, dI)) hx hb hK hP hD hS 1 2 rfl rfl (k := l3_12.toNatClampNeg) rfl hg24 dX6_become_24 (fun H locs hP hD hS => ?_)
        have hP : va_P (dC, dI) vwCl (fl [wdX6 kc u_o u_items x1 x2 (vp_updL uitems_12 (l3_12.toNatClampNeg) 0)]) H := hP
        have hD : va_D A (fl [wdX6 kc u_o u_items x1 x2 (vp_updL uitems_12 (l3_12.toNatClampNeg) 0)]) := hD
        refine lv_iinc (v := l3_12 + 1) (lv' := [(3, .int (l3_12 + 1)), (0, .ref u_o)]) hx hb dX6_become_25 hl (k := 1) rfl rfl (by decide) rfl (fun ls hl => ?_)
        refine lv_goto (tgt := 12) hx hb dX6_become_28 (by decide) ?_
        exact ih12 (l3_12 + 1) (vp_updL uitems_12 (l3_12.toNatClampNeg) 0) hm _ _ hP hD hS _ (lv_sub hl [1, 0] rfl)
  exact hL12 _ _ _ hm _ _ hP hD hS _ (lv_sub hl [1, 0] rfl)
def fX6_hasRoom (usize : Int32) (x1 : Int32) (x2 : Int32) : Option Int32 := if x1 < 0 then (some (0 : Int32)) else (if (usize - x2) < x1 then (some (0 : Int32)) else (some (1 : Int32)))
theorem hinX6_hasRoom_X6 : ∀ w ∈ u_ws RX6 TX6 3, w ∈ wsX6_hasRoom := fun _ h => List.mem_cons_of_mem _ (List.mem_append_right _ h)
abbrev rmX6_hasRoom : Room := { frames := 0, cells := 0, slots := 0, locals := 12 }
set_option maxHeartbeats 4000000 in
set_option maxRecDepth 100000 in
theorem ctX6_hasRoom {l : Launch} {dC : Nat → ClassId} {dI : Nat → Nat → Nat} {kc : Nat → ClassId} {u_o u_items : Nat} {usort : Int32} {usize : Int32} {uitems : Nat → Int64} {x1 : Int32} {x2 : Int32} {r : Int32} (hm : fX6_hasRoom usize x1 x2 = some r) : ∀ sz : Nat, Met l yX6_hasRoom wsX6_hasRoom rmX6_hasRoom (kPc dC dI kc [.ref u_o, .int x1, .int x2] (fl [wdX6 kc u_o u_items usort usize uitems]) sz) (kQi dC dI r (fl [wdX6 kc u_o u_items usort usize uitems]) (va_A (fl [wdX6 kc u_o u_items usort usize uitems]) sz)) 0 0 (va_A (fl [wdX6 kc u_o u_items usort usize uitems]) sz) := by
  intro sz
  refine kMet (cc := cX6_hasRoom) (maxL := 3) (ret := (some .boolean)) (Qf := fun A => kQi dC dI r (fl [wdX6 kc u_o u_items usort usize uitems]) A) (by decide) rfl (Nat.le_of_ble_eq_true rfl) ?_
  intro p e s m below meth c A ls hx hb hr hml hts hown hlocks hname hsz hA hP hK hD hl
  have hS : va_S A s.heap s.heap [] := va_S.rf
  have hl : lv_has ls 3 [(0, .ref u_o), (1, .int x1), (2, .int x2)] := hl
  unfold fX6_hasRoom at hm
  refine lv_iload_n hx hb dX6_hasRoom_0 rfl (lv_at hl 1 rfl) ?_
  refine lv_if_lt (tgt := 18) hx hb dX6_hasRoom_1 (by decide) (fun c1 => ?_) (fun c1 => ?_)
  · replace hm := it_t c1 hm
    refine lv_iconst (v := 0) hx hb dX6_hasRoom_18 (by decide) ?_
    cases hm
    exact k_zret hx hb hr hlocks (by decide) hP hS dX6_hasRoom_19
  · replace hm := it_f c1 hm
    refine lv_iload_n hx hb dX6_hasRoom_4 rfl (lv_at hl 1 rfl) ?_
    refine lv_aload_n hx hb dX6_hasRoom_5 rfl (lv_at hl 0 rfl) ?_
    refine va_get (D := (dC, dI)) (ci := 6) (v := .int usize) (C := RX6) (T := TX6) (N := 3) hx hb hts hinX6_hasRoom_X6 hown hK hP 0 rfl rfl 1 (by decide) (hts _ (List.mem_of_getElem? (i := 1) rfl)) (fun _ h9 => h9) rfl dX6_hasRoom_6 ?_
    refine lv_iload_n hx hb dX6_hasRoom_9 rfl (lv_at hl 2 rfl) ?_
    refine lv_isub hx hb dX6_hasRoom_10 ?_
    refine lv_icmp_gt (tgt := 18) hx hb dX6_hasRoom_11 (by decide) (fun c11 => ?_) (fun c11 => ?_)
    · replace hm := it_t c11 hm
      refine lv_iconst (v := 0) hx hb dX6_hasRoom_18 (by decide) ?_
      cases hm
      exact k_zret hx hb hr hlocks (by decide) hP hS dX6_hasRoom_19
    · replace hm := it_f c11 hm
      refine lv_iconst (v := 1) hx hb dX6_hasRoom_14 (by decide) ?_
      refine lv_goto (tgt := 19) hx hb dX6_hasRoom_15 (by decide) ?_
      cases hm
      exact k_zret hx hb hr hlocks (by decide) hP hS dX6_hasRoom_19
