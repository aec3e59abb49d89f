def LX4_readInto_19 (fu : Nat) (b_o : Nat) (dtext : Nat → Int32) (dlength : Int32) : Nat → Int32 → Int32 → (Nat → Int32) → (Nat → Int32) → (Nat → Int32) → Int32 → Int32 → Option (Int32 × Int32 × Option Nat × (Nat → Int32) × (Nat → Int32) × (Nat → Int32) × Int32 × Int32)
  | 0, _, _, _, _, _, _, _ => none
  | n19 + 1, l2_19, dat_19, bsorts_19, bletters_19, bnumbers_19, bsize_19, bbear_19 => if 10 < l2_19 then (some (dat_19, dat_19, some b_o, bsorts_19, bletters_19, bnumbers_19, bsize_19, bbear_19)) else (bd7 (fX4_takesClause fu dtext dlength dat_19 (some b_o) bsorts_19 bletters_19 bnumbers_19 bsize_19 bbear_19) (fun r26 dat_26 bsorts_26 bletters_26 bnumbers_26 bsize_26 bbear_26 => if r26 = 0 then (some (dat_26, dat_26, some b_o, bsorts_26, bletters_26, bnumbers_26, bsize_26, bbear_26)) else (if dat_26 < dlength then (if l2_19 = 10 then (some (dat_26, dat_26, some b_o, bsorts_26, bletters_26, bnumbers_26, bsize_26, bbear_26)) else (bd2 (fX4_takesWord fu dtext dlength dat_26 1 (tx 0)) (fun r60 dat_60 => if r60 = 0 then (some (dat_60, dat_60, some b_o, bsorts_26, bletters_26, bnumbers_26, bsize_26, bbear_26)) else (LX4_readInto_19 fu b_o dtext dlength n19 (l2_19 + 1) dat_60 bsorts_26 bletters_26 bnumbers_26 bsize_26 bbear_26)))) else (some (((-5) : Int32), dat_26, some b_o, bsorts_26, bletters_26, bnumbers_26, bsize_26, bbear_26)))))
def fX4_readInto (fu : Nat) (b_o : Nat) (dtext : Nat → Int32) (dlength : Int32) (dat : Int32) (dlibrary : Option Nat) (bsorts : Nat → Int32) (bletters : Nat → Int32) (bnumbers : Nat → Int32) (bsize : Int32) (bbear : Int32) : Option (Int32 × Int32 × Option Nat × (Nat → Int32) × (Nat → Int32) × (Nat → Int32) × Int32 × Int32) := bd2 (fX3_empty bsize bbear) (fun bsize_9 bbear_9 => LX4_readInto_19 fu b_o dtext dlength fu 1 0 bsorts bletters bnumbers bsize_9 bbear_9)
theorem hinX4_readInto_X4 : ∀ w ∈ u_ws RX4 TX4 4, w ∈ wsX4_readInto := fun _ h => List.mem_cons_of_mem _ (List.mem_append_left _ (List.mem_append_right _ h))
abbrev rmX4_readInto : Room := { frames := 255, cells := 0, slots := 0, locals := 6923 }
set_option maxHeartbeats 4000000 in
set_option maxRecDepth 100000 in
theorem ctX4_readInto {l : Launch} {dC : Nat → ClassId} {dI : Nat → Nat → Nat} {kc : Nat → ClassId} {d_o d_text b_o b_sorts b_letters b_numbers : Nat} {adK adV : Nat → Nat} {sf : Option Nat} {dtext : Nat → Int32} {dlength : Int32} {dat : Int32} {dlibrary : Option Nat} {bsorts : Nat → Int32} {bletters : Nat → Int32} {bnumbers : Nat → Int32} {bsize : Int32} {bbear : Int32} {fu : Nat} {r : Int32} {dat' : Int32} {dlibrary' : Option Nat} {bsorts' : Nat → Int32} {bletters' : Nat → Int32} {bnumbers' : Nat → Int32} {bsize' : Int32} {bbear' : Int32} (hm : fX4_readInto fu b_o dtext dlength dat dlibrary bsorts bletters bnumbers bsize bbear = some (r, dat', dlibrary', bsorts', bletters', bnumbers', bsize', bbear')) : ∀ sz : Nat, Met l yX4_readInto wsX4_readInto rmX4_readInto (kPcX dC dI kc (xR adK adV sf) [.ref d_o, .ref b_o] (fl [wdX4 kc d_o d_text dtext dlength dat dlibrary, wdX3 kc b_o b_sorts b_letters b_numbers bsorts bletters bnumbers bsize bbear]) sz) (kQi dC dI r (fl [wdX4 kc d_o d_text dtext dlength dat' dlibrary', wdX3 kc b_o b_sorts b_letters b_numbers bsorts' bletters' bnumbers' bsize' bbear']) (va_A (fl [wdX4 kc d_o d_text dtext dlength dat dlibrary, wdX3 kc b_o b_sorts b_letters b_numbers bsorts bletters bnumbers bsize bbear]) sz)) 0 0 (va_A (fl [wdX4 kc d_o d_text dtext dlength dat dlibrary, wdX3 kc b_o b_sorts b_letters b_numbers bsorts bletters bnumbers bsize bbear]) sz) := by
  intro sz
  refine kMetX (cc := cX4_readInto) (maxL := 3) (ret := (some .int)) (Qf := fun A => kQi dC dI r (fl [wdX4 kc d_o d_text dtext dlength dat' dlibrary', wdX3 kc b_o b_sorts b_letters b_numbers bsorts' bletters' bnumbers' bsize' bbear']) A) (by decide) rfl (Nat.le_of_ble_eq_true rfl) ?_
  intro p e s m below meth c A ls hx hb hr hml hts hown hlocks hname hsz hA hP hK hD hX hl
  have hS : va_S A s.heap s.heap [] := va_S.rf
  have hl : lv_has ls 3 [(0, .ref d_o), (1, .ref b_o)] := hl
  unfold fX4_readInto at hm
  refine lv_aload_n hx hb dX4_readInto_0 rfl (lv_at hl 0 rfl) ?_
  refine lv_aload_n hx hb dX4_readInto_1 rfl (lv_at hl 1 rfl) ?_
  refine va_put (D := (dC, dI)) (ci := 4) (v := .ref b_o) (ty := (.object "AtlasEnds$Library")) (C := RX4) (T := TX4) (N := 4) hx hb hts hinX4_readInto_X4 tyX4 tyX4_ok nmX4 hown hK hP hD hS 0 rfl rfl 3 (by decide) (hts _ (List.mem_of_getElem? (i := 1) rfl)) (fun _ h9 => h9) rfl (by decide +kernel) rfl rfl (Nat.le_of_ble_eq_true rfl) dX4_readInto_2 (fun H locs hP hD hS => ?_)
  have hP : va_P (dC, dI) vwCl (fl [wdX4 kc d_o d_text dtext dlength dat (some b_o), wdX3 kc b_o b_sorts b_letters b_numbers bsorts bletters bnumbers bsize bbear]) H := hP
  have hD : va_D A (fl [wdX4 kc d_o d_text dtext dlength dat (some b_o), wdX3 kc b_o b_sorts b_letters b_numbers bsorts bletters bnumbers bsize bbear]) := hD
  refine lv_aload_n hx hb dX4_readInto_5 rfl (lv_at hl 0 rfl) ?_
  refine va_get (D := (dC, dI)) (ci := 4) (v := .ref b_o) (C := RX4) (T := TX4) (N := 4) hx hb hts hinX4_readInto_X4 hown hK hP 0 rfl rfl 3 (by decide) (hts _ (List.mem_of_getElem? (i := 1) rfl)) (fun _ h9 => h9) rfl dX4_readInto_6 ?_
  obtain ⟨bsize_9, bbear_9, hc9, hm⟩ := bd2_e hm
  refine k_callGVv (dC := dC) (dI := dI) (kc := kc) (As := []) (rest := []) (Gs' := [wdX4 kc d_o d_text dtext dlength dat (some b_o), wdX3 kc b_o b_sorts b_letters b_numbers bsorts bletters bnumbers bsize_9 bbear_9]) hx hb hml hown hts hK hP hD hS hA (ctX3_empty (b_o := b_o) (b_sorts := b_sorts) (b_letters := b_letters) (b_numbers := b_numbers) (bsorts := bsorts) (bletters := bletters) (bnumbers := bnumbers) (bsize := bsize) (bbear := bbear) hc9) (cwV 0 hts gX4_readInto_X3_empty rfl rfl rfl (by decide +kernel) ⟨Nat.le_of_ble_eq_true rfl, Nat.le_of_ble_eq_true rfl⟩) [1] rfl (by decide) 3 rfl rfl rfl rfl hl rfl (Nat.le_of_ble_eq_true rfl) dX4_readInto_9 ⟨Nat.zero_le _, Nat.zero_le _⟩ rfl rfl rfl (fun H locs hP hD hS => ?_)
  refine lv_aload_n hx hb dX4_readInto_12 rfl (lv_at hl 0 rfl) ?_
  refine lv_iconst (v := 0) hx hb dX4_readInto_13 (by decide) ?_
  refine va_put (D := (dC, dI)) (ci := 4) (v := .int 0) (ty := .int) (C := RX4) (T := TX4) (N := 4) hx hb hts hinX4_readInto_X4 tyX4 tyX4_ok nmX4 hown hK hP hD hS 0 rfl rfl 2 (by decide) (hts _ (List.mem_of_getElem? (i := 2) rfl)) (fun _ h9 => h9) rfl (by decide +kernel) rfl rfl (Nat.le_of_ble_eq_true rfl) dX4_readInto_14 (fun H locs hP hD hS => ?_)
  have hP : va_P (dC, dI) vwCl (fl [wdX4 kc d_o d_text dtext dlength 0 (some b_o), wdX3 kc b_o b_sorts b_letters b_numbers bsorts bletters bnumbers bsize_9 bbear_9]) H := hP
  have hD : va_D A (fl [wdX4 kc d_o d_text dtext dlength 0 (some b_o), wdX3 kc b_o b_sorts b_letters b_numbers bsorts bletters bnumbers bsize_9 bbear_9]) := hD
  refine lv_iconst (v := 1) hx hb dX4_readInto_17 (by decide) ?_
  refine lv_istore_n (lv' := [(2, .int 1), (0, .ref d_o), (1, .ref b_o)]) hx hb dX4_readInto_18 rfl hl (by decide) rfl (fun ls hl => ?_)
  have hL19 : ∀ (fn : Nat) (l2_19 : Int32) (dat_19 : Int32) (bsorts_19 : Nat → Int32) (bletters_19 : Nat → Int32) (bnumbers_19 : Nat → Int32) (bsize_19 : Int32) (bbear_19 : Int32), LX4_readInto_19 fu b_o dtext dlength fn l2_19 dat_19 bsorts_19 bletters_19 bnumbers_19 bsize_19 bbear_19 = some (r, dat', dlibrary', bsorts', bletters', bnumbers', bsize', bbear') → ∀ (H : Heap) (locs : List Loc), va_P (dC, dI) vwCl (fl [wdX4 kc d_o d_text dtext dlength dat_19 (some b_o), wdX3 kc b_o b_sorts b_letters b_numbers bsorts_19 bletters_19 bnumbers_19 bsize_19 bbear_19]) H → va_D A (fl [wdX4 kc d_o d_text dtext dlength dat_19 (some b_o), wdX3 kc b_o b_sorts b_letters b_numbers bsorts_19 bletters_19 bnumbers_19 bsize_19 bbear_19]) → va_S A s.heap H locs → ∀ ls : Array Slot, lv_has ls 3 [(0, .ref d_o), (2, .int l2_19)] → W p l e (headSpec wsX4_readInto rmX4_readInto).room s m [.ref d_o, .ref b_o].toArray below meth c H locs 0 0 (MQ below (kQi dC dI r (fl [wdX4 kc d_o d_text dtext dlength dat' dlibrary', wdX3 kc b_o b_sorts b_letters b_numbers bsorts' bletters' bnumbers' bsize' bbear']) A) [.ref d_o, .ref b_o].toArray s 0 0 A) (F0 m 19 ls []) := by
    clear hm hP hD hS hl
    intro n19
    induction n19 with
    | zero => intro l2_19 dat_19 bsorts_19 bletters_19 bnumbers_19 bsize_19 bbear_19 hm; rw [LX4_readInto_19] at hm; cases hm
    | succ n19 ih19 =>
      intro l2_19 dat_19 bsorts_19 bletters_19 bnumbers_19 bsize_19 bbear_19 hm H locs hP hD hS ls hl
      rw [LX4_readInto_19] at hm
      refine lv_iload_n hx hb dX4_readInto_19 rfl (lv_at hl 1 rfl) ?_
      refine lv_bipush (v := 10) hx hb dX4_readInto_20 (by decide) ?_
      refine lv_icmp_gt (tgt := 77) hx hb dX4_readInto_22 (by decide) (fun c22 => ?_) (fun c22 => ?_)
      · replace hm := it_t c22 hm
        refine lv_aload_n hx hb dX4_readInto_77 rfl (lv_at hl 0 rfl) ?_
        refine va_get (D := (dC, dI)) (ci := 4) (v := .int dat_19) (C := RX4) (T := TX4) (N := 4) hx hb hts hinX4_readInto_X4 hown hK hP 0 rfl rfl 2 (by decide) (hts _ (List.mem_of_getElem? (i := 2) rfl)) (fun _ h9 => h9) rfl dX4_readInto_78 ?_
        cases hm
        exact k_iret hx hb hr hlocks hP hS dX4_readInto_81
      · replace hm := it_f c22 hm
        refine lv_aload_n hx hb dX4_readInto_25 rfl (lv_at hl 0 rfl) ?_
        obtain ⟨r26, dat_26, bsorts_26, bletters_26, bnumbers_26, bsize_26, bbear_26, hc26, hm⟩ := bd7_e hm
        refine k_callXGVi (dC := dC) (dI := dI) (kc := kc) (As := []) (rest := []) (Gs' := [wdX4 kc d_o d_text dtext dlength dat_26 (some b_o), wdX3 kc b_o b_sorts b_letters b_numbers bsorts_26 bletters_26 bnumbers_26 bsize_26 bbear_26]) hx hb hml hown hts hK hP hD hS hA xR_ok hX (ctX4_takesClause (d_o := d_o) (d_text := d_text) (b_o := b_o) (b_sorts := b_sorts) (b_letters := b_letters) (b_numbers := b_numbers) (dtext := dtext) (dlength := dlength) (dat := dat_19) (dlibrary := some b_o) (bsorts := bsorts_19) (bletters := bletters_19) (bnumbers := bnumbers_19) (bsize := bsize_19) (bbear := bbear_19) (adK := adK) (adV := adV) (sf := sf) hc26 rfl) (cwV 0 hts gX4_readInto_X4_takesClause rfl rfl rfl (by decide +kernel) ⟨Nat.le_of_ble_eq_true rfl, Nat.le_of_ble_eq_true rfl⟩) [0, 1] rfl (by decide) (va_recv (q0 := 0) (ci := 4) hK hP rfl rfl) rfl hl rfl (Nat.le_of_ble_eq_true rfl) dX4_readInto_26 ⟨Nat.zero_le _, Nat.zero_le _⟩ rfl rfl rfl (fun H locs hP hD hS => ?_)
        refine lv_if_ne (tgt := 37) hx hb dX4_readInto_29 (by decide) (fun c29 => ?_) (fun c29 => ?_)
        · replace hm := it_f c29 hm
          refine lv_aload_n hx hb dX4_readInto_37 rfl (lv_at hl 0 rfl) ?_
          refine va_get (D := (dC, dI)) (ci := 4) (v := .int dat_26) (C := RX4) (T := TX4) (N := 4) hx hb hts hinX4_readInto_X4 hown hK hP 0 rfl rfl 2 (by decide) (hts _ (List.mem_of_getElem? (i := 2) rfl)) (fun _ h9 => h9) rfl dX4_readInto_38 ?_
          refine lv_aload_n hx hb dX4_readInto_41 rfl (lv_at hl 0 rfl) ?_
          refine va_get (D := (dC, dI)) (ci := 4) (v := .int dlength) (C := RX4) (T := TX4) (N := 4) hx hb hts hinX4_readInto_X4 hown hK hP 0 rfl rfl 1 (by decide) (hts _ (List.mem_of_getElem? (i := 3) rfl)) (fun _ h9 => h9) rfl dX4_readInto_42 ?_
          refine lv_icmp_lt (tgt := 51) hx hb dX4_readInto_45 (by decide) (fun c45 => ?_) (fun c45 => ?_)
          · replace hm := it_t c45 hm
            refine lv_iload_n hx hb dX4_readInto_51 rfl (lv_at hl 1 rfl) ?_
            refine lv_bipush (v := 10) hx hb dX4_readInto_52 (by decide) ?_
            refine lv_icmp_eq (tgt := 66) hx hb dX4_readInto_54 (by decide) (fun c54 => ?_) (fun c54 => ?_)
            · replace hm := it_t c54 hm
              refine lv_aload_n hx hb dX4_readInto_66 rfl (lv_at hl 0 rfl) ?_
              refine va_get (D := (dC, dI)) (ci := 4) (v := .int dat_26) (C := RX4) (T := TX4) (N := 4) hx hb hts hinX4_readInto_X4 hown hK hP 0 rfl rfl 2 (by decide) (hts _ (List.mem_of_getElem? (i := 2) rfl)) (fun _ h9 => h9) rfl dX4_readInto_67 ?_
              cases hm
              exact k_iret hx hb hr hlocks hP hS dX4_readInto_70
            · replace hm := it_f c54 hm
              refine lv_aload_n hx hb dX4_readInto_57 rfl (lv_at hl 0 rfl) ?_
              refine va_ldcS (index := 35) (tx := ";") (q := adK 0) hx hb hown (hX.2 0 (by decide)) dX4_readInto_58 ?_
              obtain ⟨r60, dat_60, hc60, hm⟩ := bd2_e hm
              refine k_callXGVi (dC := dC) (dI := dI) (kc := kc) (As := [.ref (adK 0)]) (rest := []) (Gs' := [wdX4 kc d_o d_text dtext dlength dat_60 (some b_o), wdX3 kc b_o b_sorts b_letters b_numbers bsorts_26 bletters_26 bnumbers_26 bsize_26 bbear_26]) hx hb hml hown hts hK hP hD hS hA xW_ok (hX.1 0 (by decide)) (ctX4_takesWord (d_o := d_o) (d_text := d_text) (s_q := (adK 0)) (s_v := (adV 0)) (dtext := dtext) (dlength := dlength) (dat := dat_26) (dlibrary := some b_o) (sL := 1) (sb := (tx 0)) (sf := sf) hc60) (cwV 1 hts gX4_readInto_X4_takesWord rfl rfl rfl (by decide +kernel) ⟨Nat.le_of_ble_eq_true rfl, Nat.le_of_ble_eq_true rfl⟩) [0] rfl (by decide) (va_recv (q0 := 0) (ci := 4) hK hP rfl rfl) rfl hl rfl (Nat.le_of_ble_eq_true rfl) dX4_readInto_60 ⟨Nat.zero_le _, Nat.zero_le _⟩ rfl rfl rfl (fun H locs hP hD hS => ?_)
              refine lv_if_ne (tgt := 71) hx hb dX4_readInto_63 (by decide) (fun c63 => ?_) (fun c63 => ?_)
              · replace hm := it_f c63 hm
                refine lv_iinc (v := l2_19 + 1) (lv' := [(2, .int (l2_19 + 1)), (0, .ref d_o)]) hx hb dX4_readInto_71 hl (k := 1) rfl rfl (by decide) rfl (fun ls hl => ?_)
                refine lv_goto (tgt := 19) hx hb dX4_readInto_74 (by decide) ?_
                exact ih19 (l2_19 + 1) dat_60 bsorts_26 bletters_26 bnumbers_26 bsize_26 bbear_26 hm _ _ hP hD hS _ (lv_sub hl [1, 0] rfl)
              · replace hm := it_t c63 hm
                refine lv_aload_n hx hb dX4_readInto_66 rfl (lv_at hl 0 rfl) ?_
                refine va_get (D := (dC, dI)) (ci := 4) (v := .int dat_60) (C := RX4) (T := TX4) (N := 4) hx hb hts hinX4_readInto_X4 hown hK hP 0 rfl rfl 2 (by decide) (hts _ (List.mem_of_getElem? (i := 2) rfl)) (fun _ h9 => h9) rfl dX4_readInto_67 ?_
                cases hm
                exact k_iret hx hb hr hlocks hP hS dX4_readInto_70
          · replace hm := it_f c45 hm
            refine lv_bipush (v := (-5)) hx hb dX4_readInto_48 (by decide) ?_
            cases hm
            exact k_iret hx hb hr hlocks hP hS dX4_readInto_50
        · replace hm := it_t c29 hm
          refine lv_aload_n hx hb dX4_readInto_32 rfl (lv_at hl 0 rfl) ?_
          refine va_get (D := (dC, dI)) (ci := 4) (v := .int dat_26) (C := RX4) (T := TX4) (N := 4) hx hb hts hinX4_readInto_X4 hown hK hP 0 rfl rfl 2 (by decide) (hts _ (List.mem_of_getElem? (i := 2) rfl)) (fun _ h9 => h9) rfl dX4_readInto_33 ?_
          cases hm
          exact k_iret hx hb hr hlocks hP hS dX4_readInto_36
  exact hL19 _ _ _ _ _ _ _ _ hm _ _ hP hD hS _ (lv_sub hl [1, 0] rfl)
