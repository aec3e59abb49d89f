def fX4_takesTest (fu : Nat) (dtext : Nat → Int32) (dlength : Int32) (dat : Int32) (dlibrary : Option Nat) (bsorts : Nat → Int32) (bletters : Nat → Int32) (bnumbers : Nat → Int32) (bsize : Int32) : Option (Int32 × Int32 × (Nat → Int32) × (Nat → Int32) × (Nat → Int32) × Int32) := bd2 (fX4_takesOneOf fu dtext dlength dat 6 (tx 6)) (fun r3 dat_3 => if 0 ≤ r3 then (bd2 (fX4_takesOneOf fu dtext dlength dat_3 3 (tx 7)) (fun r16 dat_16 => if 0 ≤ r16 then (bd2 (fX4_takesNumber fu dtext dlength dat_16) (fun r27 dat_27 => if 0 ≤ r27 then (bd4 (fX3_put bsorts bletters bnumbers bsize r16 r3 r27) (fun bsorts_44 bletters_44 bnumbers_44 bsize_44 => some ((1 : Int32), dat_27, bsorts_44, bletters_44, bnumbers_44, bsize_44))) else (some ((0 : Int32), dat_27, bsorts, bletters, bnumbers, bsize)))) else (some ((0 : Int32), dat_16, bsorts, bletters, bnumbers, bsize)))) else (some ((0 : Int32), dat_3, bsorts, bletters, bnumbers, bsize)))
theorem hinX4_takesTest_X4 : ∀ w ∈ u_ws RX4 TX4 4, w ∈ wsX4_takesTest := fun _ h => List.mem_cons_of_mem _ (List.mem_append_left _ (List.mem_append_right _ h))
abbrev rmX4_takesTest : Room := { frames := 5, cells := 0, slots := 0, locals := 125 }
set_option maxHeartbeats 4000000 in
set_option maxRecDepth 100000 in
theorem ctX4_takesTest {l : Launch} {dC : Nat → ClassId} {dI : Nat → Nat → Nat} {kc : Nat → ClassId} {d_o d_text b_o b_sorts b_letters b_numbers : Nat} {adK adV : Nat → Nat} {sf : Option Nat} {dtext : Nat → Int32} {dlength : Int32} {dat : Int32} {dlibrary : Option Nat} {bsorts : Nat → Int32} {bletters : Nat → Int32} {bnumbers : Nat → Int32} {bsize : Int32} {bbear : Int32} {fu : Nat} {r : Int32} {dat' : Int32} {bsorts' : Nat → Int32} {bletters' : Nat → Int32} {bnumbers' : Nat → Int32} {bsize' : Int32} (hm : fX4_takesTest fu dtext dlength dat dlibrary bsorts bletters bnumbers bsize = some (r, dat', bsorts', bletters', bnumbers', bsize')) (hkdlibrary : dlibrary = some b_o) : ∀ sz : Nat, Met l yX4_takesTest wsX4_takesTest rmX4_takesTest (kPcX dC dI kc (xR adK adV sf) [.ref d_o] (fl [wdX4 kc d_o d_text dtext dlength dat dlibrary, wdX3 kc b_o b_sorts b_letters b_numbers bsorts bletters bnumbers bsize bbear]) sz) (kQi dC dI r (fl [wdX4 kc d_o d_text dtext dlength dat' dlibrary, wdX3 kc b_o b_sorts b_letters b_numbers bsorts' bletters' bnumbers' bsize' bbear]) (va_A (fl [wdX4 kc d_o d_text dtext dlength dat dlibrary, wdX3 kc b_o b_sorts b_letters b_numbers bsorts bletters bnumbers bsize bbear]) sz)) 0 0 (va_A (fl [wdX4 kc d_o d_text dtext dlength dat dlibrary, wdX3 kc b_o b_sorts b_letters b_numbers bsorts bletters bnumbers bsize bbear]) sz) := by
  intro sz
  refine kMetX (cc := cX4_takesTest) (maxL := 4) (ret := (some .boolean)) (Qf := fun A => kQi dC dI r (fl [wdX4 kc d_o d_text dtext dlength dat' dlibrary, wdX3 kc b_o b_sorts b_letters b_numbers bsorts' bletters' bnumbers' bsize' bbear]) A) (by decide) rfl (Nat.le_of_ble_eq_true rfl) ?_
  intro p e s m below meth c A ls hx hb hr hml hts hown hlocks hname hsz hA hP hK hD hX hl
  have hS : va_S A s.heap s.heap [] := va_S.rf
  have hl : lv_has ls 4 [(0, .ref d_o)] := hl
  unfold fX4_takesTest at hm
  refine lv_aload_n hx hb dX4_takesTest_0 rfl (lv_at hl 0 rfl) ?_
  refine va_ldcS (index := 100) (tx := "pkvxjs") (q := adK 6) hx hb hown (hX.2 6 (by decide)) dX4_takesTest_1 ?_
  obtain ⟨r3, dat_3, hc3, hm⟩ := bd2_e hm
  refine k_callXGVi (dC := dC) (dI := dI) (kc := kc) (As := [.ref (adK 6)]) (rest := []) (Gs' := [wdX4 kc d_o d_text dtext dlength dat_3 dlibrary, wdX3 kc b_o b_sorts b_letters b_numbers bsorts bletters bnumbers bsize bbear]) hx hb hml hown hts hK hP hD hS hA xW_ok (hX.1 6 (by decide)) (ctX4_takesOneOf (d_o := d_o) (d_text := d_text) (s_q := (adK 6)) (s_v := (adV 6)) (dtext := dtext) (dlength := dlength) (dat := dat) (dlibrary := dlibrary) (sL := 6) (sb := (tx 6)) (sf := sf) hc3) (cwV 1 hts gX4_takesTest_X4_takesOneOf rfl rfl rfl (by decide +kernel) ⟨Nat.le_of_ble_eq_true rfl, Nat.le_of_ble_eq_true rfl⟩) [0] rfl (by decide) (va_recv (q0 := 0) (ci := 4) hK hP rfl rfl) rfl hl rfl (Nat.le_of_ble_eq_true rfl) dX4_takesTest_3 ⟨Nat.zero_le _, Nat.zero_le _⟩ rfl rfl rfl (fun H locs hP hD hS => ?_)
  refine lv_istore_n (lv' := [(1, .int r3), (0, .ref d_o)]) hx hb dX4_takesTest_6 rfl hl (by decide) rfl (fun ls hl => ?_)
  refine lv_iload_n hx hb dX4_takesTest_7 rfl (lv_at hl 0 rfl) ?_
  refine lv_if_ge (tgt := 13) hx hb dX4_takesTest_8 (by decide) (fun c8 => ?_) (fun c8 => ?_)
  · replace hm := it_t c8 hm
    refine lv_aload_n hx hb dX4_takesTest_13 rfl (lv_at hl 1 rfl) ?_
    refine va_ldcS (index := 106) (tx := "<=>") (q := adK 7) hx hb hown (hX.2 7 (by decide)) dX4_takesTest_14 ?_
    obtain ⟨r16, dat_16, hc16, hm⟩ := bd2_e hm
    refine k_callXGVi (dC := dC) (dI := dI) (kc := kc) (As := [.ref (adK 7)]) (rest := []) (Gs' := [wdX4 kc d_o d_text dtext dlength dat_16 dlibrary, wdX3 kc b_o b_sorts b_letters b_numbers bsorts bletters bnumbers bsize bbear]) hx hb hml hown hts hK hP hD hS hA xW_ok (hX.1 7 (by decide)) (ctX4_takesOneOf (d_o := d_o) (d_text := d_text) (s_q := (adK 7)) (s_v := (adV 7)) (dtext := dtext) (dlength := dlength) (dat := dat_3) (dlibrary := dlibrary) (sL := 3) (sb := (tx 7)) (sf := sf) hc16) (cwV 1 hts gX4_takesTest_X4_takesOneOf rfl rfl rfl (by decide +kernel) ⟨Nat.le_of_ble_eq_true rfl, Nat.le_of_ble_eq_true rfl⟩) [0] rfl (by decide) (va_recv (q0 := 0) (ci := 4) hK hP rfl rfl) rfl hl rfl (Nat.le_of_ble_eq_true rfl) dX4_takesTest_16 ⟨Nat.zero_le _, Nat.zero_le _⟩ rfl rfl rfl (fun H locs hP hD hS => ?_)
    refine lv_istore_n (lv' := [(2, .int r16), (1, .int r3), (0, .ref d_o)]) hx hb dX4_takesTest_19 rfl hl (by decide) rfl (fun ls hl => ?_)
    refine lv_iload_n hx hb dX4_takesTest_20 rfl (lv_at hl 0 rfl) ?_
    refine lv_if_ge (tgt := 26) hx hb dX4_takesTest_21 (by decide) (fun c21 => ?_) (fun c21 => ?_)
    · replace hm := it_t c21 hm
      refine lv_aload_n hx hb dX4_takesTest_26 rfl (lv_at hl 2 rfl) ?_
      obtain ⟨r27, dat_27, hc27, hm⟩ := bd2_e hm
      refine k_callGVi (dC := dC) (dI := dI) (kc := kc) (As := []) (rest := []) (Gs' := [wdX4 kc d_o d_text dtext dlength dat_27 dlibrary, wdX3 kc b_o b_sorts b_letters b_numbers bsorts bletters bnumbers bsize bbear]) hx hb hml hown hts hK hP hD hS hA (ctX4_takesNumber (d_o := d_o) (d_text := d_text) (dtext := dtext) (dlength := dlength) (dat := dat_16) (dlibrary := dlibrary) hc27) (cwV 0 hts gX4_takesTest_X4_takesNumber rfl rfl rfl (by decide +kernel) ⟨Nat.le_of_ble_eq_true rfl, Nat.le_of_ble_eq_true rfl⟩) [0] rfl (by decide) 4 rfl rfl rfl rfl hl rfl (Nat.le_of_ble_eq_true rfl) dX4_takesTest_27 ⟨Nat.zero_le _, Nat.zero_le _⟩ rfl rfl rfl (fun H locs hP hD hS => ?_)
      refine lv_istore_n (lv' := [(3, .int r27), (2, .int r16), (1, .int r3), (0, .ref d_o)]) hx hb dX4_takesTest_30 rfl hl (by decide) rfl (fun ls hl => ?_)
      refine lv_iload_n hx hb dX4_takesTest_31 rfl (lv_at hl 0 rfl) ?_
      refine lv_if_ge (tgt := 37) hx hb dX4_takesTest_32 (by decide) (fun c32 => ?_) (fun c32 => ?_)
      · replace hm := it_t c32 hm
        refine lv_aload_n hx hb dX4_takesTest_37 rfl (lv_at hl 3 rfl) ?_
        refine va_get (D := (dC, dI)) (ci := 4) (v := .ref b_o) (C := RX4) (T := TX4) (N := 4) hx hb hts hinX4_takesTest_X4 hown hK hP 0 rfl rfl 3 (by decide) (hts _ (List.mem_of_getElem? (i := 1) rfl)) (fun _ h9 => h9) (by show some (va_rf dlibrary) = some (.ref b_o); rw [hkdlibrary]; rfl) dX4_takesTest_38 ?_
        refine lv_iload_n hx hb dX4_takesTest_41 rfl (lv_at hl 1 rfl) ?_
        refine lv_iload_n hx hb dX4_takesTest_42 rfl (lv_at hl 2 rfl) ?_
        refine lv_iload_n hx hb dX4_takesTest_43 rfl (lv_at hl 0 rfl) ?_
        obtain ⟨bsorts_44, bletters_44, bnumbers_44, bsize_44, hc44, hm⟩ := bd4_e hm
        refine k_callGVv (dC := dC) (dI := dI) (kc := kc) (As := [.int r16, .int r3, .int r27]) (rest := []) (Gs' := [wdX4 kc d_o d_text dtext dlength dat_27 dlibrary, wdX3 kc b_o b_sorts b_letters b_numbers bsorts_44 bletters_44 bnumbers_44 bsize_44 bbear]) hx hb hml hown hts hK hP hD hS hA (ctX3_put (b_o := b_o) (b_sorts := b_sorts) (b_letters := b_letters) (b_numbers := b_numbers) (bsorts := bsorts) (bletters := bletters) (bnumbers := bnumbers) (bsize := bsize) (bbear := bbear) (x1 := r16) (x2 := r3) (x3 := r27) hc44) (cwV 3 hts gX4_takesTest_X3_put rfl rfl rfl (by decide +kernel) ⟨Nat.le_of_ble_eq_true rfl, Nat.le_of_ble_eq_true rfl⟩) [1] rfl (by decide) 3 rfl rfl rfl rfl hl rfl (Nat.le_of_ble_eq_true rfl) dX4_takesTest_44 ⟨Nat.zero_le _, Nat.zero_le _⟩ rfl rfl rfl (fun H locs hP hD hS => ?_)
        refine lv_iconst (v := 1) hx hb dX4_takesTest_47 (by decide) ?_
        cases hm
        exact k_zret hx hb hr hlocks (by decide) hP hS dX4_takesTest_48
      · replace hm := it_f c32 hm
        refine lv_iconst (v := 0) hx hb dX4_takesTest_35 (by decide) ?_
        cases hm
        exact k_zret hx hb hr hlocks (by decide) hP hS dX4_takesTest_36
    · replace hm := it_f c21 hm
      refine lv_iconst (v := 0) hx hb dX4_takesTest_24 (by decide) ?_
      cases hm
      exact k_zret hx hb hr hlocks (by decide) hP hS dX4_takesTest_25
  · replace hm := it_f c8 hm
    refine lv_iconst (v := 0) hx hb dX4_takesTest_11 (by decide) ?_
    cases hm
    exact k_zret hx hb hr hlocks (by decide) hP hS dX4_takesTest_12
