def fX4_takesClause (fu : Nat) (dtext : Nat → Int32) (dlength : Int32) (dat : Int32) (dlibrary : Option Nat) (bsorts : Nat → Int32) (bletters : Nat → Int32) (bnumbers : Nat → Int32) (bsize : Int32) (bbear : Int32) : Option (Int32 × Int32 × (Nat → Int32) × (Nat → Int32) × (Nat → Int32) × Int32 × Int32) := bd1 (fX4_isAt dtext dlength dat 98) (fun r3 => bd1 (fX4_isAt dtext dlength dat 100) (fun r10 => if r3 = 0 then (if r10 = 0 then (bd2 (fX4_takesWord fu dtext dlength dat 3 (tx 3)) (fun r35 dat_35 => if r35 = 0 then (some ((0 : Int32), dat_35, bsorts, bletters, bnumbers, bsize, bbear)) else (bd2 (fX4_takesNumber fu dtext dlength dat_35) (fun r44 dat_44 => if 0 ≤ r44 then (if r3 = 0 then (bd2 (fX4_takesWord fu dtext dlength dat_44 1 (tx 4)) (fun r71 dat_71 => if r71 = 0 then (some ((0 : Int32), dat_71, bsorts, bletters, bnumbers, bsize, bbear)) else (bd6 (fX4_takesAnyOf (fX4_takesPart fu 6) fu dtext dlength dat_71 dlibrary bsorts bletters bnumbers bsize 0) (fun r79 dat_79 bsorts_79 bletters_79 bnumbers_79 bsize_79 => if r79 = 0 then (some ((0 : Int32), dat_79, bsorts_79, bletters_79, bnumbers_79, bsize_79, bbear)) else (if r10 = 0 then (bd4 (fX3_put bsorts_79 bletters_79 bnumbers_79 bsize_79 6 0 r44) (fun bsorts_104 bletters_104 bnumbers_104 bsize_104 => some ((1 : Int32), dat_79, bsorts_104, bletters_104, bnumbers_104, bsize_104, bbear))) else (bd4 (fX3_put bsorts_79 bletters_79 bnumbers_79 bsize_79 7 0 r44) (fun bsorts_104 bletters_104 bnumbers_104 bsize_104 => some ((1 : Int32), dat_79, bsorts_104, bletters_104, bnumbers_104, bsize_104, bbear)))))))) else (some ((1 : Int32), dat_44, bsorts, bletters, bnumbers, bsize, r44))) else (some ((0 : Int32), dat_44, bsorts, bletters, bnumbers, bsize, bbear)))))) else (bd2 (fX4_takesWord fu dtext dlength dat 5 (tx 2)) (fun r35 dat_35 => if r35 = 0 then (some ((0 : Int32), dat_35, bsorts, bletters, bnumbers, bsize, bbear)) else (bd2 (fX4_takesNumber fu dtext dlength dat_35) (fun r44 dat_44 => if 0 ≤ r44 then (if r3 = 0 then (bd2 (fX4_takesWord fu dtext dlength dat_44 1 (tx 4)) (fun r71 dat_71 => if r71 = 0 then (some ((0 : Int32), dat_71, bsorts, bletters, bnumbers, bsize, bbear)) else (bd6 (fX4_takesAnyOf (fX4_takesPart fu 6) fu dtext dlength dat_71 dlibrary bsorts bletters bnumbers bsize 0) (fun r79 dat_79 bsorts_79 bletters_79 bnumbers_79 bsize_79 => if r79 = 0 then (some ((0 : Int32), dat_79, bsorts_79, bletters_79, bnumbers_79, bsize_79, bbear)) else (if r10 = 0 then (bd4 (fX3_put bsorts_79 bletters_79 bnumbers_79 bsize_79 6 0 r44) (fun bsorts_104 bletters_104 bnumbers_104 bsize_104 => some ((1 : Int32), dat_79, bsorts_104, bletters_104, bnumbers_104, bsize_104, bbear))) else (bd4 (fX3_put bsorts_79 bletters_79 bnumbers_79 bsize_79 7 0 r44) (fun bsorts_104 bletters_104 bnumbers_104 bsize_104 => some ((1 : Int32), dat_79, bsorts_104, bletters_104, bnumbers_104, bsize_104, bbear)))))))) else (some ((1 : Int32), dat_44, bsorts, bletters, bnumbers, bsize, r44))) else (some ((0 : Int32), dat_44, bsorts, bletters, bnumbers, bsize, bbear))))))) else (bd2 (fX4_takesWord fu dtext dlength dat 5 (tx 1)) (fun r35 dat_35 => if r35 = 0 then (some ((0 : Int32), dat_35, bsorts, bletters, bnumbers, bsize, bbear)) else (bd2 (fX4_takesNumber fu dtext dlength dat_35) (fun r44 dat_44 => if 0 ≤ r44 then (if r3 = 0 then (bd2 (fX4_takesWord fu dtext dlength dat_44 1 (tx 4)) (fun r71 dat_71 => if r71 = 0 then (some ((0 : Int32), dat_71, bsorts, bletters, bnumbers, bsize, bbear)) else (bd6 (fX4_takesAnyOf (fX4_takesPart fu 6) fu dtext dlength dat_71 dlibrary bsorts bletters bnumbers bsize 0) (fun r79 dat_79 bsorts_79 bletters_79 bnumbers_79 bsize_79 => if r79 = 0 then (some ((0 : Int32), dat_79, bsorts_79, bletters_79, bnumbers_79, bsize_79, bbear)) else (if r10 = 0 then (bd4 (fX3_put bsorts_79 bletters_79 bnumbers_79 bsize_79 6 0 r44) (fun bsorts_104 bletters_104 bnumbers_104 bsize_104 => some ((1 : Int32), dat_79, bsorts_104, bletters_104, bnumbers_104, bsize_104, bbear))) else (bd4 (fX3_put bsorts_79 bletters_79 bnumbers_79 bsize_79 7 0 r44) (fun bsorts_104 bletters_104 bnumbers_104 bsize_104 => some ((1 : Int32), dat_79, bsorts_104, bletters_104, bnumbers_104, bsize_104, bbear)))))))) else (some ((1 : Int32), dat_44, bsorts, bletters, bnumbers, bsize, r44))) else (some ((0 : Int32), dat_44, bsorts, bletters, bnumbers, bsize, bbear))))))))
theorem hinX4_takesClause_X3 : ∀ w ∈ u_ws RX3 TX3 5, w ∈ wsX4_takesClause := fun _ h => List.mem_cons_of_mem _ (List.mem_append_right _ h)
theorem hinX4_takesClause_X4 : ∀ w ∈ u_ws RX4 TX4 4, w ∈ wsX4_takesClause := fun _ h => List.mem_cons_of_mem _ (List.mem_append_left _ (List.mem_append_right _ h))
abbrev rmX4_takesClause : Room := { frames := 254, cells := 0, slots := 0, locals := 6900 }
set_option maxHeartbeats 4000000 in
set_option maxRecDepth 100000 in
theorem ctX4_takesClause {l : Launch} {dC : Nat → ClassId} {dI : Nat → Nat → Nat} {kc : Nat → ClassId} {d_o d_text b_o b_sorts b_letters b_numbers : Nat} {adK adV : Nat → Nat} {sf : Option Nat} {dtext : Nat → Int32} {dlength : Int32} {dat : Int32} {dlibrary : Option Nat} {bsorts : Nat → Int32} {bletters : Nat → Int32} {bnumbers : Nat → Int32} {bsize : Int32} {bbear : Int32} {fu : Nat} {r : Int32} {dat' : Int32} {bsorts' : Nat → Int32} {bletters' : Nat → Int32} {bnumbers' : Nat → Int32} {bsize' : Int32} {bbear' : Int32} (hm : fX4_takesClause fu dtext dlength dat dlibrary bsorts bletters bnumbers bsize bbear = some (r, dat', bsorts', bletters', bnumbers', bsize', bbear')) (hkdlibrary : dlibrary = some b_o) : ∀ sz : Nat, Met l yX4_takesClause wsX4_takesClause rmX4_takesClause (kPcX dC dI kc (xR adK adV sf) [.ref d_o] (fl [wdX4 kc d_o d_text dtext dlength dat dlibrary, wdX3 kc b_o b_sorts b_letters b_numbers bsorts bletters bnumbers bsize bbear]) sz) (kQi dC dI r (fl [wdX4 kc d_o d_text dtext dlength dat' dlibrary, wdX3 kc b_o b_sorts b_letters b_numbers bsorts' bletters' bnumbers' bsize' bbear']) (va_A (fl [wdX4 kc d_o d_text dtext dlength dat dlibrary, wdX3 kc b_o b_sorts b_letters b_numbers bsorts bletters bnumbers bsize bbear]) sz)) 0 0 (va_A (fl [wdX4 kc d_o d_text dtext dlength dat dlibrary, wdX3 kc b_o b_sorts b_letters b_numbers bsorts bletters bnumbers bsize bbear]) sz) := by
  intro sz
  refine kMetX (cc := cX4_takesClause) (maxL := 4) (ret := (some .boolean)) (Qf := fun A => kQi dC dI r (fl [wdX4 kc d_o d_text dtext dlength dat' dlibrary, wdX3 kc b_o b_sorts b_letters b_numbers bsorts' bletters' bnumbers' bsize' bbear']) A) (by decide) rfl (Nat.le_of_ble_eq_true rfl) ?_
  intro p e s m below meth c A ls hx hb hr hml hts hown hlocks hname hsz hA hP hK hD hX hl
  have hS : va_S A s.heap s.heap [] := va_S.rf
  have hl : lv_has ls 4 [(0, .ref d_o)] := hl
  unfold fX4_takesClause at hm
  refine lv_aload_n hx hb dX4_takesClause_0 rfl (lv_at hl 0 rfl) ?_
  refine lv_bipush (v := 98) hx hb dX4_takesClause_1 (by decide) ?_
  obtain ⟨r3, hc3, hm⟩ := bd1_e hm
  refine k_callGVi (dC := dC) (dI := dI) (kc := kc) (As := [.int 98]) (rest := []) (Gs' := [wdX4 kc d_o d_text dtext dlength dat dlibrary, wdX3 kc b_o b_sorts b_letters b_numbers bsorts bletters bnumbers bsize bbear]) hx hb hml hown hts hK hP hD hS hA (ctX4_isAt (d_o := d_o) (d_text := d_text) (dtext := dtext) (dlength := dlength) (dat := dat) (dlibrary := dlibrary) (x1 := 98) hc3) (cwV 1 hts gX4_takesClause_X4_isAt rfl rfl rfl (by decide +kernel) ⟨Nat.le_of_ble_eq_true rfl, Nat.le_of_ble_eq_true rfl⟩) [0] rfl (by decide) 4 rfl rfl rfl rfl hl rfl (Nat.le_of_ble_eq_true rfl) dX4_takesClause_3 ⟨Nat.zero_le _, Nat.zero_le _⟩ rfl rfl rfl (fun H locs hP hD hS => ?_)
  refine lv_istore_n (lv' := [(1, .int r3), (0, .ref d_o)]) hx hb dX4_takesClause_6 rfl hl (by decide) rfl (fun ls hl => ?_)
  refine lv_aload_n hx hb dX4_takesClause_7 rfl (lv_at hl 1 rfl) ?_
  refine lv_bipush (v := 100) hx hb dX4_takesClause_8 (by decide) ?_
  obtain ⟨r10, hc10, hm⟩ := bd1_e hm
  refine k_callGVi (dC := dC) (dI := dI) (kc := kc) (As := [.int 100]) (rest := []) (Gs' := [wdX4 kc d_o d_text dtext dlength dat dlibrary, wdX3 kc b_o b_sorts b_letters b_numbers bsorts bletters bnumbers bsize bbear]) hx hb hml hown hts hK hP hD hS hA (ctX4_isAt (d_o := d_o) (d_text := d_text) (dtext := dtext) (dlength := dlength) (dat := dat) (dlibrary := dlibrary) (x1 := 100) hc10) (cwV 1 hts gX4_takesClause_X4_isAt rfl rfl rfl (by decide +kernel) ⟨Nat.le_of_ble_eq_true rfl, Nat.le_of_ble_eq_true rfl⟩) [0] rfl (by decide) 4 rfl rfl rfl rfl hl rfl (Nat.le_of_ble_eq_true rfl) dX4_takesClause_10 ⟨Nat.zero_le _, Nat.zero_le _⟩ rfl rfl rfl (fun H locs hP hD hS => ?_)
  refine lv_istore_n (lv' := [(2, .int r10), (1, .int r3), (0, .ref d_o)]) hx hb dX4_takesClause_13 rfl hl (by decide) rfl (fun ls hl => ?_)
  refine lv_aload_n hx hb dX4_takesClause_14 rfl (lv_at hl 2 rfl) ?_
  refine lv_iload_n hx hb dX4_takesClause_15 rfl (lv_at hl 1 rfl) ?_
  refine lv_if_eq (tgt := 24) hx hb dX4_takesClause_16 (by decide) (fun c16 => ?_) (fun c16 => ?_)
  · replace hm := it_t c16 hm
    refine lv_iload_n hx hb dX4_takesClause_24 rfl (lv_at hl 0 rfl) ?_
    refine lv_if_eq (tgt := 33) hx hb dX4_takesClause_25 (by decide) (fun c25 => ?_) (fun c25 => ?_)
    · replace hm := it_t c25 hm
      refine va_ldcS (index := 71) (tx := "up ") (q := adK 3) hx hb hown (hX.2 3 (by decide)) dX4_takesClause_33 ?_
      obtain ⟨r35, dat_35, hc35, hm⟩ := bd2_e hm
      refine k_callXGVi (dC := dC) (dI := dI) (kc := kc) (As := [.ref (adK 3)]) (rest := []) (Gs' := [wdX4 kc d_o d_text dtext dlength dat_35 dlibrary, wdX3 kc b_o b_sorts b_letters b_numbers bsorts bletters bnumbers bsize bbear]) hx hb hml hown hts hK hP hD hS hA xW_ok (hX.1 3 (by decide)) (ctX4_takesWord (d_o := d_o) (d_text := d_text) (s_q := (adK 3)) (s_v := (adV 3)) (dtext := dtext) (dlength := dlength) (dat := dat) (dlibrary := dlibrary) (sL := 3) (sb := (tx 3)) (sf := sf) hc35) (cwV 1 hts gX4_takesClause_X4_takesWord rfl rfl rfl (by decide +kernel) ⟨Nat.le_of_ble_eq_true rfl, Nat.le_of_ble_eq_true rfl⟩) [0] rfl (by decide) (va_recv (q0 := 0) (ci := 4) hK hP rfl rfl) rfl hl rfl (Nat.le_of_ble_eq_true rfl) dX4_takesClause_35 ⟨Nat.zero_le _, Nat.zero_le _⟩ rfl rfl rfl (fun H locs hP hD hS => ?_)
      refine lv_if_ne (tgt := 43) hx hb dX4_takesClause_38 (by decide) (fun c38 => ?_) (fun c38 => ?_)
      · replace hm := it_f c38 hm
        refine lv_aload_n hx hb dX4_takesClause_43 rfl (lv_at hl 2 rfl) ?_
        obtain ⟨r44, dat_44, hc44, hm⟩ := bd2_e hm
        refine k_callGVi (dC := dC) (dI := dI) (kc := kc) (As := []) (rest := []) (Gs' := [wdX4 kc d_o d_text dtext dlength dat_44 dlibrary, wdX3 kc b_o b_sorts b_letters b_numbers bsorts bletters bnumbers bsize bbear]) hx hb hml hown hts hK hP hD hS hA (ctX4_takesNumber (d_o := d_o) (d_text := d_text) (dtext := dtext) (dlength := dlength) (dat := dat_35) (dlibrary := dlibrary) hc44) (cwV 0 hts gX4_takesClause_X4_takesNumber rfl rfl rfl (by decide +kernel) ⟨Nat.le_of_ble_eq_true rfl, Nat.le_of_ble_eq_true rfl⟩) [0] rfl (by decide) 4 rfl rfl rfl rfl hl rfl (Nat.le_of_ble_eq_true rfl) dX4_takesClause_44 ⟨Nat.zero_le _, Nat.zero_le _⟩ rfl rfl rfl (fun H locs hP hD hS => ?_)
        refine lv_istore_n (lv' := [(3, .int r44), (2, .int r10), (1, .int r3), (0, .ref d_o)]) hx hb dX4_takesClause_47 rfl hl (by decide) rfl (fun ls hl => ?_)
        refine lv_iload_n hx hb dX4_takesClause_48 rfl (lv_at hl 0 rfl) ?_
        refine lv_if_ge (tgt := 54) hx hb dX4_takesClause_49 (by decide) (fun c49 => ?_) (fun c49 => ?_)
        · replace hm := it_t c49 hm
          refine lv_iload_n hx hb dX4_takesClause_54 rfl (lv_at hl 2 rfl) ?_
          refine lv_if_eq (tgt := 68) hx hb dX4_takesClause_55 (by decide) (fun c55 => ?_) (fun c55 => ?_)
          · replace hm := it_t c55 hm
            refine lv_aload_n hx hb dX4_takesClause_68 rfl (lv_at hl 3 rfl) ?_
            refine va_ldcS (index := 79) (tx := " ") (q := adK 4) hx hb hown (hX.2 4 (by decide)) dX4_takesClause_69 ?_
            obtain ⟨r71, dat_71, hc71, hm⟩ := bd2_e hm
            refine k_callXGVi (dC := dC) (dI := dI) (kc := kc) (As := [.ref (adK 4)]) (rest := []) (Gs' := [wdX4 kc d_o d_text dtext dlength dat_71 dlibrary, wdX3 kc b_o b_sorts b_letters b_numbers bsorts bletters bnumbers bsize bbear]) hx hb hml hown hts hK hP hD hS hA xW_ok (hX.1 4 (by decide)) (ctX4_takesWord (d_o := d_o) (d_text := d_text) (s_q := (adK 4)) (s_v := (adV 4)) (dtext := dtext) (dlength := dlength) (dat := dat_44) (dlibrary := dlibrary) (sL := 1) (sb := (tx 4)) (sf := sf) hc71) (cwV 1 hts gX4_takesClause_X4_takesWord rfl rfl rfl (by decide +kernel) ⟨Nat.le_of_ble_eq_true rfl, Nat.le_of_ble_eq_true rfl⟩) [0] rfl (by decide) (va_recv (q0 := 0) (ci := 4) hK hP rfl rfl) rfl hl rfl (Nat.le_of_ble_eq_true rfl) dX4_takesClause_71 ⟨Nat.zero_le _, Nat.zero_le _⟩ rfl rfl rfl (fun H locs hP hD hS => ?_)
            refine lv_if_eq (tgt := 85) hx hb dX4_takesClause_74 (by decide) (fun c74 => ?_) (fun c74 => ?_)
            · replace hm := it_t c74 hm
              refine lv_iconst (v := 0) hx hb dX4_takesClause_85 (by decide) ?_
              cases hm
              exact k_zret hx hb hr hlocks (by decide) hP hS dX4_takesClause_86
            · replace hm := it_f c74 hm
              refine lv_aload_n hx hb dX4_takesClause_77 rfl (lv_at hl 3 rfl) ?_
              refine lv_iconst (v := 0) hx hb dX4_takesClause_78 (by decide) ?_
              obtain ⟨r79, dat_79, bsorts_79, bletters_79, bnumbers_79, bsize_79, hc79, hm⟩ := bd6_e hm
              refine k_callXGVi (dC := dC) (dI := dI) (kc := kc) (As := [.int 0]) (rest := []) (Gs' := [wdX4 kc d_o d_text dtext dlength dat_79 dlibrary, wdX3 kc b_o b_sorts b_letters b_numbers bsorts_79 bletters_79 bnumbers_79 bsize_79 bbear]) hx hb hml hown hts hK hP hD hS hA xR_ok hX (ctX4_takesAnyOf (F := fX4_takesPart fu 6) (n := 6) (fu := fu) (d_o := d_o) (d_text := d_text) (b_o := b_o) (b_sorts := b_sorts) (b_letters := b_letters) (b_numbers := b_numbers) (dtext := dtext) (dlength := dlength) (dat := dat_71) (dlibrary := dlibrary) (bsorts := bsorts) (bletters := bletters) (bnumbers := bnumbers) (bsize := bsize) (bbear := bbear) (x1 := 0) (adK := adK) (adV := adV) (sf := sf) hFX4_takesPart hc79 hkdlibrary) (cwV 1 hts gX4_takesClause_X4_takesAnyOf rfl rfl rfl (by decide +kernel) ⟨Nat.le_of_ble_eq_true rfl, Nat.le_of_ble_eq_true rfl⟩) [0, 1] rfl (by decide) (va_recv (q0 := 0) (ci := 4) hK hP rfl rfl) rfl hl rfl (Nat.le_of_ble_eq_true rfl) dX4_takesClause_79 ⟨Nat.zero_le _, Nat.zero_le _⟩ rfl rfl rfl (fun H locs hP hD hS => ?_)
              refine lv_if_ne (tgt := 87) hx hb dX4_takesClause_82 (by decide) (fun c82 => ?_) (fun c82 => ?_)
              · replace hm := it_f c82 hm
                refine lv_aload_n hx hb dX4_takesClause_87 rfl (lv_at hl 3 rfl) ?_
                refine va_get (D := (dC, dI)) (ci := 4) (v := .ref b_o) (C := RX4) (T := TX4) (N := 4) hx hb hts hinX4_takesClause_X4 hown hK hP 0 rfl rfl 3 (by decide) (hts _ (List.mem_of_getElem? (i := 1) rfl)) (fun _ h9 => h9) (by show some (va_rf dlibrary) = some (.ref b_o); rw [hkdlibrary]; rfl) dX4_takesClause_88 ?_
                refine lv_iload_n hx hb dX4_takesClause_91 rfl (lv_at hl 1 rfl) ?_
                refine lv_if_eq (tgt := 100) hx hb dX4_takesClause_92 (by decide) (fun c92 => ?_) (fun c92 => ?_)
                · replace hm := it_t c92 hm
                  refine lv_bipush (v := 6) hx hb dX4_takesClause_100 (by decide) ?_
                  refine lv_iconst (v := 0) hx hb dX4_takesClause_102 (by decide) ?_
                  refine lv_iload_n hx hb dX4_takesClause_103 rfl (lv_at hl 0 rfl) ?_
                  obtain ⟨bsorts_104, bletters_104, bnumbers_104, bsize_104, hc104, hm⟩ := bd4_e hm
                  refine k_callGVv (dC := dC) (dI := dI) (kc := kc) (As := [.int 6, .int 0, .int r44]) (rest := []) (Gs' := [wdX4 kc d_o d_text dtext dlength dat_79 dlibrary, wdX3 kc b_o b_sorts b_letters b_numbers bsorts_104 bletters_104 bnumbers_104 bsize_104 bbear]) hx hb hml hown hts hK hP hD hS hA (ctX3_put (b_o := b_o) (b_sorts := b_sorts) (b_letters := b_letters) (b_numbers := b_numbers) (bsorts := bsorts_79) (bletters := bletters_79) (bnumbers := bnumbers_79) (bsize := bsize_79) (bbear := bbear) (x1 := 6) (x2 := 0) (x3 := r44) hc104) (cwV 3 hts gX4_takesClause_X3_put rfl rfl rfl (by decide +kernel) ⟨Nat.le_of_ble_eq_true rfl, Nat.le_of_ble_eq_true rfl⟩) [1] rfl (by decide) 3 rfl rfl rfl rfl hl rfl (Nat.le_of_ble_eq_true rfl) dX4_takesClause_104 ⟨Nat.zero_le _, Nat.zero_le _⟩ rfl rfl rfl (fun H locs hP hD hS => ?_)
                  refine lv_iconst (v := 1) hx hb dX4_takesClause_107 (by decide) ?_
                  cases hm
                  exact k_zret hx hb hr hlocks (by decide) hP hS dX4_takesClause_108
                · replace hm := it_f c92 hm
                  refine lv_bipush (v := 7) hx hb dX4_takesClause_95 (by decide) ?_
                  refine lv_goto (tgt := 102) hx hb dX4_takesClause_97 (by decide) ?_
                  refine lv_iconst (v := 0) hx hb dX4_takesClause_102 (by decide) ?_
                  refine lv_iload_n hx hb dX4_takesClause_103 rfl (lv_at hl 0 rfl) ?_
                  obtain ⟨bsorts_104, bletters_104, bnumbers_104, bsize_104, hc104, hm⟩ := bd4_e hm
                  refine k_callGVv (dC := dC) (dI := dI) (kc := kc) (As := [.int 7, .int 0, .int r44]) (rest := []) (Gs' := [wdX4 kc d_o d_text dtext dlength dat_79 dlibrary, wdX3 kc b_o b_sorts b_letters b_numbers bsorts_104 bletters_104 bnumbers_104 bsize_104 bbear]) hx hb hml hown hts hK hP hD hS hA (ctX3_put (b_o := b_o) (b_sorts := b_sorts) (b_letters := b_letters) (b_numbers := b_numbers) (bsorts := bsorts_79) (bletters := bletters_79) (bnumbers := bnumbers_79) (bsize := bsize_79) (bbear := bbear) (x1 := 7) (x2 := 0) (x3 := r44) hc104) (cwV 3 hts gX4_takesClause_X3_put rfl rfl rfl (by decide +kernel) ⟨Nat.le_of_ble_eq_true rfl, Nat.le_of_ble_eq_true rfl⟩) [1] rfl (by decide) 3 rfl rfl rfl rfl hl rfl (Nat.le_of_ble_eq_true rfl) dX4_takesClause_104 ⟨Nat.zero_le _, Nat.zero_le _⟩ rfl rfl rfl (fun H locs hP hD hS => ?_)
                  refine lv_iconst (v := 1) hx hb dX4_takesClause_107 (by decide) ?_
                  cases hm
                  exact k_zret hx hb hr hlocks (by decide) hP hS dX4_takesClause_108
              · replace hm := it_t c82 hm
                refine lv_iconst (v := 0) hx hb dX4_takesClause_85 (by decide) ?_
                cases hm
                exact k_zret hx hb hr hlocks (by decide) hP hS dX4_takesClause_86
          · replace hm := it_f c55 hm
            refine lv_aload_n hx hb dX4_takesClause_58 rfl (lv_at hl 3 rfl) ?_
            refine va_get (D := (dC, dI)) (ci := 4) (v := .ref b_o) (C := RX4) (T := TX4) (N := 4) hx hb hts hinX4_takesClause_X4 hown hK hP 0 rfl rfl 3 (by decide) (hts _ (List.mem_of_getElem? (i := 1) rfl)) (fun _ h9 => h9) (by show some (va_rf dlibrary) = some (.ref b_o); rw [hkdlibrary]; rfl) dX4_takesClause_59 ?_
            refine lv_iload_n hx hb dX4_takesClause_62 rfl (lv_at hl 0 rfl) ?_
            refine va_put (D := (dC, dI)) (ci := 3) (v := .int r44) (ty := .int) (C := RX3) (T := TX3) (N := 5) hx hb hts hinX4_takesClause_X3 tyX3 tyX3_ok nmX3 hown hK hP hD hS 2 rfl rfl 4 (by decide) (hts _ (List.mem_of_getElem? (i := 2) rfl)) (fun _ h9 => h9) rfl (by decide +kernel) rfl rfl (Nat.le_of_ble_eq_true rfl) dX4_takesClause_63 (fun H locs hP hD hS => ?_)
            have hP : va_P (dC, dI) vwCl (fl [wdX4 kc d_o d_text dtext dlength dat_44 dlibrary, wdX3 kc b_o b_sorts b_letters b_numbers bsorts bletters bnumbers bsize r44]) H := hP
            have hD : va_D A (fl [wdX4 kc d_o d_text dtext dlength dat_44 dlibrary, wdX3 kc b_o b_sorts b_letters b_numbers bsorts bletters bnumbers bsize r44]) := hD
            refine lv_iconst (v := 1) hx hb dX4_takesClause_66 (by decide) ?_
            cases hm
            exact k_zret hx hb hr hlocks (by decide) hP hS dX4_takesClause_67
        · replace hm := it_f c49 hm
          refine lv_iconst (v := 0) hx hb dX4_takesClause_52 (by decide) ?_
          cases hm
          exact k_zret hx hb hr hlocks (by decide) hP hS dX4_takesClause_53
      · replace hm := it_t c38 hm
        refine lv_iconst (v := 0) hx hb dX4_takesClause_41 (by decide) ?_
        cases hm
        exact k_zret hx hb hr hlocks (by decide) hP hS dX4_takesClause_42
    · replace hm := it_f c25 hm
      refine va_ldcS (index := 69) (tx := "down ") (q := adK 2) hx hb hown (hX.2 2 (by decide)) dX4_takesClause_28 ?_
      refine lv_goto (tgt := 35) hx hb dX4_takesClause_30 (by decide) ?_
      obtain ⟨r35, dat_35, hc35, hm⟩ := bd2_e hm
      refine k_callXGVi (dC := dC) (dI := dI) (kc := kc) (As := [.ref (adK 2)]) (rest := []) (Gs' := [wdX4 kc d_o d_text dtext dlength dat_35 dlibrary, wdX3 kc b_o b_sorts b_letters b_numbers bsorts bletters bnumbers bsize bbear]) hx hb hml hown hts hK hP hD hS hA xW_ok (hX.1 2 (by decide)) (ctX4_takesWord (d_o := d_o) (d_text := d_text) (s_q := (adK 2)) (s_v := (adV 2)) (dtext := dtext) (dlength := dlength) (dat := dat) (dlibrary := dlibrary) (sL := 5) (sb := (tx 2)) (sf := sf) hc35) (cwV 1 hts gX4_takesClause_X4_takesWord rfl rfl rfl (by decide +kernel) ⟨Nat.le_of_ble_eq_true rfl, Nat.le_of_ble_eq_true rfl⟩) [0] rfl (by decide) (va_recv (q0 := 0) (ci := 4) hK hP rfl rfl) rfl hl rfl (Nat.le_of_ble_eq_true rfl) dX4_takesClause_35 ⟨Nat.zero_le _, Nat.zero_le _⟩ rfl rfl rfl (fun H locs hP hD hS => ?_)
      refine lv_if_ne (tgt := 43) hx hb dX4_takesClause_38 (by decide) (fun c38 => ?_) (fun c38 => ?_)
      · replace hm := it_f c38 hm
        refine lv_aload_n hx hb dX4_takesClause_43 rfl (lv_at hl 2 rfl) ?_
        obtain ⟨r44, dat_44, hc44, hm⟩ := bd2_e hm
        refine k_callGVi (dC := dC) (dI := dI) (kc := kc) (As := []) (rest := []) (Gs' := [wdX4 kc d_o d_text dtext dlength dat_44 dlibrary, wdX3 kc b_o b_sorts b_letters b_numbers bsorts bletters bnumbers bsize bbear]) hx hb hml hown hts hK hP hD hS hA (ctX4_takesNumber (d_o := d_o) (d_text := d_text) (dtext := dtext) (dlength := dlength) (dat := dat_35) (dlibrary := dlibrary) hc44) (cwV 0 hts gX4_takesClause_X4_takesNumber rfl rfl rfl (by decide +kernel) ⟨Nat.le_of_ble_eq_true rfl, Nat.le_of_ble_eq_true rfl⟩) [0] rfl (by decide) 4 rfl rfl rfl rfl hl rfl (Nat.le_of_ble_eq_true rfl) dX4_takesClause_44 ⟨Nat.zero_le _, Nat.zero_le _⟩ rfl rfl rfl (fun H locs hP hD hS => ?_)
        refine lv_istore_n (lv' := [(3, .int r44), (2, .int r10), (1, .int r3), (0, .ref d_o)]) hx hb dX4_takesClause_47 rfl hl (by decide) rfl (fun ls hl => ?_)
        refine lv_iload_n hx hb dX4_takesClause_48 rfl (lv_at hl 0 rfl) ?_
        refine lv_if_ge (tgt := 54) hx hb dX4_takesClause_49 (by decide) (fun c49 => ?_) (fun c49 => ?_)
        · replace hm := it_t c49 hm
          refine lv_iload_n hx hb dX4_takesClause_54 rfl (lv_at hl 2 rfl) ?_
          refine lv_if_eq (tgt := 68) hx hb dX4_takesClause_55 (by decide) (fun c55 => ?_) (fun c55 => ?_)
          · replace hm := it_t c55 hm
            refine lv_aload_n hx hb dX4_takesClause_68 rfl (lv_at hl 3 rfl) ?_
            refine va_ldcS (index := 79) (tx := " ") (q := adK 4) hx hb hown (hX.2 4 (by decide)) dX4_takesClause_69 ?_
            obtain ⟨r71, dat_71, hc71, hm⟩ := bd2_e hm
            refine k_callXGVi (dC := dC) (dI := dI) (kc := kc) (As := [.ref (adK 4)]) (rest := []) (Gs' := [wdX4 kc d_o d_text dtext dlength dat_71 dlibrary, wdX3 kc b_o b_sorts b_letters b_numbers bsorts bletters bnumbers bsize bbear]) hx hb hml hown hts hK hP hD hS hA xW_ok (hX.1 4 (by decide)) (ctX4_takesWord (d_o := d_o) (d_text := d_text) (s_q := (adK 4)) (s_v := (adV 4)) (dtext := dtext) (dlength := dlength) (dat := dat_44) (dlibrary := dlibrary) (sL := 1) (sb := (tx 4)) (sf := sf) hc71) (cwV 1 hts gX4_takesClause_X4_takesWord rfl rfl rfl (by decide +kernel) ⟨Nat.le_of_ble_eq_true rfl, Nat.le_of_ble_eq_true rfl⟩) [0] rfl (by decide) (va_recv (q0 := 0) (ci := 4) hK hP rfl rfl) rfl hl rfl (Nat.le_of_ble_eq_true rfl) dX4_takesClause_71 ⟨Nat.zero_le _, Nat.zero_le _⟩ rfl rfl rfl (fun H locs hP hD hS => ?_)
            refine lv_if_eq (tgt := 85) hx hb dX4_takesClause_74 (by decide) (fun c74 => ?_) (fun c74 => ?_)
            · replace hm := it_t c74 hm
              refine lv_iconst (v := 0) hx hb dX4_takesClause_85 (by decide) ?_
              cases hm
              exact k_zret hx hb hr hlocks (by decide) hP hS dX4_takesClause_86
            · replace hm := it_f c74 hm
              refine lv_aload_n hx hb dX4_takesClause_77 rfl (lv_at hl 3 rfl) ?_
              refine lv_iconst (v := 0) hx hb dX4_takesClause_78 (by decide) ?_
              obtain ⟨r79, dat_79, bsorts_79, bletters_79, bnumbers_79, bsize_79, hc79, hm⟩ := bd6_e hm
              refine k_callXGVi (dC := dC) (dI := dI) (kc := kc) (As := [.int 0]) (rest := []) (Gs' := [wdX4 kc d_o d_text dtext dlength dat_79 dlibrary, wdX3 kc b_o b_sorts b_letters b_numbers bsorts_79 bletters_79 bnumbers_79 bsize_79 bbear]) hx hb hml hown hts hK hP hD hS hA xR_ok hX (ctX4_takesAnyOf (F := fX4_takesPart fu 6) (n := 6) (fu := fu) (d_o := d_o) (d_text := d_text) (b_o := b_o) (b_sorts := b_sorts) (b_letters := b_letters) (b_numbers := b_numbers) (dtext := dtext) (dlength := dlength) (dat := dat_71) (dlibrary := dlibrary) (bsorts := bsorts) (bletters := bletters) (bnumbers := bnumbers) (bsize := bsize) (bbear := bbear) (x1 := 0) (adK := adK) (adV := adV) (sf := sf) hFX4_takesPart hc79 hkdlibrary) (cwV 1 hts gX4_takesClause_X4_takesAnyOf rfl rfl rfl (by decide +kernel) ⟨Nat.le_of_ble_eq_true rfl, Nat.le_of_ble_eq_true rfl⟩) [0, 1] rfl (by decide) (va_recv (q0 := 0) (ci := 4) hK hP rfl rfl) rfl hl rfl (Nat.le_of_ble_eq_true rfl) dX4_takesClause_79 ⟨Nat.zero_le _, Nat.zero_le _⟩ rfl rfl rfl (fun H locs hP hD hS => ?_)
              refine lv_if_ne (tgt := 87) hx hb dX4_takesClause_82 (by decide) (fun c82 => ?_) (fun c82 => ?_)
              · replace hm := it_f c82 hm
                refine lv_aload_n hx hb dX4_takesClause_87 rfl (lv_at hl 3 rfl) ?_
                refine va_get (D := (dC, dI)) (ci := 4) (v := .ref b_o) (C := RX4) (T := TX4) (N := 4) hx hb hts hinX4_takesClause_X4 hown hK hP 0 rfl rfl 3 (by decide) (hts _ (List.mem_of_getElem? (i := 1) rfl)) (fun _ h9 => h9) (by show some (va_rf dlibrary) = some (.ref b_o); rw [hkdlibrary]; rfl) dX4_takesClause_88 ?_
                refine lv_iload_n hx hb dX4_takesClause_91 rfl (lv_at hl 1 rfl) ?_
                refine lv_if_eq (tgt := 100) hx hb dX4_takesClause_92 (by decide) (fun c92 => ?_) (fun c92 => ?_)
                · replace hm := it_t c92 hm
                  refine lv_bipush (v := 6) hx hb dX4_takesClause_100 (by decide) ?_
                  refine lv_iconst (v := 0) hx hb dX4_takesClause_102 (by decide) ?_
                  refine lv_iload_n hx hb dX4_takesClause_103 rfl (lv_at hl 0 rfl) ?_
                  obtain ⟨bsorts_104, bletters_104, bnumbers_104, bsize_104, hc104, hm⟩ := bd4_e hm
                  refine k_callGVv (dC := dC) (dI := dI) (kc := kc) (As := [.int 6, .int 0, .int r44]) (rest := []) (Gs' := [wdX4 kc d_o d_text dtext dlength dat_79 dlibrary, wdX3 kc b_o b_sorts b_letters b_numbers bsorts_104 bletters_104 bnumbers_104 bsize_104 bbear]) hx hb hml hown hts hK hP hD hS hA (ctX3_put (b_o := b_o) (b_sorts := b_sorts) (b_letters := b_letters) (b_numbers := b_numbers) (bsorts := bsorts_79) (bletters := bletters_79) (bnumbers := bnumbers_79) (bsize := bsize_79) (bbear := bbear) (x1 := 6) (x2 := 0) (x3 := r44) hc104) (cwV 3 hts gX4_takesClause_X3_put rfl rfl rfl (by decide +kernel) ⟨Nat.le_of_ble_eq_true rfl, Nat.le_of_ble_eq_true rfl⟩) [1] rfl (by decide) 3 rfl rfl rfl rfl hl rfl (Nat.le_of_ble_eq_true rfl) dX4_takesClause_104 ⟨Nat.zero_le _, Nat.zero_le _⟩ rfl rfl rfl (fun H locs hP hD hS => ?_)
                  refine lv_iconst (v := 1) hx hb dX4_takesClause_107 (by decide) ?_
                  cases hm
                  exact k_zret hx hb hr hlocks (by decide) hP hS dX4_takesClause_108
                · replace hm := it_f c92 hm
                  refine lv_bipush (v := 7) hx hb dX4_takesClause_95 (by decide) ?_
                  refine lv_goto (tgt := 102) hx hb dX4_takesClause_97 (by decide) ?_
                  refine lv_iconst (v := 0) hx hb dX4_takesClause_102 (by decide) ?_
                  refine lv_iload_n hx hb dX4_takesClause_103 rfl (lv_at hl 0 rfl) ?_
                  obtain ⟨bsorts_104, bletters_104, bnumbers_104, bsize_104, hc104, hm⟩ := bd4_e hm
                  refine k_callGVv (dC := dC) (dI := dI) (kc := kc) (As := [.int 7, .int 0, .int r44]) (rest := []) (Gs' := [wdX4 kc d_o d_text dtext dlength dat_79 dlibrary, wdX3 kc b_o b_sorts b_letters b_numbers bsorts_104 bletters_104 bnumbers_104 bsize_104 bbear]) hx hb hml hown hts hK hP hD hS hA (ctX3_put (b_o := b_o) (b_sorts := b_sorts) (b_letters := b_letters) (b_numbers := b_numbers) (bsorts := bsorts_79) (bletters := bletters_79) (bnumbers := bnumbers_79) (bsize := bsize_79) (bbear := bbear) (x1 := 7) (x2 := 0) (x3 := r44) hc104) (cwV 3 hts gX4_takesClause_X3_put rfl rfl rfl (by decide +kernel) ⟨Nat.le_of_ble_eq_true rfl, Nat.le_of_ble_eq_true rfl⟩) [1] rfl (by decide) 3 rfl rfl rfl rfl hl rfl (Nat.le_of_ble_eq_true rfl) dX4_takesClause_104 ⟨Nat.zero_le _, Nat.zero_le _⟩ rfl rfl rfl (fun H locs hP hD hS => ?_)
                  refine lv_iconst (v := 1) hx hb dX4_takesClause_107 (by decide) ?_
                  cases hm
                  exact k_zret hx hb hr hlocks (by decide) hP hS dX4_takesClause_108
              · replace hm := it_t c82 hm
                refine lv_iconst (v := 0) hx hb dX4_takesClause_85 (by decide) ?_
                cases hm
                exact k_zret hx hb hr hlocks (by decide) hP hS dX4_takesClause_86
          · replace hm := it_f c55 hm
            refine lv_aload_n hx hb dX4_takesClause_58 rfl (lv_at hl 3 rfl) ?_
            refine va_get (D := (dC, dI)) (ci := 4) (v := .ref b_o) (C := RX4) (T := TX4) (N := 4) hx hb hts hinX4_takesClause_X4 hown hK hP 0 rfl rfl 3 (by decide) (hts _ (List.mem_of_getElem? (i := 1) rfl)) (fun _ h9 => h9) (by show some (va_rf dlibrary) = some (.ref b_o); rw [hkdlibrary]; rfl) dX4_takesClause_59 ?_
            refine lv_iload_n hx hb dX4_takesClause_62 rfl (lv_at hl 0 rfl) ?_
            refine va_put (D := (dC, dI)) (ci := 3) (v := .int r44) (ty := .int) (C := RX3) (T := TX3) (N := 5) hx hb hts hinX4_takesClause_X3 tyX3 tyX3_ok nmX3 hown hK hP hD hS 2 rfl rfl 4 (by decide) (hts _ (List.mem_of_getElem? (i := 2) rfl)) (fun _ h9 => h9) rfl (by decide +kernel) rfl rfl (Nat.le_of_ble_eq_true rfl) dX4_takesClause_63 (fun H locs hP hD hS => ?_)
            have hP : va_P (dC, dI) vwCl (fl [wdX4 kc d_o d_text dtext dlength dat_44 dlibrary, wdX3 kc b_o b_sorts b_letters b_numbers bsorts bletters bnumbers bsize r44]) H := hP
            have hD : va_D A (fl [wdX4 kc d_o d_text dtext dlength dat_44 dlibrary, wdX3 kc b_o b_sorts b_letters b_numbers bsorts bletters bnumbers bsize r44]) := hD
            refine lv_iconst (v := 1) hx hb dX4_takesClause_66 (by decide) ?_
            cases hm
            exact k_zret hx hb hr hlocks (by decide) hP hS dX4_takesClause_67
        · replace hm := it_f c49 hm
          refine lv_iconst (v := 0) hx hb dX4_takesClause_52 (by decide) ?_
          cases hm
          exact k_zret hx hb hr hlocks (by decide) hP hS dX4_takesClause_53
      · replace hm := it_t c38 hm
        refine lv_iconst (v := 0) hx hb dX4_takesClause_41 (by decide) ?_
        cases hm
        exact k_zret hx hb hr hlocks (by decide) hP hS dX4_takesClause_42
  · replace hm := it_f c16 hm
    refine va_ldcS (index := 67) (tx := "bear ") (q := adK 1) hx hb hown (hX.2 1 (by decide)) dX4_takesClause_19 ?_
    refine lv_goto (tgt := 35) hx hb dX4_takesClause_21 (by decide) ?_
    obtain ⟨r35, dat_35, hc35, hm⟩ := bd2_e hm
    refine k_callXGVi (dC := dC) (dI := dI) (kc := kc) (As := [.ref (adK 1)]) (rest := []) (Gs' := [wdX4 kc d_o d_text dtext dlength dat_35 dlibrary, wdX3 kc b_o b_sorts b_letters b_numbers bsorts bletters bnumbers bsize bbear]) hx hb hml hown hts hK hP hD hS hA xW_ok (hX.1 1 (by decide)) (ctX4_takesWord (d_o := d_o) (d_text := d_text) (s_q := (adK 1)) (s_v := (adV 1)) (dtext := dtext) (dlength := dlength) (dat := dat) (dlibrary := dlibrary) (sL := 5) (sb := (tx 1)) (sf := sf) hc35) (cwV 1 hts gX4_takesClause_X4_takesWord rfl rfl rfl (by decide +kernel) ⟨Nat.le_of_ble_eq_true rfl, Nat.le_of_ble_eq_true rfl⟩) [0] rfl (by decide) (va_recv (q0 := 0) (ci := 4) hK hP rfl rfl) rfl hl rfl (Nat.le_of_ble_eq_true rfl) dX4_takesClause_35 ⟨Nat.zero_le _, Nat.zero_le _⟩ rfl rfl rfl (fun H locs hP hD hS => ?_)
    refine lv_if_ne (tgt := 43) hx hb dX4_takesClause_38 (by decide) (fun c38 => ?_) (fun c38 => ?_)
    · replace hm := it_f c38 hm
      refine lv_aload_n hx hb dX4_takesClause_43 rfl (lv_at hl 2 rfl) ?_
      obtain ⟨r44, dat_44, hc44, hm⟩ := bd2_e hm
      refine k_callGVi (dC := dC) (dI := dI) (kc := kc) (As := []) (rest := []) (Gs' := [wdX4 kc d_o d_text dtext dlength dat_44 dlibrary, wdX3 kc b_o b_sorts b_letters b_numbers bsorts bletters bnumbers bsize bbear]) hx hb hml hown hts hK hP hD hS hA (ctX4_takesNumber (d_o := d_o) (d_text := d_text) (dtext := dtext) (dlength := dlength) (dat := dat_35) (dlibrary := dlibrary) hc44) (cwV 0 hts gX4_takesClause_X4_takesNumber rfl rfl rfl (by decide +kernel) ⟨Nat.le_of_ble_eq_true rfl, Nat.le_of_ble_eq_true rfl⟩) [0] rfl (by decide) 4 rfl rfl rfl rfl hl rfl (Nat.le_of_ble_eq_true rfl) dX4_takesClause_44 ⟨Nat.zero_le _, Nat.zero_le _⟩ rfl rfl rfl (fun H locs hP hD hS => ?_)
      refine lv_istore_n (lv' := [(3, .int r44), (2, .int r10), (1, .int r3), (0, .ref d_o)]) hx hb dX4_takesClause_47 rfl hl (by decide) rfl (fun ls hl => ?_)
      refine lv_iload_n hx hb dX4_takesClause_48 rfl (lv_at hl 0 rfl) ?_
      refine lv_if_ge (tgt := 54) hx hb dX4_takesClause_49 (by decide) (fun c49 => ?_) (fun c49 => ?_)
      · replace hm := it_t c49 hm
        refine lv_iload_n hx hb dX4_takesClause_54 rfl (lv_at hl 2 rfl) ?_
        refine lv_if_eq (tgt := 68) hx hb dX4_takesClause_55 (by decide) (fun c55 => ?_) (fun c55 => ?_)
        · replace hm := it_t c55 hm
          refine lv_aload_n hx hb dX4_takesClause_68 rfl (lv_at hl 3 rfl) ?_
          refine va_ldcS (index := 79) (tx := " ") (q := adK 4) hx hb hown (hX.2 4 (by decide)) dX4_takesClause_69 ?_
          obtain ⟨r71, dat_71, hc71, hm⟩ := bd2_e hm
          refine k_callXGVi (dC := dC) (dI := dI) (kc := kc) (As := [.ref (adK 4)]) (rest := []) (Gs' := [wdX4 kc d_o d_text dtext dlength dat_71 dlibrary, wdX3 kc b_o b_sorts b_letters b_numbers bsorts bletters bnumbers bsize bbear]) hx hb hml hown hts hK hP hD hS hA xW_ok (hX.1 4 (by decide)) (ctX4_takesWord (d_o := d_o) (d_text := d_text) (s_q := (adK 4)) (s_v := (adV 4)) (dtext := dtext) (dlength := dlength) (dat := dat_44) (dlibrary := dlibrary) (sL := 1) (sb := (tx 4)) (sf := sf) hc71) (cwV 1 hts gX4_takesClause_X4_takesWord rfl rfl rfl (by decide +kernel) ⟨Nat.le_of_ble_eq_true rfl, Nat.le_of_ble_eq_true rfl⟩) [0] rfl (by decide) (va_recv (q0 := 0) (ci := 4) hK hP rfl rfl) rfl hl rfl (Nat.le_of_ble_eq_true rfl) dX4_takesClause_71 ⟨Nat.zero_le _, Nat.zero_le _⟩ rfl rfl rfl (fun H locs hP hD hS => ?_)
          refine lv_if_eq (tgt := 85) hx hb dX4_takesClause_74 (by decide) (fun c74 => ?_) (fun c74 => ?_)
          · replace hm := it_t c74 hm
            refine lv_iconst (v := 0) hx hb dX4_takesClause_85 (by decide) ?_
            cases hm
            exact k_zret hx hb hr hlocks (by decide) hP hS dX4_takesClause_86
          · replace hm := it_f c74 hm
            refine lv_aload_n hx hb dX4_takesClause_77 rfl (lv_at hl 3 rfl) ?_
            refine lv_iconst (v := 0) hx hb dX4_takesClause_78 (by decide) ?_
            obtain ⟨r79, dat_79, bsorts_79, bletters_79, bnumbers_79, bsize_79, hc79, hm⟩ := bd6_e hm
            refine k_callXGVi (dC := dC) (dI := dI) (kc := kc) (As := [.int 0]) (rest := []) (Gs' := [wdX4 kc d_o d_text dtext dlength dat_79 dlibrary, wdX3 kc b_o b_sorts b_letters b_numbers bsorts_79 bletters_79 bnumbers_79 bsize_79 bbear]) hx hb hml hown hts hK hP hD hS hA xR_ok hX (ctX4_takesAnyOf (F := fX4_takesPart fu 6) (n := 6) (fu := fu) (d_o := d_o) (d_text := d_text) (b_o := b_o) (b_sorts := b_sorts) (b_letters := b_letters) (b_numbers := b_numbers) (dtext := dtext) (dlength := dlength) (dat := dat_71) (dlibrary := dlibrary) (bsorts := bsorts) (bletters := bletters) (bnumbers := bnumbers) (bsize := bsize) (bbear := bbear) (x1 := 0) (adK := adK) (adV := adV) (sf := sf) hFX4_takesPart hc79 hkdlibrary) (cwV 1 hts gX4_takesClause_X4_takesAnyOf rfl rfl rfl (by decide +kernel) ⟨Nat.le_of_ble_eq_true rfl, Nat.le_of_ble_eq_true rfl⟩) [0, 1] rfl (by decide) (va_recv (q0 := 0) (ci := 4) hK hP rfl rfl) rfl hl rfl (Nat.le_of_ble_eq_true rfl) dX4_takesClause_79 ⟨Nat.zero_le _, Nat.zero_le _⟩ rfl rfl rfl (fun H locs hP hD hS => ?_)
            refine lv_if_ne (tgt := 87) hx hb dX4_takesClause_82 (by decide) (fun c82 => ?_) (fun c82 => ?_)
            · replace hm := it_f c82 hm
              refine lv_aload_n hx hb dX4_takesClause_87 rfl (lv_at hl 3 rfl) ?_
              refine va_get (D := (dC, dI)) (ci := 4) (v := .ref b_o) (C := RX4) (T := TX4) (N := 4) hx hb hts hinX4_takesClause_X4 hown hK hP 0 rfl rfl 3 (by decide) (hts _ (List.mem_of_getElem? (i := 1) rfl)) (fun _ h9 => h9) (by show some (va_rf dlibrary) = some (.ref b_o); rw [hkdlibrary]; rfl) dX4_takesClause_88 ?_
              refine lv_iload_n hx hb dX4_takesClause_91 rfl (lv_at hl 1 rfl) ?_
              refine lv_if_eq (tgt := 100) hx hb dX4_takesClause_92 (by decide) (fun c92 => ?_) (fun c92 => ?_)
              · replace hm := it_t c92 hm
                refine lv_bipush (v := 6) hx hb dX4_takesClause_100 (by decide) ?_
                refine lv_iconst (v := 0) hx hb dX4_takesClause_102 (by decide) ?_
                refine lv_iload_n hx hb dX4_takesClause_103 rfl (lv_at hl 0 rfl) ?_
                obtain ⟨bsorts_104, bletters_104, bnumbers_104, bsize_104, hc104, hm⟩ := bd4_e hm
                refine k_callGVv (dC := dC) (dI := dI) (kc := kc) (As := [.int 6, .int 0, .int r44]) (rest := []) (Gs' := [wdX4 kc d_o d_text dtext dlength dat_79 dlibrary, wdX3 kc b_o b_sorts b_letters b_numbers bsorts_104 bletters_104 bnumbers_104 bsize_104 bbear]) hx hb hml hown hts hK hP hD hS hA (ctX3_put (b_o := b_o) (b_sorts := b_sorts) (b_letters := b_letters) (b_numbers := b_numbers) (bsorts := bsorts_79) (bletters := bletters_79) (bnumbers := bnumbers_79) (bsize := bsize_79) (bbear := bbear) (x1 := 6) (x2 := 0) (x3 := r44) hc104) (cwV 3 hts gX4_takesClause_X3_put rfl rfl rfl (by decide +kernel) ⟨Nat.le_of_ble_eq_true rfl, Nat.le_of_ble_eq_true rfl⟩) [1] rfl (by decide) 3 rfl rfl rfl rfl hl rfl (Nat.le_of_ble_eq_true rfl) dX4_takesClause_104 ⟨Nat.zero_le _, Nat.zero_le _⟩ rfl rfl rfl (fun H locs hP hD hS => ?_)
                refine lv_iconst (v := 1) hx hb dX4_takesClause_107 (by decide) ?_
                cases hm
                exact k_zret hx hb hr hlocks (by decide) hP hS dX4_takesClause_108
              · replace hm := it_f c92 hm
                refine lv_bipush (v := 7) hx hb dX4_takesClause_95 (by decide) ?_
                refine lv_goto (tgt := 102) hx hb dX4_takesClause_97 (by decide) ?_
                refine lv_iconst (v := 0) hx hb dX4_takesClause_102 (by decide) ?_
                refine lv_iload_n hx hb dX4_takesClause_103 rfl (lv_at hl 0 rfl) ?_
                obtain ⟨bsorts_104, bletters_104, bnumbers_104, bsize_104, hc104, hm⟩ := bd4_e hm
                refine k_callGVv (dC := dC) (dI := dI) (kc := kc) (As := [.int 7, .int 0, .int r44]) (rest := []) (Gs' := [wdX4 kc d_o d_text dtext dlength dat_79 dlibrary, wdX3 kc b_o b_sorts b_letters b_numbers bsorts_104 bletters_104 bnumbers_104 bsize_104 bbear]) hx hb hml hown hts hK hP hD hS hA (ctX3_put (b_o := b_o) (b_sorts := b_sorts) (b_letters := b_letters) (b_numbers := b_numbers) (bsorts := bsorts_79) (bletters := bletters_79) (bnumbers := bnumbers_79) (bsize := bsize_79) (bbear := bbear) (x1 := 7) (x2 := 0) (x3 := r44) hc104) (cwV 3 hts gX4_takesClause_X3_put rfl rfl rfl (by decide +kernel) ⟨Nat.le_of_ble_eq_true rfl, Nat.le_of_ble_eq_true rfl⟩) [1] rfl (by decide) 3 rfl rfl rfl rfl hl rfl (Nat.le_of_ble_eq_true rfl) dX4_takesClause_104 ⟨Nat.zero_le _, Nat.zero_le _⟩ rfl rfl rfl (fun H locs hP hD hS => ?_)
                refine lv_iconst (v := 1) hx hb dX4_takesClause_107 (by decide) ?_
                cases hm
                exact k_zret hx hb hr hlocks (by decide) hP hS dX4_takesClause_108
            · replace hm := it_t c82 hm
              refine lv_iconst (v := 0) hx hb dX4_takesClause_85 (by decide) ?_
              cases hm
              exact k_zret hx hb hr hlocks (by decide) hP hS dX4_takesClause_86
        · replace hm := it_f c55 hm
          refine lv_aload_n hx hb dX4_takesClause_58 rfl (lv_at hl 3 rfl) ?_
          refine va_get (D := (dC, dI)) (ci := 4) (v := .ref b_o) (C := RX4) (T := TX4) (N := 4) hx hb hts hinX4_takesClause_X4 hown hK hP 0 rfl rfl 3 (by decide) (hts _ (List.mem_of_getElem? (i := 1) rfl)) (fun _ h9 => h9) (by show some (va_rf dlibrary) = some (.ref b_o); rw [hkdlibrary]; rfl) dX4_takesClause_59 ?_
          refine lv_iload_n hx hb dX4_takesClause_62 rfl (lv_at hl 0 rfl) ?_
          refine va_put (D := (dC, dI)) (ci := 3) (v := .int r44) (ty := .int) (C := RX3) (T := TX3) (N := 5) hx hb hts hinX4_takesClause_X3 tyX3 tyX3_ok nmX3 hown hK hP hD hS 2 rfl rfl 4 (by decide) (hts _ (List.mem_of_getElem? (i := 2) rfl)) (fun _ h9 => h9) rfl (by decide +kernel) rfl rfl (Nat.le_of_ble_eq_true rfl) dX4_takesClause_63 (fun H locs hP hD hS => ?_)
          have hP : va_P (dC, dI) vwCl (fl [wdX4 kc d_o d_text dtext dlength dat_44 dlibrary, wdX3 kc b_o b_sorts b_letters b_numbers bsorts bletters bnumbers bsize r44]) H := hP
          have hD : va_D A (fl [wdX4 kc d_o d_text dtext dlength dat_44 dlibrary, wdX3 kc b_o b_sorts b_letters b_numbers bsorts bletters bnumbers bsize r44]) := hD
          refine lv_iconst (v := 1) hx hb dX4_takesClause_66 (by decide) ?_
          cases hm
          exact k_zret hx hb hr hlocks (by decide) hP hS dX4_takesClause_67
      · replace hm := it_f c49 hm
        refine lv_iconst (v := 0) hx hb dX4_takesClause_52 (by decide) ?_
        cases hm
        exact k_zret hx hb hr hlocks (by decide) hP hS dX4_takesClause_53
    · replace hm := it_t c38 hm
      refine lv_iconst (v := 0) hx hb dX4_takesClause_41 (by decide) ?_
      cases hm
      exact k_zret hx hb hr hlocks (by decide) hP hS dX4_takesClause_42
