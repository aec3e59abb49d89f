abbrev rmX4_takesPart (n : Nat) : Room := { frames := 40 * n, cells := 0, slots := 0, locals := 1000 * n }
def HFX4_takesPart (l : Launch) (dC : Nat → ClassId) (dI : Nat → Nat → Nat) (kc : Nat → ClassId) (d_o d_text b_o b_sorts b_letters b_numbers : Nat) (adK adV : Nat → Nat) (sf : Option Nat) (F : (Nat → Int32) → Int32 → Int32 → (Option Nat) → (Nat → Int32) → (Nat → Int32) → (Nat → Int32) → Int32 → Int32 → Option (Int32 × Int32 × (Nat → Int32) × (Nat → Int32) × (Nat → Int32) × Int32)) (n : Nat) : Prop := ∀ (dtext : Nat → Int32) (dlength : Int32) (dat : Int32) (dlibrary : Option Nat) (bsorts : Nat → Int32) (bletters : Nat → Int32) (bnumbers : Nat → Int32) (bsize : Int32) (bbear : Int32) (x1 : Int32) (r : Int32) (dat' : Int32) (bsorts' : Nat → Int32) (bletters' : Nat → Int32) (bnumbers' : Nat → Int32) (bsize' : Int32), F dtext dlength dat dlibrary bsorts bletters bnumbers bsize x1 = some (r, dat', bsorts', bletters', bnumbers', bsize') → dlibrary = some b_o → ∀ sz : Nat, Met l yX4_takesPart wsX4_takesPart (rmX4_takesPart n) (kPcX dC dI kc (xR adK adV sf) [.ref d_o, .int x1] (fl [wdX4 kc d_o d_text dtext dlength dat dlibrary, wdX3 kc b_o b_sorts b_letters b_numbers bsorts bletters bnumbers bsize bbear]) sz) (kQi dC dI r (fl [wdX4 kc d_o d_text dtext dlength dat' dlibrary, wdX3 kc b_o b_sorts b_letters b_numbers bsorts' bletters' bnumbers' bsize' bbear]) (va_A (fl [wdX4 kc d_o d_text dtext dlength dat dlibrary, wdX3 kc b_o b_sorts b_letters b_numbers bsorts bletters bnumbers bsize bbear]) sz)) 0 0 (va_A (fl [wdX4 kc d_o d_text dtext dlength dat dlibrary, wdX3 kc b_o b_sorts b_letters b_numbers bsorts bletters bnumbers bsize bbear]) sz)
def LX4_takesAllOf_12 (F : (Nat → Int32) → Int32 → Int32 → (Option Nat) → (Nat → Int32) → (Nat → Int32) → (Nat → Int32) → Int32 → Int32 → Option (Int32 × Int32 × (Nat → Int32) × (Nat → Int32) × (Nat → Int32) × Int32)) (dtext : Nat → Int32) (dlength : Int32) (dlibrary : Option Nat) (x1 : Int32) : Nat → Int32 → Int32 → (Nat → Int32) → (Nat → Int32) → (Nat → Int32) → Int32 → Option (Int32 × Int32 × (Nat → Int32) × (Nat → Int32) × (Nat → Int32) × Int32)
  | 0, _, _, _, _, _, _ => none
  | n12 + 1, l2_12, dat_12, bsorts_12, bletters_12, bnumbers_12, bsize_12 => if 100 ≤ l2_12 then (some ((1 : Int32), dat_12, bsorts_12, bletters_12, bnumbers_12, bsize_12)) else (bd1 (fX4_isAt dtext dlength dat_12 38) (fun r21 => if r21 = 0 then (some ((1 : Int32), dat_12, bsorts_12, bletters_12, bnumbers_12, bsize_12)) else (bd6 (F dtext dlength (dat_12 + 1) dlibrary bsorts_12 bletters_12 bnumbers_12 bsize_12 x1) (fun r39 dat_39 bsorts_39 bletters_39 bnumbers_39 bsize_39 => if r39 = 0 then (some ((0 : Int32), dat_39, bsorts_39, bletters_39, bnumbers_39, bsize_39)) else (bd4 (fX3_put bsorts_39 bletters_39 bnumbers_39 bsize_39 4 0 0) (fun bsorts_54 bletters_54 bnumbers_54 bsize_54 => LX4_takesAllOf_12 F dtext dlength dlibrary x1 n12 (l2_12 + 1) dat_39 bsorts_54 bletters_54 bnumbers_54 bsize_54))))))
def fX4_takesAllOf (F : (Nat → Int32) → Int32 → Int32 → (Option Nat) → (Nat → Int32) → (Nat → Int32) → (Nat → Int32) → Int32 → Int32 → Option (Int32 × Int32 × (Nat → Int32) × (Nat → Int32) × (Nat → Int32) × Int32)) (fu : Nat) (dtext : Nat → Int32) (dlength : Int32) (dat : Int32) (dlibrary : Option Nat) (bsorts : Nat → Int32) (bletters : Nat → Int32) (bnumbers : Nat → Int32) (bsize : Int32) (x1 : Int32) : Option (Int32 × Int32 × (Nat → Int32) × (Nat → Int32) × (Nat → Int32) × Int32) := bd6 (F dtext dlength dat dlibrary bsorts bletters bnumbers bsize x1) (fun r2 dat_2 bsorts_2 bletters_2 bnumbers_2 bsize_2 => if r2 = 0 then (some ((0 : Int32), dat_2, bsorts_2, bletters_2, bnumbers_2, bsize_2)) else (LX4_takesAllOf_12 F dtext dlength dlibrary x1 fu 0 dat_2 bsorts_2 bletters_2 bnumbers_2 bsize_2))
theorem hinX4_takesAllOf_X4 : ∀ w ∈ u_ws RX4 TX4 4, w ∈ wsX4_takesAllOf := fun _ h => List.mem_cons_of_mem _ (List.mem_append_left _ (List.mem_append_right _ h))
abbrev rmX4_takesAllOf (n : Nat) : Room := { frames := 40 * n + 12, cells := 0, slots := 0, locals := 1000 * n + 700 }
set_option maxHeartbeats 4000000 in
set_option maxRecDepth 100000 in
theorem ctX4_takesAllOf {l : Launch} {dC : Nat → ClassId} {dI : Nat → Nat → Nat} {kc : Nat → ClassId} {d_o d_text b_o b_sorts b_letters b_numbers : Nat} {adK adV : Nat → Nat} {sf : Option Nat} {dtext : Nat → Int32} {dlength : Int32} {dat : Int32} {dlibrary : Option Nat} {bsorts : Nat → Int32} {bletters : Nat → Int32} {bnumbers : Nat → Int32} {bsize : Int32} {bbear : Int32} {x1 : Int32} {fu : Nat} {r : Int32} {dat' : Int32} {bsorts' : Nat → Int32} {bletters' : Nat → Int32} {bnumbers' : Nat → Int32} {bsize' : Int32} {F : (Nat → Int32) → Int32 → Int32 → (Option Nat) → (Nat → Int32) → (Nat → Int32) → (Nat → Int32) → Int32 → Int32 → Option (Int32 × Int32 × (Nat → Int32) × (Nat → Int32) × (Nat → Int32) × Int32)} {n : Nat} (hF : HFX4_takesPart l dC dI kc d_o d_text b_o b_sorts b_letters b_numbers adK adV sf F n) (hm : fX4_takesAllOf F fu dtext dlength dat dlibrary bsorts bletters bnumbers bsize x1 = some (r, dat', bsorts', bletters', bnumbers', bsize')) (hkdlibrary : dlibrary = some b_o) : ∀ sz : Nat, Met l yX4_takesAllOf wsX4_takesAllOf (rmX4_takesAllOf n) (kPcX dC dI kc (xR adK adV sf) [.ref d_o, .int x1] (fl [wdX4 kc d_o d_text dtext dlength dat dlibrary, wdX3 kc b_o b_sorts b_letters b_numbers bsorts bletters bnumbers bsize bbear]) sz) (kQi dC dI r (fl [wdX4 kc d_o d_text dtext dlength dat' dlibrary, wdX3 kc b_o b_sorts b_letters b_numbers bsorts' bletters' bnumbers' bsize' bbear]) (va_A (fl [wdX4 kc d_o d_text dtext dlength dat dlibrary, wdX3 kc b_o b_sorts b_letters b_numbers bsorts bletters bnumbers bsize bbear]) sz)) 0 0 (va_A (fl [wdX4 kc d_o d_text dtext dlength dat dlibrary, wdX3 kc b_o b_sorts b_letters b_numbers bsorts bletters bnumbers bsize bbear]) sz) := by
  intro sz
  refine kMetX (cc := cX4_takesAllOf) (maxL := 3) (ret := (some .boolean)) (Qf := fun A => kQi dC dI r (fl [wdX4 kc d_o d_text dtext dlength dat' dlibrary, wdX3 kc b_o b_sorts b_letters b_numbers bsorts' bletters' bnumbers' bsize' bbear]) A) (by decide) rfl (Nat.le_of_ble_eq_true rfl) ?_
  intro p e s m below meth c A ls hx hb hr hml hts hown hlocks hname hsz hA hP hK hD hX hl
  have hS : va_S A s.heap s.heap [] := va_S.rf
  have hl : lv_has ls 3 [(0, .ref d_o), (1, .int x1)] := hl
  unfold fX4_takesAllOf at hm
  refine lv_aload_n hx hb dX4_takesAllOf_0 rfl (lv_at hl 0 rfl) ?_
  refine lv_iload_n hx hb dX4_takesAllOf_1 rfl (lv_at hl 1 rfl) ?_
  obtain ⟨r2, dat_2, bsorts_2, bletters_2, bnumbers_2, bsize_2, hc2, hm⟩ := bd6_e hm
  refine k_callXGVi (dC := dC) (dI := dI) (kc := kc) (As := [.int x1]) (rest := []) (Gs' := [wdX4 kc d_o d_text dtext dlength dat_2 dlibrary, wdX3 kc b_o b_sorts b_letters b_numbers bsorts_2 bletters_2 bnumbers_2 bsize_2 bbear]) hx hb hml hown hts hK hP hD hS hA xR_ok hX (hF dtext dlength dat dlibrary bsorts bletters bnumbers bsize bbear x1 _ _ _ _ _ _ hc2 hkdlibrary) (cwV 1 hts gX4_takesAllOf_X4_takesPart rfl rfl rfl (by decide +kernel) ⟨by dsimp only [headSpec, rmX4_takesAllOf, rmX4_takesPart]; omega, by dsimp only [headSpec, rmX4_takesAllOf, rmX4_takesPart]; omega⟩) [0, 1] rfl (by decide) (va_recv (q0 := 0) (ci := 4) hK hP rfl rfl) rfl hl rfl (Nat.le_of_ble_eq_true rfl) dX4_takesAllOf_2 ⟨Nat.zero_le _, Nat.zero_le _⟩ rfl rfl rfl (fun H locs hP hD hS => ?_)
  refine lv_if_ne (tgt := 10) hx hb dX4_takesAllOf_5 (by decide) (fun c5 => ?_) (fun c5 => ?_)
  · replace hm := it_f c5 hm
    refine lv_iconst (v := 0) hx hb dX4_takesAllOf_10 (by decide) ?_
    refine lv_istore_n (lv' := [(2, .int 0), (0, .ref d_o), (1, .int x1)]) hx hb dX4_takesAllOf_11 rfl hl (by decide) rfl (fun ls hl => ?_)
    have hL12 : ∀ (fn : Nat) (l2_12 : Int32) (dat_12 : Int32) (bsorts_12 : Nat → Int32) (bletters_12 : Nat → Int32) (bnumbers_12 : Nat → Int32) (bsize_12 : Int32), LX4_takesAllOf_12 F dtext dlength dlibrary x1 fn l2_12 dat_12 bsorts_12 bletters_12 bnumbers_12 bsize_12 = some (r, dat', bsorts', bletters', bnumbers', bsize') → ∀ (H : Heap) (locs : List Loc), va_P (dC, dI) vwCl (fl [wdX4 kc d_o d_text dtext dlength dat_12 dlibrary, wdX3 kc b_o b_sorts b_letters b_numbers bsorts_12 bletters_12 bnumbers_12 bsize_12 bbear]) H → va_D A (fl [wdX4 kc d_o d_text dtext dlength dat_12 dlibrary, wdX3 kc b_o b_sorts b_letters b_numbers bsorts_12 bletters_12 bnumbers_12 bsize_12 bbear]) → va_S A s.heap H locs → ∀ ls : Array Slot, lv_has ls 3 [(0, .ref d_o), (1, .int x1), (2, .int l2_12)] → W p l e (headSpec wsX4_takesAllOf (rmX4_takesAllOf n)).room s m [.ref d_o, .int x1].toArray below meth c H locs 0 0 (MQ below (kQi dC dI r (fl [wdX4 kc d_o d_text dtext dlength dat' dlibrary, wdX3 kc b_o b_sorts b_letters b_numbers bsorts' bletters' bnumbers' bsize' bbear]) A) [.ref d_o, .int x1].toArray s 0 0 A) (F0 m 12 ls []) := by
      clear hm hP hD hS hl
      intro n12
      induction n12 with
      | zero => intro l2_12 dat_12 bsorts_12 bletters_12 bnumbers_12 bsize_12 hm; rw [LX4_takesAllOf_12] at hm; cases hm
      | succ n12 ih12 =>
        intro l2_12 dat_12 bsorts_12 bletters_12 bnumbers_12 bsize_12 hm H locs hP hD hS ls hl
        rw [LX4_takesAllOf_12] at hm
        refine lv_iload_n hx hb dX4_takesAllOf_12 rfl (lv_at hl 2 rfl) ?_
        refine lv_bipush (v := 100) hx hb dX4_takesAllOf_13 (by decide) ?_
        refine lv_icmp_ge (tgt := 63) hx hb dX4_takesAllOf_15 (by decide) (fun c15 => ?_) (fun c15 => ?_)
        · replace hm := it_t c15 hm
          refine lv_iconst (v := 1) hx hb dX4_takesAllOf_63 (by decide) ?_
          cases hm
          exact k_zret hx hb hr hlocks (by decide) hP hS dX4_takesAllOf_64
        · replace hm := it_f c15 hm
          refine lv_aload_n hx hb dX4_takesAllOf_18 rfl (lv_at hl 0 rfl) ?_
          refine lv_bipush (v := 38) hx hb dX4_takesAllOf_19 (by decide) ?_
          obtain ⟨r21, hc21, hm⟩ := bd1_e hm
          refine k_callGVi (dC := dC) (dI := dI) (kc := kc) (As := [.int 38]) (rest := []) (Gs' := [wdX4 kc d_o d_text dtext dlength dat_12 dlibrary, wdX3 kc b_o b_sorts b_letters b_numbers bsorts_12 bletters_12 bnumbers_12 bsize_12 bbear]) hx hb hml hown hts hK hP hD hS hA (ctX4_isAt (d_o := d_o) (d_text := d_text) (dtext := dtext) (dlength := dlength) (dat := dat_12) (dlibrary := dlibrary) (x1 := 38) hc21) (cwV 1 hts gX4_takesAllOf_X4_isAt rfl rfl rfl (by decide +kernel) ⟨by dsimp only [headSpec, rmX4_takesAllOf, rmX4_isAt]; omega, by dsimp only [headSpec, rmX4_takesAllOf, rmX4_isAt]; omega⟩) [0] rfl (by decide) 4 rfl rfl rfl rfl hl rfl (Nat.le_of_ble_eq_true rfl) dX4_takesAllOf_21 ⟨Nat.zero_le _, Nat.zero_le _⟩ rfl rfl rfl (fun H locs hP hD hS => ?_)
          refine lv_if_eq (tgt := 63) hx hb dX4_takesAllOf_24 (by decide) (fun c24 => ?_) (fun c24 => ?_)
          · replace hm := it_t c24 hm
            refine lv_iconst (v := 1) hx hb dX4_takesAllOf_63 (by decide) ?_
            cases hm
            exact k_zret hx hb hr hlocks (by decide) hP hS dX4_takesAllOf_64
          · replace hm := it_f c24 hm
            refine lv_aload_n hx hb dX4_takesAllOf_27 rfl (lv_at hl 0 rfl) ?_
            refine lv_dup hx hb dX4_takesAllOf_28 rfl ?_
            refine va_get (D := (dC, dI)) (ci := 4) (v := .int dat_12) (C := RX4) (T := TX4) (N := 4) hx hb hts hinX4_takesAllOf_X4 hown hK hP 0 rfl rfl 2 (by decide) (hts _ (List.mem_of_getElem? (i := 1) rfl)) (fun _ h9 => h9) rfl dX4_takesAllOf_29 ?_
            refine lv_iconst (v := 1) hx hb dX4_takesAllOf_32 (by decide) ?_
            refine lv_iadd hx hb dX4_takesAllOf_33 ?_
            refine va_put (D := (dC, dI)) (ci := 4) (v := .int (dat_12 + 1)) (ty := .int) (C := RX4) (T := TX4) (N := 4) hx hb hts hinX4_takesAllOf_X4 tyX4 tyX4_ok nmX4 hown hK hP hD hS 0 rfl rfl 2 (by decide) (hts _ (List.mem_of_getElem? (i := 1) rfl)) (fun _ h9 => h9) rfl (by decide +kernel) rfl rfl (Nat.le_of_ble_eq_true rfl) dX4_takesAllOf_34 (fun H locs hP hD hS => ?_)
            have hP : va_P (dC, dI) vwCl (fl [wdX4 kc d_o d_text dtext dlength (dat_12 + 1) dlibrary, wdX3 kc b_o b_sorts b_letters b_numbers bsorts_12 bletters_12 bnumbers_12 bsize_12 bbear]) H := hP
            have hD : va_D A (fl [wdX4 kc d_o d_text dtext dlength (dat_12 + 1) dlibrary, wdX3 kc b_o b_sorts b_letters b_numbers bsorts_12 bletters_12 bnumbers_12 bsize_12 bbear]) := hD
            refine lv_aload_n hx hb dX4_takesAllOf_37 rfl (lv_at hl 0 rfl) ?_
            refine lv_iload_n hx hb dX4_takesAllOf_38 rfl (lv_at hl 1 rfl) ?_
            obtain ⟨r39, dat_39, bsorts_39, bletters_39, bnumbers_39, bsize_39, hc39, hm⟩ := bd6_e hm
            refine k_callXGVi (dC := dC) (dI := dI) (kc := kc) (As := [.int x1]) (rest := []) (Gs' := [wdX4 kc d_o d_text dtext dlength dat_39 dlibrary, wdX3 kc b_o b_sorts b_letters b_numbers bsorts_39 bletters_39 bnumbers_39 bsize_39 bbear]) hx hb hml hown hts hK hP hD hS hA xR_ok hX (hF dtext dlength (dat_12 + 1) dlibrary bsorts_12 bletters_12 bnumbers_12 bsize_12 bbear x1 _ _ _ _ _ _ hc39 hkdlibrary) (cwV 1 hts gX4_takesAllOf_X4_takesPart rfl rfl rfl (by decide +kernel) ⟨by dsimp only [headSpec, rmX4_takesAllOf, rmX4_takesPart]; omega, by dsimp only [headSpec, rmX4_takesAllOf, rmX4_takesPart]; omega⟩) [0, 1] rfl (by decide) (va_recv (q0 := 0) (ci := 4) hK hP rfl rfl) rfl hl rfl (Nat.le_of_ble_eq_true rfl) dX4_takesAllOf_39 ⟨Nat.zero_le _, Nat.zero_le _⟩ rfl rfl rfl (fun H locs hP hD hS => ?_)
            refine lv_if_ne (tgt := 47) hx hb dX4_takesAllOf_42 (by decide) (fun c42 => ?_) (fun c42 => ?_)
            · replace hm := it_f c42 hm
              refine lv_aload_n hx hb dX4_takesAllOf_47 rfl (lv_at hl 0 rfl) ?_
              refine va_get (D := (dC, dI)) (ci := 4) (v := .ref b_o) (C := RX4) (T := TX4) (N := 4) hx hb hts hinX4_takesAllOf_X4 hown hK hP 0 rfl rfl 3 (by decide) (hts _ (List.mem_of_getElem? (i := 2) rfl)) (fun _ h9 => h9) (by show some (va_rf dlibrary) = some (.ref b_o); rw [hkdlibrary]; rfl) dX4_takesAllOf_48 ?_
              refine lv_iconst (v := 4) hx hb dX4_takesAllOf_51 (by decide) ?_
              refine lv_iconst (v := 0) hx hb dX4_takesAllOf_52 (by decide) ?_
              refine lv_iconst (v := 0) hx hb dX4_takesAllOf_53 (by decide) ?_
              obtain ⟨bsorts_54, bletters_54, bnumbers_54, bsize_54, hc54, hm⟩ := bd4_e hm
              refine k_callGVv (dC := dC) (dI := dI) (kc := kc) (As := [.int 4, .int 0, .int 0]) (rest := []) (Gs' := [wdX4 kc d_o d_text dtext dlength dat_39 dlibrary, wdX3 kc b_o b_sorts b_letters b_numbers bsorts_54 bletters_54 bnumbers_54 bsize_54 bbear]) hx hb hml hown hts hK hP hD hS hA (ctX3_put (b_o := b_o) (b_sorts := b_sorts) (b_letters := b_letters) (b_numbers := b_numbers) (bsorts := bsorts_39) (bletters := bletters_39) (bnumbers := bnumbers_39) (bsize := bsize_39) (bbear := bbear) (x1 := 4) (x2 := 0) (x3 := 0) hc54) (cwV 3 hts gX4_takesAllOf_X3_put rfl rfl rfl (by decide +kernel) ⟨by dsimp only [headSpec, rmX4_takesAllOf, rmX3_put]; omega, by dsimp only [headSpec, rmX4_takesAllOf, rmX3_put]; omega⟩) [1] rfl (by decide) 3 rfl rfl rfl rfl hl rfl (Nat.le_of_ble_eq_true rfl) dX4_takesAllOf_54 ⟨Nat.zero_le _, Nat.zero_le _⟩ rfl rfl rfl (fun H locs hP hD hS => ?_)
              refine lv_iinc (v := l2_12 + 1) (lv' := [(2, .int (l2_12 + 1)), (0, .ref d_o), (1, .int x1)]) hx hb dX4_takesAllOf_57 hl (k := 2) rfl rfl (by decide) rfl (fun ls hl => ?_)
              refine lv_goto (tgt := 12) hx hb dX4_takesAllOf_60 (by decide) ?_
              exact ih12 (l2_12 + 1) dat_39 bsorts_54 bletters_54 bnumbers_54 bsize_54 hm _ _ hP hD hS _ (lv_sub hl [1, 2, 0] rfl)
            · replace hm := it_t c42 hm
              refine lv_iconst (v := 0) hx hb dX4_takesAllOf_45 (by decide) ?_
              cases hm
              exact k_zret hx hb hr hlocks (by decide) hP hS dX4_takesAllOf_46
    exact hL12 _ _ _ _ _ _ _ hm _ _ hP hD hS _ (lv_sub hl [1, 2, 0] rfl)
  · replace hm := it_t c5 hm
    refine lv_iconst (v := 0) hx hb dX4_takesAllOf_8 (by decide) ?_
    cases hm
    exact k_zret hx hb hr hlocks (by decide) hP hS dX4_takesAllOf_9
def LX4_takesAnyOf_12 (fu : Nat) (F : (Nat → Int32) → Int32 → Int32 → (Option Nat) → (Nat → Int32) → (Nat → Int32) → (Nat → Int32) → Int32 → Int32 → Option (Int32 × Int32 × (Nat → Int32) × (Nat → Int32) × (Nat → Int32) × Int32)) (dtext : Nat → Int32) (dlength : Int32) (dlibrary : Option Nat) (x1 : Int32) : Nat → Int32 → Int32 → (Nat → Int32) → (Nat → Int32) → (Nat → Int32) → Int32 → Option (Int32 × Int32 × (Nat → Int32) × (Nat → Int32) × (Nat → Int32) × Int32)
  | 0, _, _, _, _, _, _ => none
  | n12 + 1, l2_12, dat_12, bsorts_12, bletters_12, bnumbers_12, bsize_12 => if 100 ≤ l2_12 then (some ((1 : Int32), dat_12, bsorts_12, bletters_12, bnumbers_12, bsize_12)) else (bd1 (fX4_isAt dtext dlength dat_12 124) (fun r21 => if r21 = 0 then (some ((1 : Int32), dat_12, bsorts_12, bletters_12, bnumbers_12, bsize_12)) else (bd6 (fX4_takesAllOf F fu dtext dlength (dat_12 + 1) dlibrary bsorts_12 bletters_12 bnumbers_12 bsize_12 x1) (fun r39 dat_39 bsorts_39 bletters_39 bnumbers_39 bsize_39 => if r39 = 0 then (some ((0 : Int32), dat_39, bsorts_39, bletters_39, bnumbers_39, bsize_39)) else (bd4 (fX3_put bsorts_39 bletters_39 bnumbers_39 bsize_39 5 0 0) (fun bsorts_54 bletters_54 bnumbers_54 bsize_54 => LX4_takesAnyOf_12 fu F dtext dlength dlibrary x1 n12 (l2_12 + 1) dat_39 bsorts_54 bletters_54 bnumbers_54 bsize_54))))))
def fX4_takesAnyOf (F : (Nat → Int32) → Int32 → Int32 → (Option Nat) → (Nat → Int32) → (Nat → Int32) → (Nat → Int32) → Int32 → Int32 → Option (Int32 × Int32 × (Nat → Int32) × (Nat → Int32) × (Nat → Int32) × Int32)) (fu : Nat) (dtext : Nat → Int32) (dlength : Int32) (dat : Int32) (dlibrary : Option Nat) (bsorts : Nat → Int32) (bletters : Nat → Int32) (bnumbers : Nat → Int32) (bsize : Int32) (x1 : Int32) : Option (Int32 × Int32 × (Nat → Int32) × (Nat → Int32) × (Nat → Int32) × Int32) := bd6 (fX4_takesAllOf F fu dtext dlength dat dlibrary bsorts bletters bnumbers bsize x1) (fun r2 dat_2 bsorts_2 bletters_2 bnumbers_2 bsize_2 => if r2 = 0 then (some ((0 : Int32), dat_2, bsorts_2, bletters_2, bnumbers_2, bsize_2)) else (LX4_takesAnyOf_12 fu F dtext dlength dlibrary x1 fu 0 dat_2 bsorts_2 bletters_2 bnumbers_2 bsize_2))
theorem hinX4_takesAnyOf_X4 : ∀ w ∈ u_ws RX4 TX4 4, w ∈ wsX4_takesAnyOf := fun _ h => List.mem_cons_of_mem _ (List.mem_append_left _ (List.mem_append_right _ h))
abbrev rmX4_takesAnyOf (n : Nat) : Room := { frames := 40 * n + 13, cells := 0, slots := 0, locals := 1000 * n + 800 }
set_option maxHeartbeats 4000000 in
set_option maxRecDepth 100000 in
theorem ctX4_takesAnyOf {l : Launch} {dC : Nat → ClassId} {dI : Nat → Nat → Nat} {kc : Nat → ClassId} {d_o d_text b_o b_sorts b_letters b_numbers : Nat} {adK adV : Nat → Nat} {sf : Option Nat} {dtext : Nat → Int32} {dlength : Int32} {dat : Int32} {dlibrary : Option Nat} {bsorts : Nat → Int32} {bletters : Nat → Int32} {bnumbers : Nat → Int32} {bsize : Int32} {bbear : Int32} {x1 : Int32} {fu : Nat} {r : Int32} {dat' : Int32} {bsorts' : Nat → Int32} {bletters' : Nat → Int32} {bnumbers' : Nat → Int32} {bsize' : Int32} {F : (Nat → Int32) → Int32 → Int32 → (Option Nat) → (Nat → Int32) → (Nat → Int32) → (Nat → Int32) → Int32 → Int32 → Option (Int32 × Int32 × (Nat → Int32) × (Nat → Int32) × (Nat → Int32) × Int32)} {n : Nat} (hF : HFX4_takesPart l dC dI kc d_o d_text b_o b_sorts b_letters b_numbers adK adV sf F n) (hm : fX4_takesAnyOf F fu dtext dlength dat dlibrary bsorts bletters bnumbers bsize x1 = some (r, dat', bsorts', bletters', bnumbers', bsize')) (hkdlibrary : dlibrary = some b_o) : ∀ sz : Nat, Met l yX4_takesAnyOf wsX4_takesAnyOf (rmX4_takesAnyOf n) (kPcX dC dI kc (xR adK adV sf) [.ref d_o, .int x1] (fl [wdX4 kc d_o d_text dtext dlength dat dlibrary, wdX3 kc b_o b_sorts b_letters b_numbers bsorts bletters bnumbers bsize bbear]) sz) (kQi dC dI r (fl [wdX4 kc d_o d_text dtext dlength dat' dlibrary, wdX3 kc b_o b_sorts b_letters b_numbers bsorts' bletters' bnumbers' bsize' bbear]) (va_A (fl [wdX4 kc d_o d_text dtext dlength dat dlibrary, wdX3 kc b_o b_sorts b_letters b_numbers bsorts bletters bnumbers bsize bbear]) sz)) 0 0 (va_A (fl [wdX4 kc d_o d_text dtext dlength dat dlibrary, wdX3 kc b_o b_sorts b_letters b_numbers bsorts bletters bnumbers bsize bbear]) sz) := by
  intro sz
  refine kMetX (cc := cX4_takesAnyOf) (maxL := 3) (ret := (some .boolean)) (Qf := fun A => kQi dC dI r (fl [wdX4 kc d_o d_text dtext dlength dat' dlibrary, wdX3 kc b_o b_sorts b_letters b_numbers bsorts' bletters' bnumbers' bsize' bbear]) A) (by decide) rfl (Nat.le_of_ble_eq_true rfl) ?_
  intro p e s m below meth c A ls hx hb hr hml hts hown hlocks hname hsz hA hP hK hD hX hl
  have hS : va_S A s.heap s.heap [] := va_S.rf
  have hl : lv_has ls 3 [(0, .ref d_o), (1, .int x1)] := hl
  unfold fX4_takesAnyOf at hm
  refine lv_aload_n hx hb dX4_takesAnyOf_0 rfl (lv_at hl 0 rfl) ?_
  refine lv_iload_n hx hb dX4_takesAnyOf_1 rfl (lv_at hl 1 rfl) ?_
  obtain ⟨r2, dat_2, bsorts_2, bletters_2, bnumbers_2, bsize_2, hc2, hm⟩ := bd6_e hm
  refine k_callXGVi (dC := dC) (dI := dI) (kc := kc) (As := [.int x1]) (rest := []) (Gs' := [wdX4 kc d_o d_text dtext dlength dat_2 dlibrary, wdX3 kc b_o b_sorts b_letters b_numbers bsorts_2 bletters_2 bnumbers_2 bsize_2 bbear]) hx hb hml hown hts hK hP hD hS hA xR_ok hX (ctX4_takesAllOf (F := F) (n := n) (fu := fu) (d_o := d_o) (d_text := d_text) (b_o := b_o) (b_sorts := b_sorts) (b_letters := b_letters) (b_numbers := b_numbers) (dtext := dtext) (dlength := dlength) (dat := dat) (dlibrary := dlibrary) (bsorts := bsorts) (bletters := bletters) (bnumbers := bnumbers) (bsize := bsize) (bbear := bbear) (x1 := x1) (adK := adK) (adV := adV) (sf := sf) hF hc2 hkdlibrary) (cwV 1 hts gX4_takesAnyOf_X4_takesAllOf rfl rfl rfl (by decide +kernel) ⟨by dsimp only [headSpec, rmX4_takesAnyOf, rmX4_takesAllOf]; omega, by dsimp only [headSpec, rmX4_takesAnyOf, rmX4_takesAllOf]; omega⟩) [0, 1] rfl (by decide) (va_recv (q0 := 0) (ci := 4) hK hP rfl rfl) rfl hl rfl (Nat.le_of_ble_eq_true rfl) dX4_takesAnyOf_2 ⟨Nat.zero_le _, Nat.zero_le _⟩ rfl rfl rfl (fun H locs hP hD hS => ?_)
  refine lv_if_ne (tgt := 10) hx hb dX4_takesAnyOf_5 (by decide) (fun c5 => ?_) (fun c5 => ?_)
  · replace hm := it_f c5 hm
    refine lv_iconst (v := 0) hx hb dX4_takesAnyOf_10 (by decide) ?_
    refine lv_istore_n (lv' := [(2, .int 0), (0, .ref d_o), (1, .int x1)]) hx hb dX4_takesAnyOf_11 rfl hl (by decide) rfl (fun ls hl => ?_)
    have hL12 : ∀ (fn : Nat) (l2_12 : Int32) (dat_12 : Int32) (bsorts_12 : Nat → Int32) (bletters_12 : Nat → Int32) (bnumbers_12 : Nat → Int32) (bsize_12 : Int32), LX4_takesAnyOf_12 fu F dtext dlength dlibrary x1 fn l2_12 dat_12 bsorts_12 bletters_12 bnumbers_12 bsize_12 = some (r, dat', bsorts', bletters', bnumbers', bsize') → ∀ (H : Heap) (locs : List Loc), va_P (dC, dI) vwCl (fl [wdX4 kc d_o d_text dtext dlength dat_12 dlibrary, wdX3 kc b_o b_sorts b_letters b_numbers bsorts_12 bletters_12 bnumbers_12 bsize_12 bbear]) H → va_D A (fl [wdX4 kc d_o d_text dtext dlength dat_12 dlibrary, wdX3 kc b_o b_sorts b_letters b_numbers bsorts_12 bletters_12 bnumbers_12 bsize_12 bbear]) → va_S A s.heap H locs → ∀ ls : Array Slot, lv_has ls 3 [(0, .ref d_o), (1, .int x1), (2, .int l2_12)] → W p l e (headSpec wsX4_takesAnyOf (rmX4_takesAnyOf n)).room s m [.ref d_o, .int x1].toArray below meth c H locs 0 0 (MQ below (kQi dC dI r (fl [wdX4 kc d_o d_text dtext dlength dat' dlibrary, wdX3 kc b_o b_sorts b_letters b_numbers bsorts' bletters' bnumbers' bsize' bbear]) A) [.ref d_o, .int x1].toArray s 0 0 A) (F0 m 12 ls []) := by
      clear hm hP hD hS hl
      intro n12
      induction n12 with
      | zero => intro l2_12 dat_12 bsorts_12 bletters_12 bnumbers_12 bsize_12 hm; rw [LX4_takesAnyOf_12] at hm; cases hm
      | succ n12 ih12 =>
        intro l2_12 dat_12 bsorts_12 bletters_12 bnumbers_12 bsize_12 hm H locs hP hD hS ls hl
        rw [LX4_takesAnyOf_12] at hm
        refine lv_iload_n hx hb dX4_takesAnyOf_12 rfl (lv_at hl 2 rfl) ?_
        refine lv_bipush (v := 100) hx hb dX4_takesAnyOf_13 (by decide) ?_
        refine lv_icmp_ge (tgt := 63) hx hb dX4_takesAnyOf_15 (by decide) (fun c15 => ?_) (fun c15 => ?_)
        · replace hm := it_t c15 hm
          refine lv_iconst (v := 1) hx hb dX4_takesAnyOf_63 (by decide) ?_
          cases hm
          exact k_zret hx hb hr hlocks (by decide) hP hS dX4_takesAnyOf_64
        · replace hm := it_f c15 hm
          refine lv_aload_n hx hb dX4_takesAnyOf_18 rfl (lv_at hl 0 rfl) ?_
          refine lv_bipush (v := 124) hx hb dX4_takesAnyOf_19 (by decide) ?_
          obtain ⟨r21, hc21, hm⟩ := bd1_e hm
          refine k_callGVi (dC := dC) (dI := dI) (kc := kc) (As := [.int 124]) (rest := []) (Gs' := [wdX4 kc d_o d_text dtext dlength dat_12 dlibrary, wdX3 kc b_o b_sorts b_letters b_numbers bsorts_12 bletters_12 bnumbers_12 bsize_12 bbear]) hx hb hml hown hts hK hP hD hS hA (ctX4_isAt (d_o := d_o) (d_text := d_text) (dtext := dtext) (dlength := dlength) (dat := dat_12) (dlibrary := dlibrary) (x1 := 124) hc21) (cwV 1 hts gX4_takesAnyOf_X4_isAt rfl rfl rfl (by decide +kernel) ⟨by dsimp only [headSpec, rmX4_takesAnyOf, rmX4_isAt]; omega, by dsimp only [headSpec, rmX4_takesAnyOf, rmX4_isAt]; omega⟩) [0] rfl (by decide) 4 rfl rfl rfl rfl hl rfl (Nat.le_of_ble_eq_true rfl) dX4_takesAnyOf_21 ⟨Nat.zero_le _, Nat.zero_le _⟩ rfl rfl rfl (fun H locs hP hD hS => ?_)
          refine lv_if_eq (tgt := 63) hx hb dX4_takesAnyOf_24 (by decide) (fun c24 => ?_) (fun c24 => ?_)
          · replace hm := it_t c24 hm
            refine lv_iconst (v := 1) hx hb dX4_takesAnyOf_63 (by decide) ?_
            cases hm
            exact k_zret hx hb hr hlocks (by decide) hP hS dX4_takesAnyOf_64
          · replace hm := it_f c24 hm
            refine lv_aload_n hx hb dX4_takesAnyOf_27 rfl (lv_at hl 0 rfl) ?_
            refine lv_dup hx hb dX4_takesAnyOf_28 rfl ?_
            refine va_get (D := (dC, dI)) (ci := 4) (v := .int dat_12) (C := RX4) (T := TX4) (N := 4) hx hb hts hinX4_takesAnyOf_X4 hown hK hP 0 rfl rfl 2 (by decide) (hts _ (List.mem_of_getElem? (i := 1) rfl)) (fun _ h9 => h9) rfl dX4_takesAnyOf_29 ?_
            refine lv_iconst (v := 1) hx hb dX4_takesAnyOf_32 (by decide) ?_
            refine lv_iadd hx hb dX4_takesAnyOf_33 ?_
            refine va_put (D := (dC, dI)) (ci := 4) (v := .int (dat_12 + 1)) (ty := .int) (C := RX4) (T := TX4) (N := 4) hx hb hts hinX4_takesAnyOf_X4 tyX4 tyX4_ok nmX4 hown hK hP hD hS 0 rfl rfl 2 (by decide) (hts _ (List.mem_of_getElem? (i := 1) rfl)) (fun _ h9 => h9) rfl (by decide +kernel) rfl rfl (Nat.le_of_ble_eq_true rfl) dX4_takesAnyOf_34 (fun H locs hP hD hS => ?_)
            have hP : va_P (dC, dI) vwCl (fl [wdX4 kc d_o d_text dtext dlength (dat_12 + 1) dlibrary, wdX3 kc b_o b_sorts b_letters b_numbers bsorts_12 bletters_12 bnumbers_12 bsize_12 bbear]) H := hP
            have hD : va_D A (fl [wdX4 kc d_o d_text dtext dlength (dat_12 + 1) dlibrary, wdX3 kc b_o b_sorts b_letters b_numbers bsorts_12 bletters_12 bnumbers_12 bsize_12 bbear]) := hD
            refine lv_aload_n hx hb dX4_takesAnyOf_37 rfl (lv_at hl 0 rfl) ?_
            refine lv_iload_n hx hb dX4_takesAnyOf_38 rfl (lv_at hl 1 rfl) ?_
            obtain ⟨r39, dat_39, bsorts_39, bletters_39, bnumbers_39, bsize_39, hc39, hm⟩ := bd6_e hm
            refine k_callXGVi (dC := dC) (dI := dI) (kc := kc) (As := [.int x1]) (rest := []) (Gs' := [wdX4 kc d_o d_text dtext dlength dat_39 dlibrary, wdX3 kc b_o b_sorts b_letters b_numbers bsorts_39 bletters_39 bnumbers_39 bsize_39 bbear]) hx hb hml hown hts hK hP hD hS hA xR_ok hX (ctX4_takesAllOf (F := F) (n := n) (fu := fu) (d_o := d_o) (d_text := d_text) (b_o := b_o) (b_sorts := b_sorts) (b_letters := b_letters) (b_numbers := b_numbers) (dtext := dtext) (dlength := dlength) (dat := dat_12 + 1) (dlibrary := dlibrary) (bsorts := bsorts_12) (bletters := bletters_12) (bnumbers := bnumbers_12) (bsize := bsize_12) (bbear := bbear) (x1 := x1) (adK := adK) (adV := adV) (sf := sf) hF hc39 hkdlibrary) (cwV 1 hts gX4_takesAnyOf_X4_takesAllOf rfl rfl rfl (by decide +kernel) ⟨by dsimp only [headSpec, rmX4_takesAnyOf, rmX4_takesAllOf]; omega, by dsimp only [headSpec, rmX4_takesAnyOf, rmX4_takesAllOf]; omega⟩) [0, 1] rfl (by decide) (va_recv (q0 := 0) (ci := 4) hK hP rfl rfl) rfl hl rfl (Nat.le_of_ble_eq_true rfl) dX4_takesAnyOf_39 ⟨Nat.zero_le _, Nat.zero_le _⟩ rfl rfl rfl (fun H locs hP hD hS => ?_)
            refine lv_if_ne (tgt := 47) hx hb dX4_takesAnyOf_42 (by decide) (fun c42 => ?_) (fun c42 => ?_)
            · replace hm := it_f c42 hm
              refine lv_aload_n hx hb dX4_takesAnyOf_47 rfl (lv_at hl 0 rfl) ?_
              refine va_get (D := (dC, dI)) (ci := 4) (v := .ref b_o) (C := RX4) (T := TX4) (N := 4) hx hb hts hinX4_takesAnyOf_X4 hown hK hP 0 rfl rfl 3 (by decide) (hts _ (List.mem_of_getElem? (i := 2) rfl)) (fun _ h9 => h9) (by show some (va_rf dlibrary) = some (.ref b_o); rw [hkdlibrary]; rfl) dX4_takesAnyOf_48 ?_
              refine lv_iconst (v := 5) hx hb dX4_takesAnyOf_51 (by decide) ?_
              refine lv_iconst (v := 0) hx hb dX4_takesAnyOf_52 (by decide) ?_
              refine lv_iconst (v := 0) hx hb dX4_takesAnyOf_53 (by decide) ?_
              obtain ⟨bsorts_54, bletters_54, bnumbers_54, bsize_54, hc54, hm⟩ := bd4_e hm
              refine k_callGVv (dC := dC) (dI := dI) (kc := kc) (As := [.int 5, .int 0, .int 0]) (rest := []) (Gs' := [wdX4 kc d_o d_text dtext dlength dat_39 dlibrary, wdX3 kc b_o b_sorts b_letters b_numbers bsorts_54 bletters_54 bnumbers_54 bsize_54 bbear]) hx hb hml hown hts hK hP hD hS hA (ctX3_put (b_o := b_o) (b_sorts := b_sorts) (b_letters := b_letters) (b_numbers := b_numbers) (bsorts := bsorts_39) (bletters := bletters_39) (bnumbers := bnumbers_39) (bsize := bsize_39) (bbear := bbear) (x1 := 5) (x2 := 0) (x3 := 0) hc54) (cwV 3 hts gX4_takesAnyOf_X3_put rfl rfl rfl (by decide +kernel) ⟨by dsimp only [headSpec, rmX4_takesAnyOf, rmX3_put]; omega, by dsimp only [headSpec, rmX4_takesAnyOf, rmX3_put]; omega⟩) [1] rfl (by decide) 3 rfl rfl rfl rfl hl rfl (Nat.le_of_ble_eq_true rfl) dX4_takesAnyOf_54 ⟨Nat.zero_le _, Nat.zero_le _⟩ rfl rfl rfl (fun H locs hP hD hS => ?_)
              refine lv_iinc (v := l2_12 + 1) (lv' := [(2, .int (l2_12 + 1)), (0, .ref d_o), (1, .int x1)]) hx hb dX4_takesAnyOf_57 hl (k := 2) rfl rfl (by decide) rfl (fun ls hl => ?_)
              refine lv_goto (tgt := 12) hx hb dX4_takesAnyOf_60 (by decide) ?_
              exact ih12 (l2_12 + 1) dat_39 bsorts_54 bletters_54 bnumbers_54 bsize_54 hm _ _ hP hD hS _ (lv_sub hl [1, 2, 0] rfl)
            · replace hm := it_t c42 hm
              refine lv_iconst (v := 0) hx hb dX4_takesAnyOf_45 (by decide) ?_
              cases hm
              exact k_zret hx hb hr hlocks (by decide) hP hS dX4_takesAnyOf_46
    exact hL12 _ _ _ _ _ _ _ hm _ _ hP hD hS _ (lv_sub hl [1, 2, 0] rfl)
  · replace hm := it_t c5 hm
    refine lv_iconst (v := 0) hx hb dX4_takesAnyOf_8 (by decide) ?_
    cases hm
    exact k_zret hx hb hr hlocks (by decide) hP hS dX4_takesAnyOf_9
def gX4_takesPart (F : (Nat → Int32) → Int32 → Int32 → (Option Nat) → (Nat → Int32) → (Nat → Int32) → (Nat → Int32) → Int32 → Int32 → Option (Int32 × Int32 × (Nat → Int32) × (Nat → Int32) × (Nat → Int32) × Int32)) (fu : Nat) (dtext : Nat → Int32) (dlength : Int32) (dat : Int32) (dlibrary : Option Nat) (bsorts : Nat → Int32) (bletters : Nat → Int32) (bnumbers : Nat → Int32) (bsize : Int32) (x1 : Int32) : Option (Int32 × Int32 × (Nat → Int32) × (Nat → Int32) × (Nat → Int32) × Int32) := bd1 (fX4_isAt dtext dlength dat 33) (fun r3 => if r3 = 0 then (bd1 (fX4_isAt dtext dlength dat 40) (fun r12 => if r12 = 0 then (bd6 (fX4_takesTest fu dtext dlength dat dlibrary bsorts bletters bnumbers bsize) (fun r19 dat_19 bsorts_19 bletters_19 bnumbers_19 bsize_19 => gd (r19 = 0 ∨ r19 = 1) (some (r19, dat_19, bsorts_19, bletters_19, bnumbers_19, bsize_19)))) else (if x1 < 4 then (bd1 (fX4_isAt dtext dlength dat 33) (fun r33 => if r33 = 0 then (bd6 (fX4_takesAnyOf F fu dtext dlength (dat + 1) dlibrary bsorts bletters bnumbers bsize (x1 + 1)) (fun r55 dat_55 bsorts_55 bletters_55 bnumbers_55 bsize_55 => if r55 = 0 then (some ((0 : Int32), dat_55, bsorts_55, bletters_55, bnumbers_55, bsize_55)) else (bd2 (fX4_takesWord fu dtext dlength dat_55 1 (tx 5)) (fun r64 dat_64 => if r64 = 0 then (some ((0 : Int32), dat_64, bsorts_55, bletters_55, bnumbers_55, bsize_55)) else (some ((1 : Int32), dat_64, bsorts_55, bletters_55, bnumbers_55, bsize_55)))))) else (bd6 (F dtext dlength (dat + 1) dlibrary bsorts bletters bnumbers bsize (x1 + 1)) (fun r80 dat_80 bsorts_80 bletters_80 bnumbers_80 bsize_80 => if r80 = 0 then (some ((0 : Int32), dat_80, bsorts_80, bletters_80, bnumbers_80, bsize_80)) else (bd4 (fX3_put bsorts_80 bletters_80 bnumbers_80 bsize_80 3 0 0) (fun bsorts_95 bletters_95 bnumbers_95 bsize_95 => some ((1 : Int32), dat_80, bsorts_95, bletters_95, bnumbers_95, bsize_95))))))) else (some ((0 : Int32), dat, bsorts, bletters, bnumbers, bsize))))) else (if x1 < 4 then (bd1 (fX4_isAt dtext dlength dat 33) (fun r33 => if r33 = 0 then (bd6 (fX4_takesAnyOf F fu dtext dlength (dat + 1) dlibrary bsorts bletters bnumbers bsize (x1 + 1)) (fun r55 dat_55 bsorts_55 bletters_55 bnumbers_55 bsize_55 => if r55 = 0 then (some ((0 : Int32), dat_55, bsorts_55, bletters_55, bnumbers_55, bsize_55)) else (bd2 (fX4_takesWord fu dtext dlength dat_55 1 (tx 5)) (fun r64 dat_64 => if r64 = 0 then (some ((0 : Int32), dat_64, bsorts_55, bletters_55, bnumbers_55, bsize_55)) else (some ((1 : Int32), dat_64, bsorts_55, bletters_55, bnumbers_55, bsize_55)))))) else (bd6 (F dtext dlength (dat + 1) dlibrary bsorts bletters bnumbers bsize (x1 + 1)) (fun r80 dat_80 bsorts_80 bletters_80 bnumbers_80 bsize_80 => if r80 = 0 then (some ((0 : Int32), dat_80, bsorts_80, bletters_80, bnumbers_80, bsize_80)) else (bd4 (fX3_put bsorts_80 bletters_80 bnumbers_80 bsize_80 3 0 0) (fun bsorts_95 bletters_95 bnumbers_95 bsize_95 => some ((1 : Int32), dat_80, bsorts_95, bletters_95, bnumbers_95, bsize_95))))))) else (some ((0 : Int32), dat, bsorts, bletters, bnumbers, bsize))))
theorem hinX4_takesPart_X4 : ∀ w ∈ u_ws RX4 TX4 4, w ∈ wsX4_takesPart := fun _ h => List.mem_cons_of_mem _ (List.mem_append_left _ (List.mem_append_right _ h))
set_option maxHeartbeats 4000000 in
set_option maxRecDepth 100000 in
theorem ctgX4_takesPart {l : Launch} {dC : Nat → ClassId} {dI : Nat → Nat → Nat} {kc : Nat → ClassId} {d_o d_text b_o b_sorts b_letters b_numbers : Nat} {adK adV : Nat → Nat} {sf : Option Nat} {dtext : Nat → Int32} {dlength : Int32} {dat : Int32} {dlibrary : Option Nat} {bsorts : Nat → Int32} {bletters : Nat → Int32} {bnumbers : Nat → Int32} {bsize : Int32} {bbear : Int32} {x1 : Int32} {fu : Nat} {r : Int32} {dat' : Int32} {bsorts' : Nat → Int32} {bletters' : Nat → Int32} {bnumbers' : Nat → Int32} {bsize' : Int32} {F : (Nat → Int32) → Int32 → Int32 → (Option Nat) → (Nat → Int32) → (Nat → Int32) → (Nat → Int32) → Int32 → Int32 → Option (Int32 × Int32 × (Nat → Int32) × (Nat → Int32) × (Nat → Int32) × Int32)} {n : Nat} (hF : HFX4_takesPart l dC dI kc d_o d_text b_o b_sorts b_letters b_numbers adK adV sf F n) (hm : gX4_takesPart F fu dtext dlength dat dlibrary bsorts bletters bnumbers bsize x1 = some (r, dat', bsorts', bletters', bnumbers', bsize')) (hkdlibrary : dlibrary = some b_o) : ∀ sz : Nat, Met l yX4_takesPart wsX4_takesPart (rmX4_takesPart (n + 1)) (kPcX dC dI kc (xR adK adV sf) [.ref d_o, .int x1] (fl [wdX4 kc d_o d_text dtext dlength dat dlibrary, wdX3 kc b_o b_sorts b_letters b_numbers bsorts bletters bnumbers bsize bbear]) sz) (kQi dC dI r (fl [wdX4 kc d_o d_text dtext dlength dat' dlibrary, wdX3 kc b_o b_sorts b_letters b_numbers bsorts' bletters' bnumbers' bsize' bbear]) (va_A (fl [wdX4 kc d_o d_text dtext dlength dat dlibrary, wdX3 kc b_o b_sorts b_letters b_numbers bsorts bletters bnumbers bsize bbear]) sz)) 0 0 (va_A (fl [wdX4 kc d_o d_text dtext dlength dat dlibrary, wdX3 kc b_o b_sorts b_letters b_numbers bsorts bletters bnumbers bsize bbear]) sz) := by
  intro sz
  refine kMetX (cc := cX4_takesPart) (maxL := 3) (ret := (some .boolean)) (Qf := fun A => kQi dC dI r (fl [wdX4 kc d_o d_text dtext dlength dat' dlibrary, wdX3 kc b_o b_sorts b_letters b_numbers bsorts' bletters' bnumbers' bsize' bbear]) A) (by decide) rfl (Nat.le_of_ble_eq_true rfl) ?_
  intro p e s m below meth c A ls hx hb hr hml hts hown hlocks hname hsz hA hP hK hD hX hl
  have hS : va_S A s.heap s.heap [] := va_S.rf
  have hl : lv_has ls 3 [(0, .ref d_o), (1, .int x1)] := hl
  unfold gX4_takesPart at hm
  refine lv_aload_n hx hb dX4_takesPart_0 rfl (lv_at hl 0 rfl) ?_
  refine lv_bipush (v := 33) hx hb dX4_takesPart_1 (by decide) ?_
  obtain ⟨r3, hc3, hm⟩ := bd1_e hm
  refine k_callGVi (dC := dC) (dI := dI) (kc := kc) (As := [.int 33]) (rest := []) (Gs' := [wdX4 kc d_o d_text dtext dlength dat dlibrary, wdX3 kc b_o b_sorts b_letters b_numbers bsorts bletters bnumbers bsize bbear]) hx hb hml hown hts hK hP hD hS hA (ctX4_isAt (d_o := d_o) (d_text := d_text) (dtext := dtext) (dlength := dlength) (dat := dat) (dlibrary := dlibrary) (x1 := 33) hc3) (cwV 1 hts gX4_takesPart_X4_isAt rfl rfl rfl (by decide +kernel) ⟨by dsimp only [headSpec, rmX4_takesPart, rmX4_isAt]; omega, by dsimp only [headSpec, rmX4_takesPart, rmX4_isAt]; omega⟩) [0] rfl (by decide) 4 rfl rfl rfl rfl hl rfl (Nat.le_of_ble_eq_true rfl) dX4_takesPart_3 ⟨Nat.zero_le _, Nat.zero_le _⟩ rfl rfl rfl (fun H locs hP hD hS => ?_)
  refine lv_if_ne (tgt := 23) hx hb dX4_takesPart_6 (by decide) (fun c6 => ?_) (fun c6 => ?_)
  · replace hm := it_f c6 hm
    refine lv_iload_n hx hb dX4_takesPart_23 rfl (lv_at hl 1 rfl) ?_
    refine lv_iconst (v := 4) hx hb dX4_takesPart_24 (by decide) ?_
    refine lv_icmp_lt (tgt := 30) hx hb dX4_takesPart_25 (by decide) (fun c25 => ?_) (fun c25 => ?_)
    · replace hm := it_t c25 hm
      refine lv_aload_n hx hb dX4_takesPart_30 rfl (lv_at hl 0 rfl) ?_
      refine lv_bipush (v := 33) hx hb dX4_takesPart_31 (by decide) ?_
      obtain ⟨r33, hc33, hm⟩ := bd1_e hm
      refine k_callGVi (dC := dC) (dI := dI) (kc := kc) (As := [.int 33]) (rest := []) (Gs' := [wdX4 kc d_o d_text dtext dlength dat dlibrary, wdX3 kc b_o b_sorts b_letters b_numbers bsorts bletters bnumbers bsize bbear]) hx hb hml hown hts hK hP hD hS hA (ctX4_isAt (d_o := d_o) (d_text := d_text) (dtext := dtext) (dlength := dlength) (dat := dat) (dlibrary := dlibrary) (x1 := 33) hc33) (cwV 1 hts gX4_takesPart_X4_isAt rfl rfl rfl (by decide +kernel) ⟨by dsimp only [headSpec, rmX4_takesPart, rmX4_isAt]; omega, by dsimp only [headSpec, rmX4_takesPart, rmX4_isAt]; omega⟩) [0] rfl (by decide) 4 rfl rfl rfl rfl hl rfl (Nat.le_of_ble_eq_true rfl) dX4_takesPart_33 ⟨Nat.zero_le _, Nat.zero_le _⟩ rfl rfl rfl (fun H locs hP hD hS => ?_)
      refine lv_istore_n (lv' := [(2, .int r33), (0, .ref d_o), (1, .int x1)]) hx hb dX4_takesPart_36 rfl hl (by decide) rfl (fun ls hl => ?_)
      refine lv_aload_n hx hb dX4_takesPart_37 rfl (lv_at hl 1 rfl) ?_
      refine lv_dup hx hb dX4_takesPart_38 rfl ?_
      refine va_get (D := (dC, dI)) (ci := 4) (v := .int dat) (C := RX4) (T := TX4) (N := 4) hx hb hts hinX4_takesPart_X4 hown hK hP 0 rfl rfl 2 (by decide) (hts _ (List.mem_of_getElem? (i := 1) rfl)) (fun _ h9 => h9) rfl dX4_takesPart_39 ?_
      refine lv_iconst (v := 1) hx hb dX4_takesPart_42 (by decide) ?_
      refine lv_iadd hx hb dX4_takesPart_43 ?_
      refine va_put (D := (dC, dI)) (ci := 4) (v := .int (dat + 1)) (ty := .int) (C := RX4) (T := TX4) (N := 4) hx hb hts hinX4_takesPart_X4 tyX4 tyX4_ok nmX4 hown hK hP hD hS 0 rfl rfl 2 (by decide) (hts _ (List.mem_of_getElem? (i := 1) rfl)) (fun _ h9 => h9) rfl (by decide +kernel) rfl rfl (Nat.le_of_ble_eq_true rfl) dX4_takesPart_44 (fun H locs hP hD hS => ?_)
      have hP : va_P (dC, dI) vwCl (fl [wdX4 kc d_o d_text dtext dlength (dat + 1) dlibrary, wdX3 kc b_o b_sorts b_letters b_numbers bsorts bletters bnumbers bsize bbear]) H := hP
      have hD : va_D A (fl [wdX4 kc d_o d_text dtext dlength (dat + 1) dlibrary, wdX3 kc b_o b_sorts b_letters b_numbers bsorts bletters bnumbers bsize bbear]) := hD
      refine lv_iload_n hx hb dX4_takesPart_47 rfl (lv_at hl 0 rfl) ?_
      refine lv_if_ne (tgt := 76) hx hb dX4_takesPart_48 (by decide) (fun c48 => ?_) (fun c48 => ?_)
      · replace hm := it_f c48 hm
        refine lv_aload_n hx hb dX4_takesPart_76 rfl (lv_at hl 1 rfl) ?_
        refine lv_iload_n hx hb dX4_takesPart_77 rfl (lv_at hl 2 rfl) ?_
        refine lv_iconst (v := 1) hx hb dX4_takesPart_78 (by decide) ?_
        refine lv_iadd hx hb dX4_takesPart_79 ?_
        obtain ⟨r80, dat_80, bsorts_80, bletters_80, bnumbers_80, bsize_80, hc80, hm⟩ := bd6_e hm
        refine k_callXGVi (dC := dC) (dI := dI) (kc := kc) (As := [.int (x1 + 1)]) (rest := []) (Gs' := [wdX4 kc d_o d_text dtext dlength dat_80 dlibrary, wdX3 kc b_o b_sorts b_letters b_numbers bsorts_80 bletters_80 bnumbers_80 bsize_80 bbear]) hx hb hml hown hts hK hP hD hS hA xR_ok hX (hF dtext dlength (dat + 1) dlibrary bsorts bletters bnumbers bsize bbear (x1 + 1) _ _ _ _ _ _ hc80 hkdlibrary) (cwV 1 hts gX4_takesPart_X4_takesPart rfl rfl rfl (by decide +kernel) ⟨by dsimp only [headSpec, rmX4_takesPart, rmX4_takesPart]; omega, by dsimp only [headSpec, rmX4_takesPart, rmX4_takesPart]; omega⟩) [0, 1] rfl (by decide) (va_recv (q0 := 0) (ci := 4) hK hP rfl rfl) rfl hl rfl (Nat.le_of_ble_eq_true rfl) dX4_takesPart_80 ⟨Nat.zero_le _, Nat.zero_le _⟩ rfl rfl rfl (fun H locs hP hD hS => ?_)
        refine lv_if_ne (tgt := 88) hx hb dX4_takesPart_83 (by decide) (fun c83 => ?_) (fun c83 => ?_)
        · replace hm := it_f c83 hm
          refine lv_aload_n hx hb dX4_takesPart_88 rfl (lv_at hl 1 rfl) ?_
          refine va_get (D := (dC, dI)) (ci := 4) (v := .ref b_o) (C := RX4) (T := TX4) (N := 4) hx hb hts hinX4_takesPart_X4 hown hK hP 0 rfl rfl 3 (by decide) (hts _ (List.mem_of_getElem? (i := 2) rfl)) (fun _ h9 => h9) (by show some (va_rf dlibrary) = some (.ref b_o); rw [hkdlibrary]; rfl) dX4_takesPart_89 ?_
          refine lv_iconst (v := 3) hx hb dX4_takesPart_92 (by decide) ?_
          refine lv_iconst (v := 0) hx hb dX4_takesPart_93 (by decide) ?_
          refine lv_iconst (v := 0) hx hb dX4_takesPart_94 (by decide) ?_
          obtain ⟨bsorts_95, bletters_95, bnumbers_95, bsize_95, hc95, hm⟩ := bd4_e hm
          refine k_callGVv (dC := dC) (dI := dI) (kc := kc) (As := [.int 3, .int 0, .int 0]) (rest := []) (Gs' := [wdX4 kc d_o d_text dtext dlength dat_80 dlibrary, wdX3 kc b_o b_sorts b_letters b_numbers bsorts_95 bletters_95 bnumbers_95 bsize_95 bbear]) hx hb hml hown hts hK hP hD hS hA (ctX3_put (b_o := b_o) (b_sorts := b_sorts) (b_letters := b_letters) (b_numbers := b_numbers) (bsorts := bsorts_80) (bletters := bletters_80) (bnumbers := bnumbers_80) (bsize := bsize_80) (bbear := bbear) (x1 := 3) (x2 := 0) (x3 := 0) hc95) (cwV 3 hts gX4_takesPart_X3_put rfl rfl rfl (by decide +kernel) ⟨by dsimp only [headSpec, rmX4_takesPart, rmX3_put]; omega, by dsimp only [headSpec, rmX4_takesPart, rmX3_put]; omega⟩) [1] rfl (by decide) 3 rfl rfl rfl rfl hl rfl (Nat.le_of_ble_eq_true rfl) dX4_takesPart_95 ⟨Nat.zero_le _, Nat.zero_le _⟩ rfl rfl rfl (fun H locs hP hD hS => ?_)
          refine lv_iconst (v := 1) hx hb dX4_takesPart_98 (by decide) ?_
          cases hm
          exact k_zret hx hb hr hlocks (by decide) hP hS dX4_takesPart_99
        · replace hm := it_t c83 hm
          refine lv_iconst (v := 0) hx hb dX4_takesPart_86 (by decide) ?_
          cases hm
          exact k_zret hx hb hr hlocks (by decide) hP hS dX4_takesPart_87
      · replace hm := it_t c48 hm
        refine lv_aload_n hx hb dX4_takesPart_51 rfl (lv_at hl 1 rfl) ?_
        refine lv_iload_n hx hb dX4_takesPart_52 rfl (lv_at hl 2 rfl) ?_
        refine lv_iconst (v := 1) hx hb dX4_takesPart_53 (by decide) ?_
        refine lv_iadd hx hb dX4_takesPart_54 ?_
        obtain ⟨r55, dat_55, bsorts_55, bletters_55, bnumbers_55, bsize_55, hc55, hm⟩ := bd6_e hm
        refine k_callXGVi (dC := dC) (dI := dI) (kc := kc) (As := [.int (x1 + 1)]) (rest := []) (Gs' := [wdX4 kc d_o d_text dtext dlength dat_55 dlibrary, wdX3 kc b_o b_sorts b_letters b_numbers bsorts_55 bletters_55 bnumbers_55 bsize_55 bbear]) hx hb hml hown hts hK hP hD hS hA xR_ok hX (ctX4_takesAnyOf (F := F) (n := n) (fu := fu) (d_o := d_o) (d_text := d_text) (b_o := b_o) (b_sorts := b_sorts) (b_letters := b_letters) (b_numbers := b_numbers) (dtext := dtext) (dlength := dlength) (dat := dat + 1) (dlibrary := dlibrary) (bsorts := bsorts) (bletters := bletters) (bnumbers := bnumbers) (bsize := bsize) (bbear := bbear) (x1 := x1 + 1) (adK := adK) (adV := adV) (sf := sf) hF hc55 hkdlibrary) (cwV 1 hts gX4_takesPart_X4_takesAnyOf rfl rfl rfl (by decide +kernel) ⟨by dsimp only [headSpec, rmX4_takesPart, rmX4_takesAnyOf]; omega, by dsimp only [headSpec, rmX4_takesPart, rmX4_takesAnyOf]; omega⟩) [0, 1] rfl (by decide) (va_recv (q0 := 0) (ci := 4) hK hP rfl rfl) rfl hl rfl (Nat.le_of_ble_eq_true rfl) dX4_takesPart_55 ⟨Nat.zero_le _, Nat.zero_le _⟩ rfl rfl rfl (fun H locs hP hD hS => ?_)
        refine lv_if_eq (tgt := 74) hx hb dX4_takesPart_58 (by decide) (fun c58 => ?_) (fun c58 => ?_)
        · replace hm := it_t c58 hm
          refine lv_iconst (v := 0) hx hb dX4_takesPart_74 (by decide) ?_
          cases hm
          exact k_zret hx hb hr hlocks (by decide) hP hS dX4_takesPart_75
        · replace hm := it_f c58 hm
          refine lv_aload_n hx hb dX4_takesPart_61 rfl (lv_at hl 1 rfl) ?_
          refine va_ldcS (index := 98) (tx := ")") (q := adK 5) hx hb hown (hX.2 5 (by decide)) dX4_takesPart_62 ?_
          obtain ⟨r64, dat_64, hc64, hm⟩ := bd2_e hm
          refine k_callXGVi (dC := dC) (dI := dI) (kc := kc) (As := [.ref (adK 5)]) (rest := []) (Gs' := [wdX4 kc d_o d_text dtext dlength dat_64 dlibrary, wdX3 kc b_o b_sorts b_letters b_numbers bsorts_55 bletters_55 bnumbers_55 bsize_55 bbear]) hx hb hml hown hts hK hP hD hS hA xW_ok (hX.1 5 (by decide)) (ctX4_takesWord (d_o := d_o) (d_text := d_text) (s_q := (adK 5)) (s_v := (adV 5)) (dtext := dtext) (dlength := dlength) (dat := dat_55) (dlibrary := dlibrary) (sL := 1) (sb := (tx 5)) (sf := sf) hc64) (cwV 1 hts gX4_takesPart_X4_takesWord rfl rfl rfl (by decide +kernel) ⟨by dsimp only [headSpec, rmX4_takesPart, rmX4_takesWord]; omega, by dsimp only [headSpec, rmX4_takesPart, rmX4_takesWord]; omega⟩) [0] rfl (by decide) (va_recv (q0 := 0) (ci := 4) hK hP rfl rfl) rfl hl rfl (Nat.le_of_ble_eq_true rfl) dX4_takesPart_64 ⟨Nat.zero_le _, Nat.zero_le _⟩ rfl rfl rfl (fun H locs hP hD hS => ?_)
          refine lv_if_eq (tgt := 74) hx hb dX4_takesPart_67 (by decide) (fun c67 => ?_) (fun c67 => ?_)
          · replace hm := it_t c67 hm
            refine lv_iconst (v := 0) hx hb dX4_takesPart_74 (by decide) ?_
            cases hm
            exact k_zret hx hb hr hlocks (by decide) hP hS dX4_takesPart_75
          · replace hm := it_f c67 hm
            refine lv_iconst (v := 1) hx hb dX4_takesPart_70 (by decide) ?_
            refine lv_goto (tgt := 75) hx hb dX4_takesPart_71 (by decide) ?_
            cases hm
            exact k_zret hx hb hr hlocks (by decide) hP hS dX4_takesPart_75
    · replace hm := it_f c25 hm
      refine lv_iconst (v := 0) hx hb dX4_takesPart_28 (by decide) ?_
      cases hm
      exact k_zret hx hb hr hlocks (by decide) hP hS dX4_takesPart_29
  · replace hm := it_t c6 hm
    refine lv_aload_n hx hb dX4_takesPart_9 rfl (lv_at hl 0 rfl) ?_
    refine lv_bipush (v := 40) hx hb dX4_takesPart_10 (by decide) ?_
    obtain ⟨r12, hc12, hm⟩ := bd1_e hm
    refine k_callGVi (dC := dC) (dI := dI) (kc := kc) (As := [.int 40]) (rest := []) (Gs' := [wdX4 kc d_o d_text dtext dlength dat dlibrary, wdX3 kc b_o b_sorts b_letters b_numbers bsorts bletters bnumbers bsize bbear]) hx hb hml hown hts hK hP hD hS hA (ctX4_isAt (d_o := d_o) (d_text := d_text) (dtext := dtext) (dlength := dlength) (dat := dat) (dlibrary := dlibrary) (x1 := 40) hc12) (cwV 1 hts gX4_takesPart_X4_isAt rfl rfl rfl (by decide +kernel) ⟨by dsimp only [headSpec, rmX4_takesPart, rmX4_isAt]; omega, by dsimp only [headSpec, rmX4_takesPart, rmX4_isAt]; omega⟩) [0] rfl (by decide) 4 rfl rfl rfl rfl hl rfl (Nat.le_of_ble_eq_true rfl) dX4_takesPart_12 ⟨Nat.zero_le _, Nat.zero_le _⟩ rfl rfl rfl (fun H locs hP hD hS => ?_)
    refine lv_if_ne (tgt := 23) hx hb dX4_takesPart_15 (by decide) (fun c15 => ?_) (fun c15 => ?_)
    · replace hm := it_f c15 hm
      refine lv_iload_n hx hb dX4_takesPart_23 rfl (lv_at hl 1 rfl) ?_
      refine lv_iconst (v := 4) hx hb dX4_takesPart_24 (by decide) ?_
      refine lv_icmp_lt (tgt := 30) hx hb dX4_takesPart_25 (by decide) (fun c25 => ?_) (fun c25 => ?_)
      · replace hm := it_t c25 hm
        refine lv_aload_n hx hb dX4_takesPart_30 rfl (lv_at hl 0 rfl) ?_
        refine lv_bipush (v := 33) hx hb dX4_takesPart_31 (by decide) ?_
        obtain ⟨r33, hc33, hm⟩ := bd1_e hm
        refine k_callGVi (dC := dC) (dI := dI) (kc := kc) (As := [.int 33]) (rest := []) (Gs' := [wdX4 kc d_o d_text dtext dlength dat dlibrary, wdX3 kc b_o b_sorts b_letters b_numbers bsorts bletters bnumbers bsize bbear]) hx hb hml hown hts hK hP hD hS hA (ctX4_isAt (d_o := d_o) (d_text := d_text) (dtext := dtext) (dlength := dlength) (dat := dat) (dlibrary := dlibrary) (x1 := 33) hc33) (cwV 1 hts gX4_takesPart_X4_isAt rfl rfl rfl (by decide +kernel) ⟨by dsimp only [headSpec, rmX4_takesPart, rmX4_isAt]; omega, by dsimp only [headSpec, rmX4_takesPart, rmX4_isAt]; omega⟩) [0] rfl (by decide) 4 rfl rfl rfl rfl hl rfl (Nat.le_of_ble_eq_true rfl) dX4_takesPart_33 ⟨Nat.zero_le _, Nat.zero_le _⟩ rfl rfl rfl (fun H locs hP hD hS => ?_)
        refine lv_istore_n (lv' := [(2, .int r33), (0, .ref d_o), (1, .int x1)]) hx hb dX4_takesPart_36 rfl hl (by decide) rfl (fun ls hl => ?_)
        refine lv_aload_n hx hb dX4_takesPart_37 rfl (lv_at hl 1 rfl) ?_
        refine lv_dup hx hb dX4_takesPart_38 rfl ?_
        refine va_get (D := (dC, dI)) (ci := 4) (v := .int dat) (C := RX4) (T := TX4) (N := 4) hx hb hts hinX4_takesPart_X4 hown hK hP 0 rfl rfl 2 (by decide) (hts _ (List.mem_of_getElem? (i := 1) rfl)) (fun _ h9 => h9) rfl dX4_takesPart_39 ?_
        refine lv_iconst (v := 1) hx hb dX4_takesPart_42 (by decide) ?_
        refine lv_iadd hx hb dX4_takesPart_43 ?_
        refine va_put (D := (dC, dI)) (ci := 4) (v := .int (dat + 1)) (ty := .int) (C := RX4) (T := TX4) (N := 4) hx hb hts hinX4_takesPart_X4 tyX4 tyX4_ok nmX4 hown hK hP hD hS 0 rfl rfl 2 (by decide) (hts _ (List.mem_of_getElem? (i := 1) rfl)) (fun _ h9 => h9) rfl (by decide +kernel) rfl rfl (Nat.le_of_ble_eq_true rfl) dX4_takesPart_44 (fun H locs hP hD hS => ?_)
        have hP : va_P (dC, dI) vwCl (fl [wdX4 kc d_o d_text dtext dlength (dat + 1) dlibrary, wdX3 kc b_o b_sorts b_letters b_numbers bsorts bletters bnumbers bsize bbear]) H := hP
        have hD : va_D A (fl [wdX4 kc d_o d_text dtext dlength (dat + 1) dlibrary, wdX3 kc b_o b_sorts b_letters b_numbers bsorts bletters bnumbers bsize bbear]) := hD
        refine lv_iload_n hx hb dX4_takesPart_47 rfl (lv_at hl 0 rfl) ?_
        refine lv_if_ne (tgt := 76) hx hb dX4_takesPart_48 (by decide) (fun c48 => ?_) (fun c48 => ?_)
        · replace hm := it_f c48 hm
          refine lv_aload_n hx hb dX4_takesPart_76 rfl (lv_at hl 1 rfl) ?_
          refine lv_iload_n hx hb dX4_takesPart_77 rfl (lv_at hl 2 rfl) ?_
          refine lv_iconst (v := 1) hx hb dX4_takesPart_78 (by decide) ?_
          refine lv_iadd hx hb dX4_takesPart_79 ?_
          obtain ⟨r80, dat_80, bsorts_80, bletters_80, bnumbers_80, bsize_80, hc80, hm⟩ := bd6_e hm
          refine k_callXGVi (dC := dC) (dI := dI) (kc := kc) (As := [.int (x1 + 1)]) (rest := []) (Gs' := [wdX4 kc d_o d_text dtext dlength dat_80 dlibrary, wdX3 kc b_o b_sorts b_letters b_numbers bsorts_80 bletters_80 bnumbers_80 bsize_80 bbear]) hx hb hml hown hts hK hP hD hS hA xR_ok hX (hF dtext dlength (dat + 1) dlibrary bsorts bletters bnumbers bsize bbear (x1 + 1) _ _ _ _ _ _ hc80 hkdlibrary) (cwV 1 hts gX4_takesPart_X4_takesPart rfl rfl rfl (by decide +kernel) ⟨by dsimp only [headSpec, rmX4_takesPart, rmX4_takesPart]; omega, by dsimp only [headSpec, rmX4_takesPart, rmX4_takesPart]; omega⟩) [0, 1] rfl (by decide) (va_recv (q0 := 0) (ci := 4) hK hP rfl rfl) rfl hl rfl (Nat.le_of_ble_eq_true rfl) dX4_takesPart_80 ⟨Nat.zero_le _, Nat.zero_le _⟩ rfl rfl rfl (fun H locs hP hD hS => ?_)
          refine lv_if_ne (tgt := 88) hx hb dX4_takesPart_83 (by decide) (fun c83 => ?_) (fun c83 => ?_)
          · replace hm := it_f c83 hm
            refine lv_aload_n hx hb dX4_takesPart_88 rfl (lv_at hl 1 rfl) ?_
            refine va_get (D := (dC, dI)) (ci := 4) (v := .ref b_o) (C := RX4) (T := TX4) (N := 4) hx hb hts hinX4_takesPart_X4 hown hK hP 0 rfl rfl 3 (by decide) (hts _ (List.mem_of_getElem? (i := 2) rfl)) (fun _ h9 => h9) (by show some (va_rf dlibrary) = some (.ref b_o); rw [hkdlibrary]; rfl) dX4_takesPart_89 ?_
            refine lv_iconst (v := 3) hx hb dX4_takesPart_92 (by decide) ?_
            refine lv_iconst (v := 0) hx hb dX4_takesPart_93 (by decide) ?_
            refine lv_iconst (v := 0) hx hb dX4_takesPart_94 (by decide) ?_
            obtain ⟨bsorts_95, bletters_95, bnumbers_95, bsize_95, hc95, hm⟩ := bd4_e hm
            refine k_callGVv (dC := dC) (dI := dI) (kc := kc) (As := [.int 3, .int 0, .int 0]) (rest := []) (Gs' := [wdX4 kc d_o d_text dtext dlength dat_80 dlibrary, wdX3 kc b_o b_sorts b_letters b_numbers bsorts_95 bletters_95 bnumbers_95 bsize_95 bbear]) hx hb hml hown hts hK hP hD hS hA (ctX3_put (b_o := b_o) (b_sorts := b_sorts) (b_letters := b_letters) (b_numbers := b_numbers) (bsorts := bsorts_80) (bletters := bletters_80) (bnumbers := bnumbers_80) (bsize := bsize_80) (bbear := bbear) (x1 := 3) (x2 := 0) (x3 := 0) hc95) (cwV 3 hts gX4_takesPart_X3_put rfl rfl rfl (by decide +kernel) ⟨by dsimp only [headSpec, rmX4_takesPart, rmX3_put]; omega, by dsimp only [headSpec, rmX4_takesPart, rmX3_put]; omega⟩) [1] rfl (by decide) 3 rfl rfl rfl rfl hl rfl (Nat.le_of_ble_eq_true rfl) dX4_takesPart_95 ⟨Nat.zero_le _, Nat.zero_le _⟩ rfl rfl rfl (fun H locs hP hD hS => ?_)
            refine lv_iconst (v := 1) hx hb dX4_takesPart_98 (by decide) ?_
            cases hm
            exact k_zret hx hb hr hlocks (by decide) hP hS dX4_takesPart_99
          · replace hm := it_t c83 hm
            refine lv_iconst (v := 0) hx hb dX4_takesPart_86 (by decide) ?_
            cases hm
            exact k_zret hx hb hr hlocks (by decide) hP hS dX4_takesPart_87
        · replace hm := it_t c48 hm
          refine lv_aload_n hx hb dX4_takesPart_51 rfl (lv_at hl 1 rfl) ?_
          refine lv_iload_n hx hb dX4_takesPart_52 rfl (lv_at hl 2 rfl) ?_
          refine lv_iconst (v := 1) hx hb dX4_takesPart_53 (by decide) ?_
          refine lv_iadd hx hb dX4_takesPart_54 ?_
          obtain ⟨r55, dat_55, bsorts_55, bletters_55, bnumbers_55, bsize_55, hc55, hm⟩ := bd6_e hm
          refine k_callXGVi (dC := dC) (dI := dI) (kc := kc) (As := [.int (x1 + 1)]) (rest := []) (Gs' := [wdX4 kc d_o d_text dtext dlength dat_55 dlibrary, wdX3 kc b_o b_sorts b_letters b_numbers bsorts_55 bletters_55 bnumbers_55 bsize_55 bbear]) hx hb hml hown hts hK hP hD hS hA xR_ok hX (ctX4_takesAnyOf (F := F) (n := n) (fu := fu) (d_o := d_o) (d_text := d_text) (b_o := b_o) (b_sorts := b_sorts) (b_letters := b_letters) (b_numbers := b_numbers) (dtext := dtext) (dlength := dlength) (dat := dat + 1) (dlibrary := dlibrary) (bsorts := bsorts) (bletters := bletters) (bnumbers := bnumbers) (bsize := bsize) (bbear := bbear) (x1 := x1 + 1) (adK := adK) (adV := adV) (sf := sf) hF hc55 hkdlibrary) (cwV 1 hts gX4_takesPart_X4_takesAnyOf rfl rfl rfl (by decide +kernel) ⟨by dsimp only [headSpec, rmX4_takesPart, rmX4_takesAnyOf]; omega, by dsimp only [headSpec, rmX4_takesPart, rmX4_takesAnyOf]; omega⟩) [0, 1] rfl (by decide) (va_recv (q0 := 0) (ci := 4) hK hP rfl rfl) rfl hl rfl (Nat.le_of_ble_eq_true rfl) dX4_takesPart_55 ⟨Nat.zero_le _, Nat.zero_le _⟩ rfl rfl rfl (fun H locs hP hD hS => ?_)
          refine lv_if_eq (tgt := 74) hx hb dX4_takesPart_58 (by decide) (fun c58 => ?_) (fun c58 => ?_)
          · replace hm := it_t c58 hm
            refine lv_iconst (v := 0) hx hb dX4_takesPart_74 (by decide) ?_
            cases hm
            exact k_zret hx hb hr hlocks (by decide) hP hS dX4_takesPart_75
          · replace hm := it_f c58 hm
            refine lv_aload_n hx hb dX4_takesPart_61 rfl (lv_at hl 1 rfl) ?_
            refine va_ldcS (index := 98) (tx := ")") (q := adK 5) hx hb hown (hX.2 5 (by decide)) dX4_takesPart_62 ?_
            obtain ⟨r64, dat_64, hc64, hm⟩ := bd2_e hm
            refine k_callXGVi (dC := dC) (dI := dI) (kc := kc) (As := [.ref (adK 5)]) (rest := []) (Gs' := [wdX4 kc d_o d_text dtext dlength dat_64 dlibrary, wdX3 kc b_o b_sorts b_letters b_numbers bsorts_55 bletters_55 bnumbers_55 bsize_55 bbear]) hx hb hml hown hts hK hP hD hS hA xW_ok (hX.1 5 (by decide)) (ctX4_takesWord (d_o := d_o) (d_text := d_text) (s_q := (adK 5)) (s_v := (adV 5)) (dtext := dtext) (dlength := dlength) (dat := dat_55) (dlibrary := dlibrary) (sL := 1) (sb := (tx 5)) (sf := sf) hc64) (cwV 1 hts gX4_takesPart_X4_takesWord rfl rfl rfl (by decide +kernel) ⟨by dsimp only [headSpec, rmX4_takesPart, rmX4_takesWord]; omega, by dsimp only [headSpec, rmX4_takesPart, rmX4_takesWord]; omega⟩) [0] rfl (by decide) (va_recv (q0 := 0) (ci := 4) hK hP rfl rfl) rfl hl rfl (Nat.le_of_ble_eq_true rfl) dX4_takesPart_64 ⟨Nat.zero_le _, Nat.zero_le _⟩ rfl rfl rfl (fun H locs hP hD hS => ?_)
            refine lv_if_eq (tgt := 74) hx hb dX4_takesPart_67 (by decide) (fun c67 => ?_) (fun c67 => ?_)
            · replace hm := it_t c67 hm
              refine lv_iconst (v := 0) hx hb dX4_takesPart_74 (by decide) ?_
              cases hm
              exact k_zret hx hb hr hlocks (by decide) hP hS dX4_takesPart_75
            · replace hm := it_f c67 hm
              refine lv_iconst (v := 1) hx hb dX4_takesPart_70 (by decide) ?_
              refine lv_goto (tgt := 75) hx hb dX4_takesPart_71 (by decide) ?_
              cases hm
              exact k_zret hx hb hr hlocks (by decide) hP hS dX4_takesPart_75
      · replace hm := it_f c25 hm
        refine lv_iconst (v := 0) hx hb dX4_takesPart_28 (by decide) ?_
        cases hm
        exact k_zret hx hb hr hlocks (by decide) hP hS dX4_takesPart_29
    · replace hm := it_t c15 hm
      refine lv_aload_n hx hb dX4_takesPart_18 rfl (lv_at hl 0 rfl) ?_
      obtain ⟨r19, dat_19, bsorts_19, bletters_19, bnumbers_19, bsize_19, hc19, hm⟩ := bd6_e hm
      refine k_callXGVi (dC := dC) (dI := dI) (kc := kc) (As := []) (rest := []) (Gs' := [wdX4 kc d_o d_text dtext dlength dat_19 dlibrary, wdX3 kc b_o b_sorts b_letters b_numbers bsorts_19 bletters_19 bnumbers_19 bsize_19 bbear]) hx hb hml hown hts hK hP hD hS hA xR_ok hX (ctX4_takesTest (d_o := d_o) (d_text := d_text) (b_o := b_o) (b_sorts := b_sorts) (b_letters := b_letters) (b_numbers := b_numbers) (dtext := dtext) (dlength := dlength) (dat := dat) (dlibrary := dlibrary) (bsorts := bsorts) (bletters := bletters) (bnumbers := bnumbers) (bsize := bsize) (bbear := bbear) (adK := adK) (adV := adV) (sf := sf) hc19 hkdlibrary) (cwV 0 hts gX4_takesPart_X4_takesTest rfl rfl rfl (by decide +kernel) ⟨by dsimp only [headSpec, rmX4_takesPart, rmX4_takesTest]; omega, by dsimp only [headSpec, rmX4_takesPart, rmX4_takesTest]; omega⟩) [0, 1] rfl (by decide) (va_recv (q0 := 0) (ci := 4) hK hP rfl rfl) rfl hl rfl (Nat.le_of_ble_eq_true rfl) dX4_takesPart_19 ⟨Nat.zero_le _, Nat.zero_le _⟩ rfl rfl rfl (fun H locs hP hD hS => ?_)
      obtain ⟨hz22, hm⟩ := gd_e hm
      cases hm
      exact k_zret hx hb hr hlocks hz22 hP hS dX4_takesPart_22
def fX4_takesPart (fu : Nat) : Nat → (Nat → Int32) → Int32 → Int32 → (Option Nat) → (Nat → Int32) → (Nat → Int32) → (Nat → Int32) → Int32 → Int32 → Option (Int32 × Int32 × (Nat → Int32) × (Nat → Int32) × (Nat → Int32) × Int32)
  | 0, _, _, _, _, _, _, _, _, _ => none
  | n + 1, dtext, dlength, dat, dlibrary, bsorts, bletters, bnumbers, bsize, x1 => gX4_takesPart (fX4_takesPart fu n) fu dtext dlength dat dlibrary bsorts bletters bnumbers bsize x1
theorem hFX4_takesPart {l : Launch} {dC : Nat → ClassId} {dI : Nat → Nat → Nat} {kc : Nat → ClassId} {d_o d_text b_o b_sorts b_letters b_numbers : Nat} {adK adV : Nat → Nat} {sf : Option Nat} {fu : Nat} : ∀ {n : Nat}, HFX4_takesPart l dC dI kc d_o d_text b_o b_sorts b_letters b_numbers adK adV sf (fX4_takesPart fu n) n := by
  intro n
  induction n with
  | zero => intro dtext dlength dat dlibrary bsorts bletters bnumbers bsize bbear x1 r dat' bsorts' bletters' bnumbers' bsize' hm; rw [fX4_takesPart] at hm; cases hm
  | succ n ih => intro dtext dlength dat dlibrary bsorts bletters bnumbers bsize bbear x1 r dat' bsorts' bletters' bnumbers' bsize' hm hkdlibrary; rw [fX4_takesPart] at hm; exact ctgX4_takesPart ih hm hkdlibrary
