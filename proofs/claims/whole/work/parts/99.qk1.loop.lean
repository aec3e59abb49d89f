theorem and63 (x : Int32) : ∃ z, z < 64 ∧ x &&& 63 = nI z := by
  have h1 : (x &&& 63).toBitVec.toNat < 64 := by
    rw [Int32.toBitVec_and, BitVec.toNat_and]
    have : (63 : Int32).toBitVec.toNat = 63 := by decide
    rw [this]
    have := Nat.and_le_right (n := x.toBitVec.toNat) (m := 63)
    omega
  refine ⟨(x &&& 63).toBitVec.toNat, h1, ?_⟩
  apply Int32.toBitVec_inj.mp
  apply BitVec.eq_of_toNat_eq
  have h2 : (nI (x &&& 63).toBitVec.toNat).toBitVec.toNat = (x &&& 63).toBitVec.toNat := by
    have : ∀ z, z < 64 → (nI z).toBitVec.toNat = z := by decide +kernel
    exact this _ h1
  exact h2.symm
set_option maxHeartbeats 4000000 in
set_option maxRecDepth 20000 in
theorem law_loop {p : Program} {l : Launch} {e : Env} {s : State} {m : MethodId} {below : List Frame} {meth : Method} {c : Code} {dC : Nat → ClassId} {dI : Nat → Nat → Nat} {kc : Nat → ClassId} {b L h k : Nat} {xs : Nat → Int32} {u v : Nat → Nat} {adK adV : Nat → Nat} {sf : Option Nat} {tB tK : Nat} (LW : lwH p s m meth c b L xs dC dI kc (fun q : Nat => s.heap.size ≤ q) adK adV sf tB tK) (hr : meth.sig.returnType = ret) (hlocks : meth.locks = false) : ∀ (N i : Nat) (oh : Int32) (R : Nat) (P : Nat) (Lf : Nat) (S : Nat) (kind : AI) (vv : AI) (rows : AI) (len : AI) (q : Q5) (lib : Option Nat) (dr : AI) (tr : AI) (g : T14) (t : T14) (n : N10) (j : N10) (dt : AI) (nT : Nat) (da : Int32) (dl : Option Nat) (ct : AI) (ra : Nat) (nu : Int32) (cv : Int32) (ck : Int32) (LL : Nat → L5) (ZZ : Nat → Z3) (now : AI) (mi : AI) (th : AI) (kp : Int32) (mt : AI) (txd : Int32) (rules : AI) (sizes : AI) (rul : Int32) (jj : J9) (lt : AI) (bg : AI) (wd : AI) (ab : AI) (bo : AI) (mtr : AI) (mrn : Int32) (so : AI) (le : AI) (it : AL) (mo : AL) (H : Heap) (locs : List Loc) (ls : Array Slot), i ≤ L → L - i < N → lv_has ls 4 [(0, .ref b), (1, .ref h), (2, .ref k), (3, .int (nI i))] → REL u oh R P Lf S kind vv rows len q lib dr tr g t n j dt nT da dl ct ra nu cv ck LL ZZ now mi th kp mt txd rules sizes rul jj lt bg wd ab bo mtr mrn so le it mo → va_P (dC, dI) vwCl (fl (WG kc h u k v oh R P Lf S kind vv rows len q lib dr tr g t n j dt nT da dl ct ra nu cv ck LL ZZ now mi th kp mt txd rules sizes rul jj lt bg wd ab bo mtr mrn so le it mo)) H → va_D (fun q : Nat => s.heap.size ≤ q) (fl (WG kc h u k v oh R P Lf S kind vv rows len q lib dr tr g t n j dt nT da dl ct ra nu cv ck LL ZZ now mi th kp mt txd rules sizes rul jj lt bg wd ab bo mtr mrn so le it mo)) → va_S (fun q : Nat => s.heap.size ≤ q) s.heap H locs → W p l e room_1 s m #[Value.ref b] below meth c H locs 110 4413 (lw_Z below #[Value.ref b] s) (F0 m 18 ls []) := by
  obtain ⟨hx, hb, hml, hown, hts, hK, hX, hbl, hbA, hA, hxR, hxB, hL⟩ := id LW
  intro N
  induction N with
  | zero => intro i oh R P Lf S kind vv rows len q lib dr tr g t n j dt nT da dl ct ra nu cv ck LL ZZ now mi th kp mt txd rules sizes rul jj lt bg wd ab bo mtr mrn so le it mo H locs ls _ h; omega
  | succ N ih =>
    intro i oh R P Lf S kind vv rows len q lib dr tr g t n j dt nT da dl ct ra nu cv ck LL ZZ now mi th kp mt txd rules sizes rul jj lt bg wd ab bo mtr mrn so le it mo H locs ls hi hN hl RR hP hD hS
    refine lv_iload_n hx hb dL_law_18 rfl (lv_at hl 3 rfl) ?_
    refine lv_aload_n hx hb dL_law_19 rfl (lv_at hl 0 rfl) ?_
    refine va_slen hx hb hX hbl hbA hS dL_law_20 ?_
    refine lv_bipush (v := 6) hx hb dL_law_21 (by decide) ?_
    refine lv_isub hx hb dL_law_23 ?_
    have hsub : (Int32.ofNat L - 6 : Int32).toInt = (L : Int) - 6 := by
      have h1 : (Int32.ofNat L - 6 : Int32) = nI L - nI 6 := rfl
      rw [h1, Int32.toInt_sub, nI_toInt (by omega), nI_toInt (by omega)]
      exact Int.bmod_eq_of_le_mul_two (by omega) (by omega)
    refine lv_icmp_gt (tgt := 1338) hx hb dL_law_24 (by decide) (fun c9 => ?_) (fun c9 => ?_)
    · refine lv_iconst (v := 1) hx hb dL_law_1338 (by decide) ?_
      refine va_forget (fun q hq => hS.2.2 q hq) ?_
      refine W.widen (k := 600000) (n := 7302250) (Nat.le_of_ble_eq_true rfl) (Nat.le_of_ble_eq_true rfl) ?_
      exact lw_ret hx hb hr hlocks dL_law_1339
    · have hi6 : i + 6 ≤ L := by
        have h1 : ¬ ((Int32.ofNat L - 6 : Int32).toInt < (nI i).toInt) := fun z => c9 (Int32.lt_iff_toInt_lt.mpr z)
        rw [hsub, nI_toInt (by omega)] at h1
        omega
      have G : lwG p l e s m b below meth c (lw_Z below #[Value.ref b] s) dC dI kc (fun q : Nat => s.heap.size ≤ q) h u k v ls := by
        intro oh R P Lf S kind vv rows len q lib dr tr g t n j dt nT da dl ct ra nu cv ck LL ZZ now mi th kp mt txd rules sizes rul jj lt bg wd ab bo mtr mrn so le it mo H locs RR hP hD hS
        refine lv_iinc (v := nI (i + 6)) (lv' := [(3, .int (nI (i + 6))), (0, .ref b), (1, .ref h), (2, .ref k)]) hx hb dL_law_1332 hl (k := 3) rfl (by show nI i + nI 6 = _; exact nI_add i 6) (by decide) rfl (fun ls hl => ?_)
        refine lv_goto (tgt := 18) hx hb dL_law_1335 (by decide) ?_
        exact ih (i + 6) oh R P Lf S kind vv rows len q lib dr tr g t n j dt nT da dl ct ra nu cv ck LL ZZ now mi th kp mt txd rules sizes rul jj lt bg wd ab bo mtr mrn so le it mo H locs ls (by omega) (by omega) (lv_sub hl [1, 2, 3, 0] rfl) RR hP hD hS
      refine lv_aload_n hx hb dL_law_27 rfl (lv_at hl 0 rfl) ?_
      refine lv_iload_n hx hb dL_law_28 rfl (lv_at hl 3 rfl) ?_
      refine va_sld hx hb hX hbl hbA hS (vp_in_nI (show i < L by omega) (by omega)) dL_law_29 ?_
      refine lv_bipush (v := 63) hx hb dL_law_30 (by decide) ?_
      refine lv_iand hx hb dL_law_32 ?_
      obtain ⟨z, hz, ez⟩ := and63 (xs (nI i).toNatClampNeg)
      rw [ez]
      by_cases hz35 : z < 35
      · rcases (show z = 0 ∨ z = 1 ∨ z = 2 ∨ z = 3 ∨ z = 4 ∨ z = 5 ∨ z = 6 ∨ z = 7 ∨ z = 8 ∨ z = 9 ∨ z = 10 ∨ z = 11 ∨ z = 12 ∨ z = 13 ∨ z = 14 ∨ z = 15 ∨ z = 16 ∨ z = 17 ∨ z = 18 ∨ z = 19 ∨ z = 20 ∨ z = 21 ∨ z = 22 ∨ z = 23 ∨ z = 24 ∨ z = 25 ∨ z = 26 ∨ z = 27 ∨ z = 28 ∨ z = 29 ∨ z = 30 ∨ z = 31 ∨ z = 32 ∨ z = 33 ∨ z = 34 by omega) with rfl | rfl | rfl | rfl | rfl | rfl | rfl | rfl | rfl | rfl | rfl | rfl | rfl | rfl | rfl | rfl | rfl | rfl | rfl | rfl | rfl | rfl | rfl | rfl | rfl | rfl | rfl | rfl | rfl | rfl | rfl | rfl | rfl | rfl | rfl
        · refine lv_tableIn (off := 155) (tgt := 188) hx hb dL_law_33 (by decide) (by decide) (by decide) (by decide) ?_
          exact lawC_one LW hi6 hl RR hP hD hS G
        · refine lv_tableIn (off := 198) (tgt := 231) hx hb dL_law_33 (by decide) (by decide) (by decide) (by decide) ?_
          exact lawC_of LW hi6 hl RR hP hD hS G
        · refine lv_tableIn (off := 231) (tgt := 264) hx hb dL_law_33 (by decide) (by decide) (by decide) (by decide) ?_
          exact lawC_leaf LW hi6 hl RR hP hD hS G
        · refine lv_tableIn (off := 254) (tgt := 287) hx hb dL_law_33 (by decide) (by decide) (by decide) (by decide) ?_
          exact lawC_sheet LW hi6 hl RR hP hD hS G
        · refine lv_tableIn (off := 287) (tgt := 320) hx hb dL_law_33 (by decide) (by decide) (by decide) (by decide) ?_
          exact lawC_gap LW hi6 hl RR hP hD hS G
        · refine lv_tableIn (off := 310) (tgt := 343) hx hb dL_law_33 (by decide) (by decide) (by decide) (by decide) ?_
          exact lawC_hold LW hi6 hl RR hP hD hS G
        · refine lv_tableIn (off := 353) (tgt := 386) hx hb dL_law_33 (by decide) (by decide) (by decide) (by decide) ?_
          exact lawC_free LW hi6 hl RR hP hD hS G
        · refine lv_tableIn (off := 376) (tgt := 409) hx hb dL_law_33 (by decide) (by decide) (by decide) (by decide) ?_
          exact lawC_walk LW hi6 hl RR hP hD hS G
        · refine lv_tableIn (off := 409) (tgt := 442) hx hb dL_law_33 (by decide) (by decide) (by decide) (by decide) ?_
          exact lawC_row LW hi6 hl RR hP hD hS G
        · refine lv_tableIn (off := 452) (tgt := 485) hx hb dL_law_33 (by decide) (by decide) (by decide) (by decide) ?_
          exact lawC_feed LW hi6 hl RR hP hD hS G
        · refine lv_tableIn (off := 475) (tgt := 508) hx hb dL_law_33 (by decide) (by decide) (by decide) (by decide) ?_
          exact lawC_library LW hi6 hl RR hP hD hS G
        · refine lv_tableIn (off := 488) (tgt := 521) hx hb dL_law_33 (by decide) (by decide) (by decide) (by decide) ?_
          exact lawC_told LW hi6 hl RR hP hD hS G
        · refine lv_tableIn (off := 511) (tgt := 544) hx hb dL_law_33 (by decide) (by decide) (by decide) (by decide) ?_
          exact lawC_pass LW hi6 hl RR hP hD hS G
        · refine lv_tableIn (off := 534) (tgt := 567) hx hb dL_law_33 (by decide) (by decide) (by decide) (by decide) ?_
          exact lawC_on LW hi6 hl RR hP hD hS G
        · refine lv_tableIn (off := 567) (tgt := 600) hx hb dL_law_33 (by decide) (by decide) (by decide) (by decide) ?_
          exact lawC_meets LW hi6 hl RR hP hD hS G
        · refine lv_tableIn (off := 600) (tgt := 633) hx hb dL_law_33 (by decide) (by decide) (by decide) (by decide) ?_
          exact lawC_best LW hi6 hl RR hP hD hS G
        · refine lv_tableIn (off := 633) (tgt := 666) hx hb dL_law_33 (by decide) (by decide) (by decide) (by decide) ?_
          exact lawC_see LW hi6 hl RR hP hD hS G
        · refine lv_tableIn (off := 692) (tgt := 725) hx hb dL_law_33 (by decide) (by decide) (by decide) (by decide) ?_
          exact lawC_can LW hi6 hl RR hP hD hS G
        · refine lv_tableIn (off := 725) (tgt := 758) hx hb dL_law_33 (by decide) (by decide) (by decide) (by decide) ?_
          exact lawC_odds LW hi6 hl RR hP hD hS G
        · refine lv_tableIn (off := 769) (tgt := 802) hx hb dL_law_33 (by decide) (by decide) (by decide) (by decide) ?_
          exact lawC_mean LW hi6 hl RR hP hD hS G
        · refine lv_tableIn (off := 803) (tgt := 836) hx hb dL_law_33 (by decide) (by decide) (by decide) (by decide) ?_
          exact lawC_plan LW hi6 hl RR hP hD hS G
        · refine lv_tableIn (off := 836) (tgt := 869) hx hb dL_law_33 (by decide) (by decide) (by decide) (by decide) ?_
          exact lawC_ends LW hi6 hl RR hP hD hS G
        · refine lv_tableIn (off := 859) (tgt := 892) hx hb dL_law_33 (by decide) (by decide) (by decide) (by decide) ?_
          exact lawC_book LW hi6 hl RR hP hD hS G
        · refine lv_tableIn (off := 892) (tgt := 925) hx hb dL_law_33 (by decide) (by decide) (by decide) (by decide) ?_
          exact lawC_looked LW hi6 hl RR hP hD hS G
        · refine lv_tableIn (off := 905) (tgt := 938) hx hb dL_law_33 (by decide) (by decide) (by decide) (by decide) ?_
          exact lawC_judge LW hi6 hl RR hP hD hS G
        · refine lv_tableIn (off := 938) (tgt := 971) hx hb dL_law_33 (by decide) (by decide) (by decide) (by decide) ?_
          exact lawC_image LW hi6 hl RR hP hD hS G
        · refine lv_tableIn (off := 951) (tgt := 984) hx hb dL_law_33 (by decide) (by decide) (by decide) (by decide) ?_
          exact lawC_undo LW hi6 hl RR hP hD hS G
        · refine lv_tableIn (off := 964) (tgt := 997) hx hb dL_law_33 (by decide) (by decide) (by decide) (by decide) ?_
          exact lawC_act LW hi6 hl RR hP hD hS G
        · refine lv_tableIn (off := 1007) (tgt := 1040) hx hb dL_law_33 (by decide) (by decide) (by decide) (by decide) ?_
          exact lawC_trace LW hi6 hl RR hP hD hS G
        · refine lv_tableIn (off := 1030) (tgt := 1063) hx hb dL_law_33 (by decide) (by decide) (by decide) (by decide) ?_
          exact lawC_taken LW hi6 hl RR hP hD hS G
        · refine lv_tableIn (off := 1063) (tgt := 1096) hx hb dL_law_33 (by decide) (by decide) (by decide) (by decide) ?_
          exact lawC_count LW hi6 hl RR hP hD hS G
        · refine lv_tableIn (off := 1086) (tgt := 1119) hx hb dL_law_33 (by decide) (by decide) (by decide) (by decide) ?_
          exact lawC_tape LW hi6 hl RR hP hD hS G
        · refine lv_tableIn (off := 1129) (tgt := 1162) hx hb dL_law_33 (by decide) (by decide) (by decide) (by decide) ?_
          exact lawC_item LW hi6 hl RR hP hD hS G
        · refine lv_tableIn (off := 1202) (tgt := 1235) hx hb dL_law_33 (by decide) (by decide) (by decide) (by decide) ?_
          exact lawC_read LW hi6 hl RR hP hD hS G
        · refine lv_tableIn (off := 1236) (tgt := 1269) hx hb dL_law_33 (by decide) (by decide) (by decide) (by decide) ?_
          exact lawC_shift LW hi6 hl RR hP hD hS G
      · refine lv_tableOut (tgt := 1332) hx hb dL_law_33 (Or.inr ?_) (by decide) ?_
        · rw [nI_toInt (by omega)]; omega
        · exact G oh R P Lf S kind vv rows len q lib dr tr g t n j dt nT da dl ct ra nu cv ck LL ZZ now mi th kp mt txd rules sizes rul jj lt bg wd ab bo mtr mrn so le it mo H locs RR hP hD hS
