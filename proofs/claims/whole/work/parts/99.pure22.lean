/-! ===== odds ===== -/
theorem hN_16 (f : AI) {Lf : Nat} (h : Lf ≤ 4) : hN f Lf < 16 := Nat.lt_of_lt_of_le (hN_lt f Lf) (show 2 ^ Lf ≤ 2 ^ 4 from Nat.pow_le_pow_right (by omega) h)
/-- all but the two who hold leaf k -/
def AgH (k : Nat) (now now' : AI) : Prop := ∀ i, i ≠ 43 + 3 * k → i ≠ 44 + 3 * k → now' i = now i
theorem AgH_upd {k : Nat} {now now' : AI} (x y : Int32) (h : AgH k now now') : upd (upd now' (43 + 3 * k) x) (44 + 3 * k) y = upd (upd now (43 + 3 * k) x) (44 + 3 * k) y := by
  funext i
  unfold upd
  by_cases e1 : i = 44 + 3 * k
  · rw [if_pos e1, if_pos e1]
  · rw [if_neg e1, if_neg e1]
    by_cases e2 : i = 43 + 3 * k
    · rw [if_pos e2, if_pos e2]
    · rw [if_neg e2, if_neg e2]; exact h i e2 e1
theorem AgH_self {k : Nat} {now : AI} {x y : Int32} (hx : now (43 + 3 * k) = x) (hy : now (44 + 3 * k) = y) : upd (upd now (43 + 3 * k) x) (44 + 3 * k) y = now := by
  funext i
  unfold upd
  by_cases e1 : i = 44 + 3 * k
  · rw [if_pos e1, e1, hy]
  · rw [if_neg e1]
    by_cases e2 : i = 43 + 3 * k
    · rw [if_pos e2, e2, hx]
    · rw [if_neg e2]
theorem HR_give {P Lf S k a b : Nat} {kind v rows len : AI} {q : Q5} {now : AI} (H : HR P Lf S kind v rows len q now) (hk : k < Lf) (ha : a < P) (hb : b < P) : HR P Lf S kind v rows len (q.1, upd q.2.1 k (nI a), upd q.2.2.1 k (nI b), q.2.2.2) (upd (upd now (43 + 3 * k) (nI a)) (44 + 3 * k) (nI b)) := by
  obtain ⟨hk2, hl, hq, h⟩ := H
  have hP := hk2.1
  exact ⟨hk2, hl, ⟨pOk_give hq.1 ha hb, hq.2.1, hq.2.2⟩, RM_hold hP hl.1 h hk (enc_n (by omega)).symm (enc_n (by omega)).symm⟩
theorem give_c {f s : AI} {k : Nat} {x y : Int32} (hk : k < 4) : fX2_give f s (nI k) x y = some (upd f k x, upd s k y) := by
  have hb : inb (nI k) 4 := inb_n hk (by decide)
  unfold fX2_give
  rw [gd_t hb, gd_t hb, nI_clamp (by omega)]
theorem on2_m {P Lf S : Nat} {kind v rows len : AI} {q : Q5} {now rules sizes lt bg wd : AI} {SUM : AI → Int32} {BR : Int32} {rd nm dr mi : AI} {sz a w wi s b : Int32} {n : Nat} (H : HR P Lf S kind v rows len q now) (hS : S < 2 ^ 20) (hn : n ≤ 60) (hM : SumM SUM BR FU (now 58) rules sizes lt bg wd) (hc : ∀ tr tr' : AI, (∀ i, i < 6 → tr i = tr' i) → SUM tr = SUM tr') : ∃ mi' rd' sz' a' w' wi' s' b' nm' dr', fX8_on FU now mi rules sizes rd sz a w wi s b nm lt bg wd dr (nI n) 2 = some (nI (hN (itr (stp P Lf kind v rows len SUM BR) n q).2.1 Lf), now, mi', rd', sz', a', w', wi', s', b', nm', dr') := by
  obtain ⟨now', rd1, sz1, a1, w1, wi1, s1, b1, nm1, dr1, g2, g3, g4⟩ := stN (rd := rd) (nm := nm) (dr := dr) (sz := sz) (a := a) (w := w) (wi := wi) (s := s) (b := b) (n := n) H hS hn hM hc
  have hbk : mv (mv now mi) now' = now := mv_back g4
  unfold fX8_on
  rw [show fX8_isIn 2 0 2 = some 1 from rfl, bd1_s, i1, show (60 : Int32) = nI 60 from rfl, isIn_y rfl (by omega) hn, bd1_s, i1, move_m, bd1_s, g2, bd10_s, if_neg (by decide), if_neg (by decide), if_pos rfl, (helds_N g3).2, bd1_s, move_m, bd1_s, hbk]
  exact ⟨_, _, _, _, _, _, _, _, _, _, rfl⟩
theorem on0_m {P Lf S : Nat} {kind v rows len : AI} {q : Q5} {now rules sizes lt bg wd : AI} {SUM : AI → Int32} {BR : Int32} {rd nm dr mi : AI} {sz a w wi s b : Int32} {n : Nat} (H : HR P Lf S kind v rows len q now) (hS : S < 2 ^ 20) (hn : n ≤ 60) (hM : SumM SUM BR FU (now 58) rules sizes lt bg wd) (hc : ∀ tr tr' : AI, (∀ i, i < 6 → tr i = tr' i) → SUM tr = SUM tr') : ∃ mi' rd' sz' a' w' wi' s' b' nm' dr', fX8_on FU now mi rules sizes rd sz a w wi s b nm lt bg wd dr (nI n) 0 = some ((itr (stp P Lf kind v rows len SUM BR) n q).2.2.2.1, now, mi', rd', sz', a', w', wi', s', b', nm', dr') := by
  obtain ⟨now', rd1, sz1, a1, w1, wi1, s1, b1, nm1, dr1, g2, g3, g4⟩ := stN (rd := rd) (nm := nm) (dr := dr) (sz := sz) (a := a) (w := w) (wi := wi) (s := s) (b := b) (n := n) H hS hn hM hc
  have hbk : mv (mv now mi) now' = now := mv_back g4
  unfold fX8_on
  rw [show fX8_isIn 0 0 2 = some 1 from rfl, bd1_s, i1, show (60 : Int32) = nI 60 from rfl, isIn_y rfl (by omega) hn, bd1_s, i1, move_m, bd1_s, g2, bd10_s, if_pos rfl, move_m, bd1_s, hbk, g3.2.2.2.2.2.1]
  exact ⟨_, _, _, _, _, _, _, _, _, _, rfl⟩
abbrev KT7 : Type := Int32 → Int32 → Int32 → AI → AI → AI → AI → Int32 → AI → AI → AI → Int32 → Int32 → Option Nat → AI → AI → Option (Int32 × Int32 × AI × AI × AI × AI × Int32 × AI × AI × AI × Int32 × Int32 × Option Nat × AI × AI)
abbrev KT8 : Type := Int32 → Int32 → Int32 → AI → AI → AI → Int32 → Int32 → Int32 → Int32 → Int32 → Int32 → AI → AI → Option (Int64 × AI × AI × AI × Int32 × Int32 × Int32 × Int32 × Int32 × Int32 × AI × AI)
theorem pairIn {P Lf S : Nat} {kind v rows len : AI} {q : Q5} {now rules sizes lt bg wd : AI} {SUM : AI → Int32} {BR : Int32} {lib : Option Nat} {bs bl bn : AI} {bz bb : Int32} {k m a0 : Nat} (hk : k < Lf) (hm : m ≤ 20) (ha : a0 < P) (H : HR P Lf S kind v rows len q now) (hS : S < 2 ^ 20) (hC : SumC SUM BR FU lib bs bl bn bz bb) (hM : SumM SUM BR FU (now 58) rules sizes lt bg wd) (hc : ∀ tr tr' : AI, (∀ i, i < 6 → tr i = tr' i) → SUM tr = SUM tr') (K : KT7) (K8 : KT8) : ∀ (n j cnt all : Nat) (tP tL td tst : Int32) (tk tv tp tr tl tf ts tdr ttr : AI) (tli : Option Nat) (nowX mi : AI) (rd nm dr : AI) (sz a w wi s b : Int32), j ≤ P → P - j < n → AgH k now nowX → cnt ≤ all → all + (P - j) < 2 ^ 20 →
    ∃ cnt' tP' tk' tv' tp' tr' tL' tl' tf' ts' td' tst' tli' tdr' ttr' nowX' mi' rd' sz' a' w' wi' s' b' nm' dr', LX1_pairsThatHold_21 K FU (nI P) kind v q.1 rows (nI Lf) len q.2.1 q.2.2.1 q.2.2.2.1 q.2.2.2.2 lib bs bl bn bz bb (nI k) (nI m) (nI a0) n (nI cnt) (nI j) tP tk tv tp tr tL tl tf ts td tst tli tdr ttr = K (nI cnt') (nI P) tP' tk' tv' tp' tr' tL' tl' tf' ts' td' tst' tli' tdr' ttr' ∧ LX8_odds_85 K8 FU rules sizes lt bg wd (nI k) (nI m) (nI a0) n (nI all) (nI cnt) (nI j) nowX mi rd sz a w wi s b nm dr = K8 (nI (all + (P - j))) (nI cnt') (nI P) nowX' mi' rd' sz' a' w' wi' s' b' nm' dr' ∧ AgH k now nowX' ∧ cnt' ≤ all + (P - j) := by
  have hP := H.1.1
  have hL := H.2.1.1
  intro n
  induction n with
  | zero => intro j cnt all tP tL td tst tk tv tp tr tl tf ts tdr ttr tli nowX mi rd nm dr sz a w wi s b _ h; omega
  | succ n ih =>
    intro j cnt all tP tL td tst tk tv tp tr tl tf ts tdr ttr tli nowX mi rd nm dr sz a w wi s b hj hn hA hca hal
    have h54 : nowX 54 = nI P := (hA 54 (by omega) (by omega)).trans H.2.2.2.1
    rw [LX1_pairsThatHold_21, LX8_odds_85, h54]
    by_cases e : j = P
    · subst e
      rw [if_pos (nI_le (Nat.le_refl _) (by omega)), if_pos (nI_le (Nat.le_refl _) (by omega)), Nat.sub_self, Nat.add_zero]
      exact ⟨cnt, _, _, _, _, _, _, _, _, _, _, _, _, _, _, nowX, _, _, _, _, _, _, _, _, _, _, rfl, rfl, hA, hca⟩
    · have H1 := HR_give (HR_cpy (kind' := tk) (v' := tv) (rows' := tr) (len' := tl) (p := tp) (f := tf) (s := ts) H) hk ha (show j < P by omega)
      obtain ⟨d, t, g1⟩ := goN (drifts := tdr) (traits := ttr) (n := m) H1 hS (by omega) hC
      have hM1 : SumM SUM BR FU (upd (upd now (43 + 3 * k) (nI a0)) (44 + 3 * k) (nI j) 58) rules sizes lt bg wd := by rw [upd_n (by omega), upd_n (by omega)]; exact hM
      obtain ⟨mi1, rd1, sz1, a1, w1, wi1, s1, b1, nm1, dr1, g2⟩ := on2_m (rd := rd) (nm := nm) (dr := dr) (sz := sz) (a := a) (w := w) (wi := wi) (s := s) (b := b) (mi := mi) (n := m) H1 hS (by omega) hM1 hc
      obtain ⟨Q, hQ⟩ : ∃ Q, itr (stp P Lf (va_cpy kind tk 0 0 6) (va_cpy v tv 0 0 6) (va_cpy rows tr 0 0 24) (va_cpy len tl 0 0 4) SUM BR) m ((cQ q tp tf ts).1, upd (cQ q tp tf ts).2.1 k (nI a0), upd (cQ q tp tf ts).2.2.1 k (nI j), (cQ q tp tf ts).2.2.2) = Q := ⟨_, rfl⟩
      rw [hQ] at g1 g2
      rw [if_neg (nle_nI (by omega) (by omega)), if_neg (nle_nI (by omega) (by omega)), give_c (by omega), bd2_s, g1, bd7_s, isHeld_c (by omega), bd1_s, holds_m (by omega), bd1_s, AgH_upd _ _ hA, g2, bd12_s, bit_at _ (hN_16 _ hL) k (by omega), hN_bit _ Lf hL k hk, nI_1, nI_1, nI_1]
      have hA1 : AgH k now (upd (upd now (43 + 3 * k) (nI a0)) (44 + 3 * k) (nI j)) := fun i i1 i2 => by rw [upd_n i2, upd_n i1]
      have hnext := fun c2 (h1 : c2 ≤ all + 1) => ih (j + 1) c2 (all + 1) (nI P) (nI Lf) Q.2.2.2.1 Q.2.2.2.2 (va_cpy kind tk 0 0 6) (va_cpy v tv 0 0 6) Q.1 (va_cpy rows tr 0 0 24) (va_cpy len tl 0 0 4) Q.2.1 Q.2.2.1 d t lib _ mi1 rd1 nm1 dr1 sz1 a1 w1 wi1 s1 b1 (by omega) (by omega) hA1 h1 (by omega)
      have e9 : all + (P - j) = all + 1 + (P - (j + 1)) := by omega
      rw [e9]
      by_cases e2 : Q.2.1 k = -5
      · have ez : nI cnt + nI 0 = nI cnt := by rw [nI_add, Nat.add_zero]
        rw [if_pos e2, i0, if_pos e2, ez]
        exact hnext cnt (by omega)
      · rw [if_neg e2, i1, if_neg e2, nI_add]
        exact hnext (cnt + 1) (by omega)
def trg : Nat → Nat
  | 0 => 0
  | m + 1 => trg m + m
theorem pairOut {P Lf S : Nat} {kind v rows len : AI} {q : Q5} {now rules sizes lt bg wd : AI} {SUM : AI → Int32} {BR : Int32} {lib : Option Nat} {bs bl bn : AI} {bz bb : Int32} {k m : Nat} {x3 h1 h2 : Int32} (hk : k < Lf) (hm : m ≤ 20) (H : HR P Lf S kind v rows len q now) (hS : S < 2 ^ 20) (hC : SumC SUM BR FU lib bs bl bn bz bb) (hM : SumM SUM BR FU (now 58) rules sizes lt bg wd) (hc : ∀ tr tr' : AI, (∀ i, i < 6 → tr i = tr' i) → SUM tr = SUM tr') : ∀ (n a0 cnt all : Nat) (tP tL td tst : Int32) (tk tv tp tr tl tf ts tdr ttr : AI) (tli : Option Nat) (nowX mi : AI) (rd nm dr : AI) (sz a w wi s b : Int32), a0 ≤ P → P - a0 < n → AgH k now nowX → cnt ≤ all → all + trg (P - a0) < 2 ^ 20 →
    ∃ cnt' tP' tk' tv' tp' tr' tL' tl' tf' ts' td' tst' tli' tdr' ttr' nowX' mi' rd' sz' a' w' wi' s' b' nm' dr', LX1_pairsThatHold_6 FU (nI P) kind v q.1 rows (nI Lf) len q.2.1 q.2.2.1 q.2.2.2.1 q.2.2.2.2 lib bs bl bn bz bb (nI k) (nI m) n (nI cnt) (nI a0) tP tk tv tp tr tL tl tf ts td tst tli tdr ttr = some (nI cnt', tP', tk', tv', tp', tr', tL', tl', tf', ts', td', tst', tli', tdr', ttr') ∧ LX8_odds_67 FU rules sizes lt bg wd (nI k) (nI m) x3 h1 h2 n (nI all) (nI cnt) (nI a0) nowX mi rd sz a w wi s b nm dr = bd1 (fX8_holds nowX' (nI k) h1 h2) (fun now2 => bd1 (fX8_fraction FU (nI cnt').toInt64 (nI (all + trg (P - a0))).toInt64 x3) (fun r => some (r, now2, mi', rd', sz', a', w', wi', s', b', nm', dr'))) ∧ AgH k now nowX' ∧ cnt' ≤ all + trg (P - a0) := by
  have hP := H.1.1
  intro n
  induction n with
  | zero => intro a0 cnt all tP tL td tst tk tv tp tr tl tf ts tdr ttr tli nowX mi rd nm dr sz a w wi s b _ h; omega
  | succ n ih =>
    intro a0 cnt all tP tL td tst tk tv tp tr tl tf ts tdr ttr tli nowX mi rd nm dr sz a w wi s b hj hn hA hca hal
    have h54 : nowX 54 = nI P := (hA 54 (by omega) (by omega)).trans H.2.2.2.1
    rw [LX1_pairsThatHold_6, LX8_odds_67, h54]
    by_cases e : a0 = P
    · subst e
      rw [if_pos (nI_le (Nat.le_refl _) (by omega)), if_pos (nI_le (Nat.le_refl _) (by omega)), Nat.sub_self]
      exact ⟨cnt, _, _, _, _, _, _, _, _, _, _, _, _, _, _, nowX, mi, rd, sz, a, w, wi, s, b, nm, dr, rfl, rfl, hA, hca⟩
    · rw [if_neg (nle_nI (by omega) (by omega)), if_neg (nle_nI (by omega) (by omega)), nI_1]
      have e1 : trg (P - a0) = trg (P - (a0 + 1)) + (P - (a0 + 1)) := by
        obtain ⟨z, hz⟩ : ∃ z, P - a0 = z + 1 := ⟨P - a0 - 1, by omega⟩
        rw [hz, show P - (a0 + 1) = z by omega]; rfl
      obtain ⟨cnt1, tP1, tk1, tv1, tp1, tr1, tL1, tl1, tf1, ts1, td1, tst1, tli1, tdr1, ttr1, nowX1, mi1, rd1, sz1, a1, w1, wi1, s1, b1, nm1, dr1, g1, g2, g3, g4⟩ := pairIn hk hm (show a0 < P by omega) H hS hC hM hc (fun l4_21 l6_21 tpeople_21 tkind_21 tv_21 tplace_21 trows_21 tleaves_21 tlength_21 tfirst_21 tsecond_21 tdrops_21 tstep_21 tlibrary_21 tdrifts_21 ttraits_21 => LX1_pairsThatHold_6 FU (nI P) kind v q.1 rows (nI Lf) len q.2.1 q.2.2.1 q.2.2.2.1 q.2.2.2.2 lib bs bl bn bz bb (nI k) (nI m) n l4_21 (nI (a0 + 1)) tpeople_21 tkind_21 tv_21 tplace_21 trows_21 tleaves_21 tlength_21 tfirst_21 tsecond_21 tdrops_21 tstep_21 tlibrary_21 tdrifts_21 ttraits_21) (fun l6_85 l7_85 l9_85 mnow_85 mmind_85 mread_85 msize_85 mat_85 mwell_85 mwithin_85 msum_85 mbear_85 mnames_85 mdrifts_85 => LX8_odds_67 FU rules sizes lt bg wd (nI k) (nI m) x3 h1 h2 n l6_85 l7_85 (nI (a0 + 1)) mnow_85 mmind_85 mread_85 msize_85 mat_85 mwell_85 mwithin_85 msum_85 mbear_85 mnames_85 mdrifts_85) FU (a0 + 1) cnt all tP tL td tst tk tv tp tr tl tf ts tdr ttr tli nowX mi rd nm dr sz a w wi s b (by omega) (by unfold FU; omega) hA hca (by omega)
      rw [g1, g2, e1]
      have hnx := ih (a0 + 1) cnt1 (all + (P - (a0 + 1))) tP1 tL1 td1 tst1 tk1 tv1 tp1 tr1 tl1 tf1 ts1 tdr1 ttr1 tli1 nowX1 mi1 rd1 nm1 dr1 sz1 a1 w1 wi1 s1 b1 (by omega) (by omega) g3 g4 (by omega)
      rw [show all + (P - (a0 + 1)) + trg (P - (a0 + 1)) = all + (trg (P - (a0 + 1)) + (P - (a0 + 1))) by omega] at hnx
      exact hnx
theorem trg_P : ∀ p, p < 7 → 2 ≤ p → ((nI p * (nI p - 1)) / 2 = nI (trg p) ∧ 1 ≤ trg p ∧ trg p < 16) := by decide +kernel
theorem odds_2 {P Lf S : Nat} {kind v rows len : AI} {q : Q5} {now rules sizes lt bg wd : AI} {SUM : AI → Int32} {BR : Int32} {lib : Option Nat} {bs bl bn : AI} {bz bb : Int32} {tP tL td tst : Int32} {tk tv tp tr tl tf ts tdr ttr : AI} {tli : Option Nat} {rd nm dr mi : AI} {sz a w wi s b : Int32} (x1 x2 x3 : Int32) (H : HR P Lf S kind v rows len q now) (hS : S < 2 ^ 20) (hC : SumC SUM BR FU lib bs bl bn bz bb) (hM : SumM SUM BR FU (now 58) rules sizes lt bg wd) (hc : ∀ tr tr' : AI, (∀ i, i < 6 → tr i = tr' i) → SUM tr = SUM tr') : ∃ r, (∃ T : T14, fX7_odds FU (nI P) kind v q.1 rows (nI Lf) len q.2.1 q.2.2.1 q.2.2.2.1 q.2.2.2.2 lib tP tk tv tp tr tL tl tf ts td tst tli tdr ttr bs bl bn bz bb x1 x2 x3 = some (r, T)) ∧ ∃ mi' J, fX8_odds FU now mi rules sizes rd sz a w wi s b nm lt bg wd dr x1 x2 x3 = some (r, now, mi', (J : J9)) := by
  have hP := H.1.1
  have hL := H.2.1.1
  unfold fX7_odds fX8_odds
  rw [show (20 : Int32) = nI 20 from rfl, show fX7_isWithin x3 1 = fX7_isWithin x3 (nI 1) from rfl, show fX8_isIn x3 0 1 = fX8_isIn x3 0 (nI 1) from rfl, H.2.2.2.1]
  rcases leaf_or x1 hL H.2.2.2.2.1 with ⟨k, k1, rfl, b1, c1⟩ | ⟨b1, c1⟩
  rotate_left
  · rw [b1, c1, bd1_s, bd1_s, i0, i0]; exact ⟨_, ⟨_, rfl⟩, _, _, rfl⟩
  rw [b1, c1, bd1_s, bd1_s, i1, i1]
  rcases within_or x2 20 (by omega) with ⟨m, m1, rfl, b2, c2⟩ | ⟨b2, c2⟩
  rotate_left
  · rw [b2, c2, bd1_s, bd1_s, i0, i0]; exact ⟨_, ⟨_, rfl⟩, _, _, rfl⟩
  rw [b2, c2, bd1_s, bd1_s, i1, i1]
  rcases within_or x3 1 (by omega) with ⟨p, p1, rfl, b3, c3⟩ | ⟨b3, c3⟩
  rotate_left
  · rw [b3, c3, bd1_s, bd1_s, i0, i0]; exact ⟨_, ⟨_, rfl⟩, _, _, rfl⟩
  rw [b3, c3, bd1_s, bd1_s, i1, i1]
  by_cases e : 2 ≤ P
  · have h2 : (2 : Int32) ≤ nI P := nI_le (a := 2) e (by omega)
    obtain ⟨t1, t2, t3⟩ := trg_P P (by omega) e
    obtain ⟨cnt1, tP1, tk1, tv1, tp1, tr1, tL1, tl1, tf1, ts1, td1, tst1, tli1, tdr1, ttr1, nowX1, mi1, rd1, sz1, a1, w1, wi1, s1, b1, nm1, dr1, g1, g2, g3, g4⟩ := pairOut (x3 := nI p) (h1 := now (43 + 3 * k)) (h2 := now (44 + 3 * k)) k1 (show m ≤ 20 by omega) H hS hC hM hc FU 0 0 0 tP tL td tst tk tv tp tr tl tf ts tdr ttr tli now mi rd nm dr sz a w wi s b (by omega) (by unfold FU; omega) (fun _ _ _ => rfl) (by omega) (by rw [Nat.sub_zero]; omega)
    rw [Nat.sub_zero, Nat.zero_add] at g2 g4
    have g1' : fX1_pairsThatHold FU tP tk tv tp tr tL tl tf ts td tst tli tdr ttr (nI P) kind v q.1 rows (nI Lf) len q.2.1 q.2.2.1 q.2.2.2.1 q.2.2.2.2 lib bs bl bn bz bb (nI k) (nI m) = _ := g1
    obtain ⟨f1, f2⟩ := frac_b cnt1 (by omega) (trg P) t3 t2 p (by omega)
    obtain ⟨r, f3⟩ := some_of f2
    have g2' : LX8_odds_67 FU rules sizes lt bg wd (nI k) (nI m) (nI p) (now (43 + 3 * k)) (now (44 + 3 * k)) FU 0 0 0 now mi rd sz a w wi s b nm dr = _ := g2
    rw [if_pos h2, if_pos h2, g1', bd15_s, t1, f3, bd1_s, holder1_m (by omega), bd1_s, holder2_m (by omega), bd1_s, g2', holds_m (by omega), bd1_s, AgH_upd _ _ g3, AgH_self rfl rfl, ← f1, f3, bd1_s]
    exact ⟨_, ⟨_, rfl⟩, _, _, rfl⟩
  · have h2 : ¬ (2 : Int32) ≤ nI P := nle_nI (a := 2) (by omega) (by omega)
    rw [if_neg h2, if_neg h2]; exact ⟨_, ⟨_, rfl⟩, _, _, rfl⟩
