/-! ===== change ===== -/
theorem HR_place {P Lf S k : Nat} {kind v rows len : AI} {q : Q5} {now : AI} {x : Int32} (H : HR P Lf S kind v rows len q now) (hk : k < P) (hx : bnd x 100) : HR P Lf S kind v rows len (upd q.1 k x, q.2) (upd now (7 * k + 2) x) := by
  obtain ⟨hk2, hl, hq, h⟩ := H
  refine ⟨hk2, hl, ⟨hq.1, fun i hi => ?_, hq.2.2⟩, RM_place hk2.1 h hk⟩
  show bnd (upd q.1 k x i) 100
  by_cases e : i = k
  · subst e; rw [upd_s]; exact hx
  · rw [upd_n e]; exact hq.2.1 i hi
theorem swap_m {now : AI} {i j : Nat} (hi : i < 6) (hj : j < 6) : fX8_swap now (nI i) (nI j) = some (upd (upd now (7 * i + 2) (now (7 * j + 2))) (7 * j + 2) (now (7 * i + 2))) := by
  unfold fX8_swap
  rw [spot_m hj, bd1_s, changeS_m hi, bd2_s, changeS_m hj, bd2_s]
theorem swap_b {now : AI} {i j : Nat} (h : i ≠ j) : upd (upd (upd (upd now (7 * i + 2) (now (7 * j + 2))) (7 * j + 2) (now (7 * i + 2))) (7 * i + 2) (upd (upd now (7 * i + 2) (now (7 * j + 2))) (7 * j + 2) (now (7 * i + 2)) (7 * j + 2))) (7 * j + 2) (upd (upd now (7 * i + 2) (now (7 * j + 2))) (7 * j + 2) (now (7 * i + 2)) (7 * i + 2)) = now := by
  rw [upd_s, upd_n (show 7 * i + 2 ≠ 7 * j + 2 by omega), upd_s]
  funext z
  unfold upd
  by_cases e1 : z = 7 * j + 2
  · rw [if_pos e1, e1]
  · rw [if_neg e1]
    by_cases e2 : z = 7 * i + 2
    · rw [if_pos e2, e2]
    · rw [if_neg e2, if_neg e1, if_neg e2]
theorem chP_c {f : AI} {i j : Nat} (hi : i < 6) (hj : j < 6) : fX2_changePlaces f (nI i) (nI j) = some (upd (upd f i (f j)) j (f i)) := by
  have h1 : inb (nI i) 6 := inb_n hi (by decide)
  have h2 : inb (nI j) 6 := inb_n hj (by decide)
  unfold fX2_changePlaces
  rw [gd_t h1, gd_t h2, gd_t h1, gd_t h2, nI_clamp (by omega), nI_clamp (by omega)]
theorem jmin_le {d l : Int32} (h : l ≤ d) : jmin d l = l := by
  show (if l < d then l else d) = l
  by_cases e : l < d
  · rw [if_pos e]
  · rw [if_neg e]
    exact Int32.le_antisymm (Int32.not_lt.mp e) h
theorem jmin_gt {d l : Int32} (h : ¬ l ≤ d) : jmin d l = d := by
  show (if l < d then l else d) = d
  rw [if_neg (fun e => h (Int32.le_of_lt e))]
abbrev KC7 : Type := Int32 → Int32 → Int32 → Int32 → AI → AI → AI → AI → Int32 → AI → AI → AI → Int32 → Int32 → Option Nat → AI → AI → Option (Int32 × T14)
abbrev KC8 : Type := Int32 → Int32 → Int32 → AI → AI → AI → Int32 → Int32 → Int32 → Int32 → Int32 → Int32 → AI → AI → Option (Int32 × AI × AI × J9)
theorem chIn {P Lf S : Nat} {kind v rows len : AI} {q : Q5} {now rules sizes lt bg wd : AI} {SUM : AI → Int32} {BR : Int32} {lib : Option Nat} {bs bl bn : AI} {bz bb : Int32} {m a0 : Nat} (hm : m ≤ 20) (ha : a0 < P) (H : HR P Lf S kind v rows len q now) (hS : S < 2 ^ 20) (hC : SumC SUM BR FU lib bs bl bn bz bb) (hM : SumM SUM BR FU (now 58) rules sizes lt bg wd) (hc : ∀ tr tr' : AI, (∀ i, i < 6 → tr i = tr' i) → SUM tr = SUM tr') (K : KC7) (K8 : KC8) : ∀ (n j : Nat) (le fo : Int32) (tP tL td tst : Int32) (tk tv tp tr tl tf ts tdr ttr : AI) (tli : Option Nat) (mi : AI) (rd nm dr : AI) (sz a w wi s b : Int32), a0 < j → j ≤ P → P - j < n →
    ∃ le' fo' tP' tk' tv' tp' tr' tL' tl' tf' ts' td' tst' tli' tdr' ttr' mi' rd' sz' a' w' wi' s' b' nm' dr', LX1_changeOf_46 K FU (nI P) kind v q.1 rows (nI Lf) len q.2.1 q.2.2.1 q.2.2.2.1 q.2.2.2.2 lib bs bl bn bz bb (nI m) (nI a0) n le fo (nI j) tP tk tv tp tr tL tl tf ts td tst tli tdr ttr = K le' fo' (nI P) tP' tk' tv' tp' tr' tL' tl' tf' ts' td' tst' tli' tdr' ttr' ∧ LX8_changeOf_31 K8 FU rules sizes lt bg wd (nI m) (nI a0) n le fo (nI j) now mi rd sz a w wi s b nm dr = K8 le' fo' (nI P) now mi' rd' sz' a' w' wi' s' b' nm' dr' := by
  have hP := H.1.1
  have hL := H.2.1.1
  intro n
  induction n with
  | zero => intro j le fo tP tL td tst tk tv tp tr tl tf ts tdr ttr tli mi rd nm dr sz a w wi s b _ _ h; omega
  | succ n ih =>
    intro j le fo tP tL td tst tk tv tp tr tl tf ts tdr ttr tli mi rd nm dr sz a w wi s b haj hj hn
    rw [LX1_changeOf_46, LX8_changeOf_31, H.2.2.2.1]
    by_cases e : j = P
    · subst e
      rw [if_pos (nI_le (Nat.le_refl _) (by omega)), if_pos (nI_le (Nat.le_refl _) (by omega))]
      exact ⟨le, fo, _, _, _, _, _, _, _, _, _, _, _, _, _, _, mi, _, _, _, _, _, _, _, _, _, rfl, rfl⟩
    · have H0 := (HR_cpy (kind' := tk) (v' := tv) (rows' := tr) (len' := tl) (p := tp) (f := tf) (s := ts) H)
      have bj := H0.2.2.1.2.1 j (show j < P by omega)
      have ba := H0.2.2.1.2.1 a0 ha
      have nj := (H0.2.2.2.2.2.2.2.1 j (show j < P by omega)).2.2.1
      have na := (H0.2.2.2.2.2.2.2.1 a0 ha).2.2.1
      have H1 := HR_place (HR_place H0 ha bj) (show j < P by omega) ba
      have hM1 : SumM SUM BR FU (upd (upd now (7 * a0 + 2) ((cQ q tp tf ts).1 j)) (7 * j + 2) ((cQ q tp tf ts).1 a0) 58) rules sizes lt bg wd := by rw [upd_n (by omega), upd_n (by omega)]; exact hM
      obtain ⟨d, t, g1⟩ := goN (drifts := tdr) (traits := ttr) (n := m) H1 hS (by omega) hC
      obtain ⟨mi1, rd1, sz1, a1, w1, wi1, s1, b1, nm1, dr1, g2⟩ := on0_m (rd := rd) (nm := nm) (dr := dr) (sz := sz) (a := a) (w := w) (wi := wi) (s := s) (b := b) (mi := mi) (n := m) H1 hS (by omega) hM1 hc
      have hsw : fX8_swap (upd (upd now (7 * a0 + 2) ((cQ q tp tf ts).1 j)) (7 * j + 2) ((cQ q tp tf ts).1 a0)) (nI a0) (nI j) = some now := by
        rw [← nj, ← na, swap_m (by omega) (by omega), swap_b (by omega)]
      obtain ⟨Q, hQ⟩ : ∃ Q, itr (stp P Lf (va_cpy kind tk 0 0 6) (va_cpy v tv 0 0 6) (va_cpy rows tr 0 0 24) (va_cpy len tl 0 0 4) SUM BR) m (upd (upd (cQ q tp tf ts).1 a0 ((cQ q tp tf ts).1 j)) j ((cQ q tp tf ts).1 a0), (cQ q tp tf ts).2) = Q := ⟨_, rfl⟩
      have g1' : fX2_goOn FU (nI P) (va_cpy kind tk 0 0 6) (va_cpy v tv 0 0 6) (upd (upd (va_cpy q.1 tp 0 0 6) a0 (va_cpy q.1 tp 0 0 6 j)) j (va_cpy q.1 tp 0 0 6 a0)) (va_cpy rows tr 0 0 24) (nI Lf) (va_cpy len tl 0 0 4) (va_cpy q.2.1 tf 0 0 4) (va_cpy q.2.2.1 ts 0 0 4) q.2.2.2.1 q.2.2.2.2 lib tdr ttr bs bl bn bz bb (nI m) = some (Q.1, Q.2.1, Q.2.2.1, Q.2.2.2.1, Q.2.2.2.2, d, t) := by rw [← hQ]; exact g1
      have g2' : fX8_on FU (upd (upd now (7 * a0 + 2) ((cQ q tp tf ts).1 j)) (7 * j + 2) ((cQ q tp tf ts).1 a0)) mi rules sizes rd sz a w wi s b nm lt bg wd dr (nI m) 0 = some (Q.2.2.2.1, upd (upd now (7 * a0 + 2) ((cQ q tp tf ts).1 j)) (7 * j + 2) ((cQ q tp tf ts).1 a0), mi1, rd1, sz1, a1, w1, wi1, s1, b1, nm1, dr1) := by rw [← hQ]; exact g2
      rw [if_neg (nle_nI (by omega) (by omega)), if_neg (nle_nI (by omega) (by omega)), chP_c (by omega) (by omega), bd1_s, g1', bd7_s, swap_m (by omega) (by omega), bd1_s, nj, na, g2', bd12_s, hsw, bd1_s, nI_1]
      have hnext := fun le2 fo2 => ih (j + 1) le2 fo2 (nI P) (nI Lf) Q.2.2.2.1 Q.2.2.2.2 (va_cpy kind tk 0 0 6) (va_cpy v tv 0 0 6) Q.1 (va_cpy rows tr 0 0 24) (va_cpy len tl 0 0 4) Q.2.1 Q.2.2.1 d t lib mi1 rd1 nm1 dr1 sz1 a1 w1 wi1 s1 b1 (by omega) (by omega) (by omega)
      by_cases e3 : le ≤ Q.2.2.2.1
      · rw [if_pos e3, if_pos e3, jmin_le e3]
        exact hnext le fo
      · rw [if_neg e3, if_neg e3, jmin_gt e3, Int32.mul_comm (nI a0) 10]
        exact hnext Q.2.2.2.1 (10 * nI a0 + nI j)
theorem chOut {P Lf S : Nat} {kind v rows len : AI} {q : Q5} {now rules sizes lt bg wd : AI} {SUM : AI → Int32} {BR : Int32} {lib : Option Nat} {bs bl bn : AI} {bz bb : Int32} {m : Nat} (hm : m ≤ 20) (H : HR P Lf S kind v rows len q now) (hS : S < 2 ^ 20) (hC : SumC SUM BR FU lib bs bl bn bz bb) (hM : SumM SUM BR FU (now 58) rules sizes lt bg wd) (hc : ∀ tr tr' : AI, (∀ i, i < 6 → tr i = tr' i) → SUM tr = SUM tr') : ∀ (n a0 : Nat) (le fo : Int32) (tP tL td tst : Int32) (tk tv tp tr tl tf ts tdr ttr : AI) (tli : Option Nat) (mi : AI) (rd nm dr : AI) (sz a w wi s b : Int32), a0 ≤ P → P - a0 < n →
    ∃ r, (∃ T : T14, LX1_changeOf_31 FU (nI P) kind v q.1 rows (nI Lf) len q.2.1 q.2.2.1 q.2.2.2.1 q.2.2.2.2 lib bs bl bn bz bb (nI m) n le fo (nI a0) tP tk tv tp tr tL tl tf ts td tst tli tdr ttr = some (r, T)) ∧ ∃ mi' J, LX8_changeOf_13 FU rules sizes lt bg wd (nI m) n le fo (nI a0) now mi rd sz a w wi s b nm dr = some (r, now, mi', (J : J9)) := by
  have hP := H.1.1
  intro n
  induction n with
  | zero => intro a0 le fo tP tL td tst tk tv tp tr tl tf ts tdr ttr tli mi rd nm dr sz a w wi s b _ h; omega
  | succ n ih =>
    intro a0 le fo tP tL td tst tk tv tp tr tl tf ts tdr ttr tli mi rd nm dr sz a w wi s b hj hn
    rw [LX1_changeOf_31, LX8_changeOf_13, H.2.2.2.1]
    by_cases e : a0 = P
    · subst e
      rw [if_pos (nI_le (Nat.le_refl _) (by omega)), if_pos (nI_le (Nat.le_refl _) (by omega))]
      exact ⟨fo, ⟨_, rfl⟩, mi, _, rfl⟩
    · rw [if_neg (nle_nI (by omega) (by omega)), if_neg (nle_nI (by omega) (by omega)), nI_1]
      obtain ⟨le1, fo1, tP1, tk1, tv1, tp1, tr1, tL1, tl1, tf1, ts1, td1, tst1, tli1, tdr1, ttr1, mi1, rd1, sz1, a1, w1, wi1, s1, b1, nm1, dr1, g1, g2⟩ := chIn hm (show a0 < P by omega) H hS hC hM hc (fun l3_46 l4_46 l6_46 tpeople_46 tkind_46 tv_46 tplace_46 trows_46 tleaves_46 tlength_46 tfirst_46 tsecond_46 tdrops_46 tstep_46 tlibrary_46 tdrifts_46 ttraits_46 => LX1_changeOf_31 FU (nI P) kind v q.1 rows (nI Lf) len q.2.1 q.2.2.1 q.2.2.2.1 q.2.2.2.2 lib bs bl bn bz bb (nI m) n l3_46 l4_46 (nI (a0 + 1)) tpeople_46 tkind_46 tv_46 tplace_46 trows_46 tleaves_46 tlength_46 tfirst_46 tsecond_46 tdrops_46 tstep_46 tlibrary_46 tdrifts_46 ttraits_46) (fun l2_31 l3_31 l5_31 mnow_31 mmind_31 mread_31 msize_31 mat_31 mwell_31 mwithin_31 msum_31 mbear_31 mnames_31 mdrifts_31 => LX8_changeOf_13 FU rules sizes lt bg wd (nI m) n l2_31 l3_31 (nI (a0 + 1)) mnow_31 mmind_31 mread_31 msize_31 mat_31 mwell_31 mwithin_31 msum_31 mbear_31 mnames_31 mdrifts_31) FU (a0 + 1) le fo tP tL td tst tk tv tp tr tl tf ts tdr ttr tli mi rd nm dr sz a w wi s b (by omega) (by omega) (by unfold FU; omega)
      rw [g1, g2]
      exact ih (a0 + 1) le1 fo1 tP1 tL1 td1 tst1 tk1 tv1 tp1 tr1 tl1 tf1 ts1 tdr1 ttr1 tli1 mi1 rd1 nm1 dr1 sz1 a1 w1 wi1 s1 b1 (by omega) (by omega)
theorem change_2 {P Lf S : Nat} {kind v rows len : AI} {q : Q5} {now rules sizes lt bg wd : AI} {SUM : AI → Int32} {BR : Int32} {lib : Option Nat} {bs bl bn : AI} {bz bb : Int32} {tP tL td tst : Int32} {tk tv tp tr tl tf ts tdr ttr : AI} {tli : Option Nat} {rd nm dr mi : AI} {sz a w wi s b : Int32} {m : Nat} (hm : m ≤ 20) (H : HR P Lf S kind v rows len q now) (hS : S < 2 ^ 20) (hC : SumC SUM BR FU lib bs bl bn bz bb) (hM : SumM SUM BR FU (now 58) rules sizes lt bg wd) (hc : ∀ tr tr' : AI, (∀ i, i < 6 → tr i = tr' i) → SUM tr = SUM tr') : ∃ r, (∃ T : T14, fX1_changeOf FU tP tk tv tp tr tL tl tf ts td tst tli tdr ttr (nI P) kind v q.1 rows (nI Lf) len q.2.1 q.2.2.1 q.2.2.2.1 q.2.2.2.2 lib bs bl bn bz bb (nI m) = some (r, T)) ∧ ∃ mi' J, fX8_changeOf FU now mi rules sizes rd sz a w wi s b nm lt bg wd dr (nI m) = some (r, now, mi', (J : J9)) := by
  have hP := H.1.1
  have H0 := (HR_cpy (kind' := tk) (v' := tv) (rows' := tr) (len' := tl) (p := tp) (f := tf) (s := ts) H)
  obtain ⟨d, t, g1⟩ := goN (drifts := tdr) (traits := ttr) (n := m) H0 hS (by omega) hC
  obtain ⟨mi1, rd1, sz1, a1, w1, wi1, s1, b1, nm1, dr1, g2⟩ := on0_m (rd := rd) (nm := nm) (dr := dr) (sz := sz) (a := a) (w := w) (wi := wi) (s := s) (b := b) (mi := mi) (n := m) H0 hS (by omega) hM hc
  unfold fX1_changeOf fX8_changeOf
  rw [g1, bd7_s, g2, bd12_s]
  exact chOut hm H hS hC hM hc FU 0 _ (-5) (nI P) (nI Lf) _ _ (va_cpy kind tk 0 0 6) (va_cpy v tv 0 0 6) _ (va_cpy rows tr 0 0 24) (va_cpy len tl 0 0 4) _ _ d t lib mi1 rd1 nm1 dr1 sz1 a1 w1 wi1 s1 b1 (by omega) (by unfold FU; omega)
