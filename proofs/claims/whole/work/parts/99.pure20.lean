/-! ===== passing, on, mean, meets ===== -/
theorem jmin_c (d : Int32) : jmin d 9999 = jmin 9999 d := by
  show (if (9999 : Int32) < d then (9999 : Int32) else d) = if d < 9999 then d else 9999
  have z9 : (9999 : Int32).toInt = 9999 := by decide
  by_cases e : (9999 : Int32) < d
  · rw [if_pos e, if_neg]
    intro z
    have a1 := Int32.lt_iff_toInt_lt.mp e
    have a2 := Int32.lt_iff_toInt_lt.mp z
    omega
  · rw [if_neg e]
    by_cases e2 : d < 9999
    · rw [if_pos e2]
    · rw [if_neg e2]
      have a1 := mt Int32.lt_iff_toInt_lt.mpr e
      have a2 := mt Int32.lt_iff_toInt_lt.mpr e2
      exact Int32.toInt_inj.mp (by omega)
theorem pass_2 {P Lf S : Nat} {kind v rows len : AI} {q : Q5} {now rules sizes lt bg wd : AI} {SUM : AI → Int32} {BR : Int32} {lib : Option Nat} {bs bl bn : AI} {bz bb : Int32} {rd nm dr : AI} {sz a w wi s b : Int32} {drifts traits : AI} (x1 : Int32) (H : HR P Lf S kind v rows len q now) (hS : S ≤ 9999) (hC : SumC SUM BR FU lib bs bl bn bz bb) (hM : SumM SUM BR FU (now 58) rules sizes lt bg wd) (hc : ∀ tr tr' : AI, (∀ i, i < 6 → tr i = tr' i) → SUM tr = SUM tr') : ∃ r q' S' d t now' J, fX7_pass FU (nI P) kind v q.1 rows (nI Lf) len q.2.1 q.2.2.1 q.2.2.2.1 q.2.2.2.2 lib drifts traits bs bl bn bz bb x1 = some (r, q'.1, q'.2.1, q'.2.2.1, q'.2.2.2.1, q'.2.2.2.2, d, t) ∧ fX8_pass FU now rules sizes rd sz a w wi s b nm lt bg wd dr x1 = some (r, now', (J : J9)) ∧ HR P Lf S' kind v rows len q' now' ∧ S' ≤ 9999 ∧ Same58 now now' := by
  unfold fX7_pass fX8_pass
  rw [show (60 : Int32) = nI 60 from rfl]
  rcases within_or x1 60 (by omega) with ⟨n, n1, rfl, b1, c1⟩ | ⟨b1, c1⟩
  rotate_left
  · rw [b1, c1, bd1_s, bd1_s, i0, i0]; exact ⟨_, q, S, _, _, _, _, rfl, rfl, H, hS, same58_refl⟩
  rw [b1, c1, bd1_s, bd1_s, i1, i1, H.2.2.2.2.2.2.1, H.2.2.1.2.2, nI_add]
  by_cases e : nI (S + n) ≤ 9999
  · have hSn : S + n ≤ 9999 := by
      have : nI (S + n) ≤ nI 9999 := e
      rw [nI_leI (by omega) (by omega)] at this; exact this
    obtain ⟨d, t, g1⟩ := goN (drifts := drifts) (traits := traits) (n := n) H (by omega) (by omega) hC
    obtain ⟨now', rd1, sz1, a1, w1, wi1, s1, b1, nm1, dr1, g2, g3, g4⟩ := stN (rd := rd) (nm := nm) (dr := dr) (sz := sz) (a := a) (w := w) (wi := wi) (s := s) (b := b) (n := n) H (by omega) (by omega) hM hc
    rw [H.2.2.1.2.2] at g1
    have r1 := RM_drops (x := jmin 9999 (now' 56)) H.1.1 H.2.1.1 g3.2.2.2
    rw [if_pos e, if_pos e, g1, g2, bd7_s, bd10_s, upd_n (by omega), g3.2.2.2.2.2.2.1, jmin_c, ← g3.2.2.2.2.2.1]
    refine ⟨_, ((itr (stp P Lf kind v rows len SUM BR) n q).1, (itr (stp P Lf kind v rows len SUM BR) n q).2.1, (itr (stp P Lf kind v rows len SUM BR) n q).2.2.1, jmin 9999 (now' 56), (itr (stp P Lf kind v rows len SUM BR) n q).2.2.2.2), S + n, d, t, _, _, rfl, rfl, ⟨g3.1, g3.2.1, g3.2.2.1, r1⟩, hSn, fun i hi => by rw [upd_n (by omega)]; exact g4 i hi⟩
  · rw [if_neg e, if_neg e, ← H.2.2.1.2.2]; exact ⟨_, q, S, _, _, _, _, rfl, rfl, H, hS, same58_refl⟩
theorem goneOn_c {P Lf S : Nat} {kind v rows len : AI} {q : Q5} {now : AI} {SUM : AI → Int32} {BR : Int32} {lib : Option Nat} {bs bl bn : AI} {bz bb : Int32} {tP tL td tst : Int32} {tk tv tp tr tl tf ts tdr ttr : AI} {tli : Option Nat} {n : Nat} (H : HR P Lf S kind v rows len q now) (hS : S < 2 ^ 20) (hn : n ≤ 60) (hC : SumC SUM BR FU lib bs bl bn bz bb) : ∃ d t, fX1_goneOn FU tP tk tv tp tr tL tl tf ts td tst tli tdr ttr (nI P) kind v q.1 rows (nI Lf) len q.2.1 q.2.2.1 q.2.2.2.1 q.2.2.2.2 lib bs bl bn bz bb (nI n) = some (nI P, va_cpy kind tk 0 0 6, va_cpy v tv 0 0 6, (itr (stp P Lf (va_cpy kind tk 0 0 6) (va_cpy v tv 0 0 6) (va_cpy rows tr 0 0 24) (va_cpy len tl 0 0 4) SUM BR) n (cQ q tp tf ts)).1, va_cpy rows tr 0 0 24, nI Lf, va_cpy len tl 0 0 4, (itr (stp P Lf (va_cpy kind tk 0 0 6) (va_cpy v tv 0 0 6) (va_cpy rows tr 0 0 24) (va_cpy len tl 0 0 4) SUM BR) n (cQ q tp tf ts)).2.1, (itr (stp P Lf (va_cpy kind tk 0 0 6) (va_cpy v tv 0 0 6) (va_cpy rows tr 0 0 24) (va_cpy len tl 0 0 4) SUM BR) n (cQ q tp tf ts)).2.2.1, (itr (stp P Lf (va_cpy kind tk 0 0 6) (va_cpy v tv 0 0 6) (va_cpy rows tr 0 0 24) (va_cpy len tl 0 0 4) SUM BR) n (cQ q tp tf ts)).2.2.2.1, (itr (stp P Lf (va_cpy kind tk 0 0 6) (va_cpy v tv 0 0 6) (va_cpy rows tr 0 0 24) (va_cpy len tl 0 0 4) SUM BR) n (cQ q tp tf ts)).2.2.2.2, lib, d, t) := by
  obtain ⟨d, t, g1⟩ := goN (drifts := tdr) (traits := ttr) (n := n) (HR_cpy (kind' := tk) (v' := tv) (rows' := tr) (len' := tl) (p := tp) (f := tf) (s := ts) H) hS hn hC
  refine ⟨d, t, ?_⟩
  unfold fX1_goneOn
  rw [g1, bd7_s]
theorem on_2 {P Lf S : Nat} {kind v rows len : AI} {q : Q5} {now rules sizes lt bg wd : AI} {SUM : AI → Int32} {BR : Int32} {lib : Option Nat} {bs bl bn : AI} {bz bb : Int32} {tP tL td tst : Int32} {tk tv tp tr tl tf ts tdr ttr : AI} {tli : Option Nat} {rd nm dr mi : AI} {sz a w wi s b : Int32} (x1 x2 : Int32) (H : HR P Lf S kind v rows len q now) (hS : S < 2 ^ 20) (hC : SumC SUM BR FU lib bs bl bn bz bb) (hM : SumM SUM BR FU (now 58) rules sizes lt bg wd) (hc : ∀ tr tr' : AI, (∀ i, i < 6 → tr i = tr' i) → SUM tr = SUM tr') : ∃ r, (∃ T : T14, fX7_on FU (nI P) kind v q.1 rows (nI Lf) len q.2.1 q.2.2.1 q.2.2.2.1 q.2.2.2.2 lib tP tk tv tp tr tL tl tf ts td tst tli tdr ttr bs bl bn bz bb x1 x2 = some (r, T)) ∧ ∃ mi' J, fX8_on FU now mi rules sizes rd sz a w wi s b nm lt bg wd dr x1 x2 = some (r, now, mi', (J : J9)) := by
  have hP := H.1.1
  have key : ∀ n, n ≤ 60 → (x2 = 0 ∨ x2 = 1 ∨ x2 = 2 ∨ (¬ x2 = 0 ∧ ¬ x2 = 1 ∧ ¬ x2 = 2 ∧ ∃ k, k < P ∧ x2 - 10 = nI k)) → ∃ r, (∃ T : T14, bd14 (fX1_goneOn FU tP tk tv tp tr tL tl tf ts td tst tli tdr ttr (nI P) kind v q.1 rows (nI Lf) len q.2.1 q.2.2.1 q.2.2.2.1 q.2.2.2.2 lib bs bl bn bz bb (nI n)) (fun tpeople_45 tkind_45 tv_45 tplace_45 trows_45 tleaves_45 tlength_45 tfirst_45 tsecond_45 tdrops_45 tstep_45 tlibrary_45 tdrifts_45 ttraits_45 => if x2 = 0 then (some (tdrops_45, tpeople_45, tkind_45, tv_45, tplace_45, trows_45, tleaves_45, tlength_45, tfirst_45, tsecond_45, tdrops_45, tstep_45, tlibrary_45, tdrifts_45, ttraits_45)) else (if x2 = 1 then (bd1 (fX2_tautBits FU tplace_45 tleaves_45 tlength_45 tfirst_45 tsecond_45) (fun r82 => some (r82, tpeople_45, tkind_45, tv_45, tplace_45, trows_45, tleaves_45, tlength_45, tfirst_45, tsecond_45, tdrops_45, tstep_45, tlibrary_45, tdrifts_45, ttraits_45))) else (if x2 = 2 then (bd1 (fX2_heldBits FU tleaves_45 tfirst_45) (fun r87 => some (r87, tpeople_45, tkind_45, tv_45, tplace_45, trows_45, tleaves_45, tlength_45, tfirst_45, tsecond_45, tdrops_45, tstep_45, tlibrary_45, tdrifts_45, ttraits_45))) else (gd (inb (x2 - 10) 6) (some (tplace_45 ((x2 - 10).toNatClampNeg), tpeople_45, tkind_45, tv_45, tplace_45, trows_45, tleaves_45, tlength_45, tfirst_45, tsecond_45, tdrops_45, tstep_45, tlibrary_45, tdrifts_45, ttraits_45)))))) = some (r, T)) ∧ ∃ mi' J, (bd1 (fX8_move FU now mi) (fun mmind_43 => bd10 (fX8_steps FU now rules sizes rd sz a w wi s b nm lt bg wd dr (nI n)) (fun mnow_48 mread_48 msize_48 mat_48 mwell_48 mwithin_48 msum_48 mbear_48 mnames_48 mdrifts_48 => if x2 = 0 then (bd1 (fX8_move FU mmind_43 mnow_48) (fun mnow_107 => some (mnow_48 56, mnow_107, mmind_43, mread_48, msize_48, mat_48, mwell_48, mwithin_48, msum_48, mbear_48, mnames_48, mdrifts_48))) else (if x2 = 1 then (bd1 (fX8_tauts FU mnow_48) (fun r71 => bd1 (fX8_move FU mmind_43 mnow_48) (fun mnow_107 => some (r71, mnow_107, mmind_43, mread_48, msize_48, mat_48, mwell_48, mwithin_48, msum_48, mbear_48, mnames_48, mdrifts_48)))) else (if x2 = 2 then (bd1 (fX8_helds FU mnow_48) (fun r83 => bd1 (fX8_move FU mmind_43 mnow_48) (fun mnow_107 => some (r83, mnow_107, mmind_43, mread_48, msize_48, mat_48, mwell_48, mwithin_48, msum_48, mbear_48, mnames_48, mdrifts_48)))) else (bd1 (fX8_number mnow_48 (x2 - 10) 2) (fun r95 => bd1 (fX8_move FU mmind_43 mnow_48) (fun mnow_107 => some (r95, mnow_107, mmind_43, mread_48, msize_48, mat_48, mwell_48, mwithin_48, msum_48, mbear_48, mnames_48, mdrifts_48))))))))) = some (r, now, mi', (J : J9)) := by
    intro n hn hx
    obtain ⟨d, t, g1⟩ := goneOn_c (tP := tP) (tL := tL) (td := td) (tst := tst) (tli := tli) (tk := tk) (tv := tv) (tp := tp) (tr := tr) (tl := tl) (tf := tf) (ts := ts) (tdr := tdr) (ttr := ttr) (n := n) H hS hn hC
    obtain ⟨now', rd1, sz1, a1, w1, wi1, s1, b1, nm1, dr1, g2, g3, g4⟩ := stN (rd := rd) (nm := nm) (dr := dr) (sz := sz) (a := a) (w := w) (wi := wi) (s := s) (b := b) (n := n) (HR_cpy (kind' := tk) (v' := tv) (rows' := tr) (len' := tl) (p := tp) (f := tf) (s := ts) H) hS hn hM hc
    have hbk : mv (mv now mi) now' = now := mv_back g4
    rw [g1, bd14_s, move_m, bd1_s, g2, bd10_s]
    simp only [move_m, bd1_s, hbk]
    by_cases e0 : x2 = 0
    · rw [if_pos e0, if_pos e0, g3.2.2.2.2.2.1]; exact ⟨_, ⟨_, rfl⟩, _, _, rfl⟩
    rw [if_neg e0, if_neg e0]
    by_cases e1 : x2 = 1
    · obtain ⟨r, r1, r2⟩ := tauts_2 g3
      rw [if_pos e1, if_pos e1, r1, r2]; exact ⟨_, ⟨_, rfl⟩, _, _, rfl⟩
    rw [if_neg e1, if_neg e1]
    by_cases e2 : x2 = 2
    · obtain ⟨r, r1, r2⟩ := helds_2 g3
      rw [if_pos e2, if_pos e2, r1, r2]; exact ⟨_, ⟨_, rfl⟩, _, _, rfl⟩
    rw [if_neg e2, if_neg e2]
    rcases hx with hx | hx | hx | ⟨-, -, -, k, k1, k2⟩
    · exact absurd hx e0
    · exact absurd hx e1
    · exact absurd hx e2
    · rw [k2, gd_t (inb_n (by omega) (by decide)), spot_m (by omega), bd1_s, nI_clamp (by omega), (g3.2.2.2.2.2.2.2.1 k k1).2.2.1]
      exact ⟨_, ⟨_, rfl⟩, _, _, rfl⟩
  unfold fX7_on fX8_on
  rw [show fX7_isWithin x2 2 = fX7_isWithin x2 (nI 2) from rfl, show fX8_isIn x2 0 2 = fX8_isIn x2 0 (nI 2) from rfl, show (60 : Int32) = nI 60 from rfl]
  rcases within_or x2 2 (by omega) with ⟨m, m1, e, b1, c1⟩ | ⟨b1, c1⟩
  · rw [b1, c1, bd1_s, bd1_s, i1, i1]
    have hx : x2 = 0 ∨ x2 = 1 ∨ x2 = 2 ∨ (¬ x2 = 0 ∧ ¬ x2 = 1 ∧ ¬ x2 = 2 ∧ ∃ k, k < P ∧ x2 - 10 = nI k) := by
      rcases (show m = 0 ∨ m = 1 ∨ m = 2 by omega) with rfl | rfl | rfl
      · exact Or.inl e
      · exact Or.inr (Or.inl e)
      · exact Or.inr (Or.inr (Or.inl e))
    rcases within_or x1 60 (by omega) with ⟨n, n1, rfl, b2, c2⟩ | ⟨b2, c2⟩
    · rw [b2, c2, bd1_s, bd1_s, i1, i1]
      exact key n (by omega) hx
    · rw [b2, c2, bd1_s, bd1_s, i0, i0]; exact ⟨_, ⟨_, rfl⟩, _, _, rfl⟩
  · rw [b1, c1, bd1_s, bd1_s, i0, i0]
    have hn : ∀ j, j < 3 → ¬ x2 = nI j := by
      rintro j hj rfl
      have := isIn_y (N := nI 2) rfl (by omega) (show j ≤ 2 by omega)
      rw [c1] at this
      exact absurd (Option.some.inj this) (by decide)
    rcases person_or (x2 - 10) hP H.2.2.2.1 with ⟨k, k1, ek, b3, c3⟩ | ⟨b3, c3⟩
    rotate_left
    · rw [b3, c3, bd1_s, bd1_s, i0, i0]; exact ⟨_, ⟨_, rfl⟩, _, _, rfl⟩
    rw [b3, c3, bd1_s, bd1_s, i1, i1]
    have hx : x2 = 0 ∨ x2 = 1 ∨ x2 = 2 ∨ (¬ x2 = 0 ∧ ¬ x2 = 1 ∧ ¬ x2 = 2 ∧ ∃ k, k < P ∧ x2 - 10 = nI k) := Or.inr (Or.inr (Or.inr ⟨hn 0 (by omega), hn 1 (by omega), hn 2 (by omega), k, k1, ek⟩))
    rcases within_or x1 60 (by omega) with ⟨n, n1, rfl, b2, c2⟩ | ⟨b2, c2⟩
    · rw [b2, c2, bd1_s, bd1_s, i1, i1]
      exact key n (by omega) hx
    · rw [b2, c2, bd1_s, bd1_s, i0, i0]; exact ⟨_, ⟨_, rfl⟩, _, _, rfl⟩
theorem meetsLoop {P Lf : Nat} {kind v rows len tk tv tr tl rules sizes lt bg wd : AI} {SUM : AI → Int32} {BR : Int32} {lib : Option Nat} {bs bl bn : AI} {bz bb : Int32} {p1 p2 : Nat} {now0 mi : AI} (ha : p1 < P) (hb : p2 < P) (hC : SumC SUM BR FU lib bs bl bn bz bb) (hc : ∀ tr tr' : AI, (∀ i, i < 6 → tr i = tr' i) → SUM tr = SUM tr') : ∀ (n j : Nat) (q : Q5) (S : Nat) (now dr0 tr0 : AI) (rd nm dr : AI) (sz a w wi s b : Int32), HR P Lf S (va_cpy kind tk 0 0 6) (va_cpy v tv 0 0 6) (va_cpy rows tr 0 0 24) (va_cpy len tl 0 0 4) q now → S + (61 - j) < 2 ^ 20 → SumM SUM BR FU (now 58) rules sizes lt bg wd → Same58 now0 now → j ≤ 61 → 61 - j < n → ∃ r, (∃ T : T14, LX1_meetingOf_11 FU tk tv tr tl (nI P) kind v rows (nI Lf) len lib bs bl bn bz bb (nI p1) (nI p2) n (nI j) q.1 q.2.1 q.2.2.1 q.2.2.2.1 q.2.2.2.2 dr0 tr0 = some (r, T)) ∧ ∃ now' J, LX8_meets_43 FU rules sizes lt bg wd (nI p1) (nI p2) mi n (-5) (nI j) now rd sz a w wi s b nm dr = some (r, mv mi now', mi, (J : J9)) ∧ Same58 now0 now' := by
  intro n
  induction n with
  | zero => intro j q S now dr0 tr0 rd nm dr sz a w wi s b _ _ _ _ _ h; omega
  | succ n ih =>
    intro j q S now dr0 tr0 rd nm dr sz a w wi s b H hS hM h58 hj hn
    have hP := H.1.1
    rw [LX1_meetingOf_11, LX8_meets_43]
    by_cases e : j = 61
    · subst e
      rw [if_pos (by decide), if_pos (by decide), move_m, bd1_s]
      exact ⟨_, ⟨_, rfl⟩, _, _, rfl, h58⟩
    · have hg : ¬ (60 : Int32) < nI j := by rw [show (60 : Int32) = nI 60 from rfl, nI_ltI (by omega) (by omega)]; omega
      rw [if_neg hg, if_neg hg, if_pos rfl, gd_t (inb_n (by omega) (by decide)), gd_t (inb_n (by omega) (by decide)), spot_m (by omega), bd1_s, spot_m (by omega), bd1_s, nI_clamp (by omega), nI_clamp (by omega), (H.2.2.2.2.2.2.2.1 p1 ha).2.2.1, (H.2.2.2.2.2.2.2.1 p2 hb).2.2.1]
      obtain ⟨now', rd1, sz1, a1, w1, wi1, s1, b1, nm1, dr1, g2, g3, g4⟩ := st1 (rd := rd) (nm := nm) (dr := dr) (sz := sz) (a := a) (w := w) (wi := wi) (s := s) (b := b) H (by omega) hM hc
      have h58' : Same58 now0 now' := fun i hi => (g4 i hi).trans (h58 i hi)
      by_cases e2 : q.1 p1 = q.1 p2
      · rw [if_pos e2, if_pos e2, g2, bd10_s]
        obtain ⟨n', rfl⟩ : ∃ n', n = n' + 1 := ⟨n - 1, by omega⟩
        rw [LX8_meets_43, if_neg (nI_m5 (by omega)), nI_1]
        have : (if (60 : Int32) < nI (j + 1) then bd1 (fX8_move FU mi now') (fun mnow_97 => some (nI j, mnow_97, mi, rd1, sz1, a1, w1, wi1, s1, b1, nm1, dr1)) else bd1 (fX8_move FU mi now') (fun mnow_97 => some (nI j, mnow_97, mi, rd1, sz1, a1, w1, wi1, s1, b1, nm1, dr1))) = some (nI j, mv mi now', mi, rd1, sz1, a1, w1, wi1, s1, b1, nm1, dr1) := by
          rw [move_m, bd1_s]; split <;> rfl
        rw [this]
        exact ⟨_, ⟨_, rfl⟩, _, _, rfl, h58'⟩
      · obtain ⟨d1, t1, f1⟩ := go1 (drifts := dr0) (traits := tr0) H (by omega) hC
        rw [if_neg e2, if_neg e2, g2, bd10_s, f1, bd7_s, nI_1]
        exact ih (j + 1) _ (S + 1) now' d1 t1 rd1 nm1 dr1 sz1 a1 w1 wi1 s1 b1 g3 (by omega) (by rw [g4 58 (by omega)]; exact hM) h58' (by omega) (by omega)
