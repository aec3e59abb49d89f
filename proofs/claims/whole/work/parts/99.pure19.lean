theorem bd9_s {α0 α1 α2 α3 α4 α5 α6 α7 α8 α9 : Type} {a0 : α0} {a1 : α1} {a2 : α2} {a3 : α3} {a4 : α4} {a5 : α5} {a6 : α6} {a7 : α7} {a8 : α8} {k : α0 → α1 → α2 → α3 → α4 → α5 → α6 → α7 → α8 → Option α9} : bd9 (some (a0, a1, a2, a3, a4, a5, a6, a7, a8)) k = k a0 a1 a2 a3 a4 a5 a6 a7 a8 := rfl
theorem bd10_s {α0 α1 α2 α3 α4 α5 α6 α7 α8 α9 α10 : Type} {a0 : α0} {a1 : α1} {a2 : α2} {a3 : α3} {a4 : α4} {a5 : α5} {a6 : α6} {a7 : α7} {a8 : α8} {a9 : α9} {k : α0 → α1 → α2 → α3 → α4 → α5 → α6 → α7 → α8 → α9 → Option α10} : bd10 (some (a0, a1, a2, a3, a4, a5, a6, a7, a8, a9)) k = k a0 a1 a2 a3 a4 a5 a6 a7 a8 a9 := rfl
theorem bd11_s {α0 α1 α2 α3 α4 α5 α6 α7 α8 α9 α10 α11 : Type} {a0 : α0} {a1 : α1} {a2 : α2} {a3 : α3} {a4 : α4} {a5 : α5} {a6 : α6} {a7 : α7} {a8 : α8} {a9 : α9} {a10 : α10} {k : α0 → α1 → α2 → α3 → α4 → α5 → α6 → α7 → α8 → α9 → α10 → Option α11} : bd11 (some (a0, a1, a2, a3, a4, a5, a6, a7, a8, a9, a10)) k = k a0 a1 a2 a3 a4 a5 a6 a7 a8 a9 a10 := rfl
theorem bd12_s {α0 α1 α2 α3 α4 α5 α6 α7 α8 α9 α10 α11 α12 : Type} {a0 : α0} {a1 : α1} {a2 : α2} {a3 : α3} {a4 : α4} {a5 : α5} {a6 : α6} {a7 : α7} {a8 : α8} {a9 : α9} {a10 : α10} {a11 : α11} {k : α0 → α1 → α2 → α3 → α4 → α5 → α6 → α7 → α8 → α9 → α10 → α11 → Option α12} : bd12 (some (a0, a1, a2, a3, a4, a5, a6, a7, a8, a9, a10, a11)) k = k a0 a1 a2 a3 a4 a5 a6 a7 a8 a9 a10 a11 := rfl
theorem bd13_s {α0 α1 α2 α3 α4 α5 α6 α7 α8 α9 α10 α11 α12 α13 : Type} {a0 : α0} {a1 : α1} {a2 : α2} {a3 : α3} {a4 : α4} {a5 : α5} {a6 : α6} {a7 : α7} {a8 : α8} {a9 : α9} {a10 : α10} {a11 : α11} {a12 : α12} {k : α0 → α1 → α2 → α3 → α4 → α5 → α6 → α7 → α8 → α9 → α10 → α11 → α12 → Option α13} : bd13 (some (a0, a1, a2, a3, a4, a5, a6, a7, a8, a9, a10, a11, a12)) k = k a0 a1 a2 a3 a4 a5 a6 a7 a8 a9 a10 a11 a12 := rfl
theorem bd14_s {α0 α1 α2 α3 α4 α5 α6 α7 α8 α9 α10 α11 α12 α13 α14 : Type} {a0 : α0} {a1 : α1} {a2 : α2} {a3 : α3} {a4 : α4} {a5 : α5} {a6 : α6} {a7 : α7} {a8 : α8} {a9 : α9} {a10 : α10} {a11 : α11} {a12 : α12} {a13 : α13} {k : α0 → α1 → α2 → α3 → α4 → α5 → α6 → α7 → α8 → α9 → α10 → α11 → α12 → α13 → Option α14} : bd14 (some (a0, a1, a2, a3, a4, a5, a6, a7, a8, a9, a10, a11, a12, a13)) k = k a0 a1 a2 a3 a4 a5 a6 a7 a8 a9 a10 a11 a12 a13 := rfl
theorem bd15_s {α0 α1 α2 α3 α4 α5 α6 α7 α8 α9 α10 α11 α12 α13 α14 α15 : Type} {a0 : α0} {a1 : α1} {a2 : α2} {a3 : α3} {a4 : α4} {a5 : α5} {a6 : α6} {a7 : α7} {a8 : α8} {a9 : α9} {a10 : α10} {a11 : α11} {a12 : α12} {a13 : α13} {a14 : α14} {k : α0 → α1 → α2 → α3 → α4 → α5 → α6 → α7 → α8 → α9 → α10 → α11 → α12 → α13 → α14 → Option α15} : bd15 (some (a0, a1, a2, a3, a4, a5, a6, a7, a8, a9, a10, a11, a12, a13, a14)) k = k a0 a1 a2 a3 a4 a5 a6 a7 a8 a9 a10 a11 a12 a13 a14 := rfl
/-! ===== running on: both sides ===== -/
abbrev T14 : Type := Int32 × AI × AI × AI × AI × Int32 × AI × AI × AI × Int32 × Int32 × Option Nat × AI × AI
abbrev J9 : Type := AI × Int32 × Int32 × Int32 × Int32 × Int32 × Int32 × AI × AI
abbrev J8 : Type := AI × Int32 × Int32 × Int32 × Int32 × Int32 × Int32 × AI
theorem go1 {P Lf S : Nat} {kind v rows len : AI} {q : Q5} {now : AI} {SUM : AI → Int32} {BR : Int32} {lib : Option Nat} {bs bl bn : AI} {bz bb : Int32} {drifts traits : AI} (H : HR P Lf S kind v rows len q now) (hS : S < 2 ^ 20) (hC : SumC SUM BR FU lib bs bl bn bz bb) : ∃ d t, fX2_goOne FU (nI P) kind v q.1 rows (nI Lf) len q.2.1 q.2.2.1 q.2.2.2.1 q.2.2.2.2 lib drifts traits bs bl bn bz bb = some ((stp P Lf kind v rows len SUM BR q).1, (stp P Lf kind v rows len SUM BR q).2.1, (stp P Lf kind v rows len SUM BR q).2.2.1, (stp P Lf kind v rows len SUM BR q).2.2.2.1, (stp P Lf kind v rows len SUM BR q).2.2.2.2, d, t) := goOne_c H.1.1 H.2.1.1 (by unfold FU; omega) (pOk_mono H.1.1 H.2.2.1.1) H.2.2.1.2.2 (by omega) hC
theorem st1 {P Lf S : Nat} {kind v rows len : AI} {q : Q5} {now rules sizes lt bg wd : AI} {SUM : AI → Int32} {BR : Int32} {rd nm dr : AI} {sz a w wi s b : Int32} (H : HR P Lf S kind v rows len q now) (hS : S < 2 ^ 20) (hM : SumM SUM BR FU (now 58) rules sizes lt bg wd) (hc : ∀ tr tr' : AI, (∀ i, i < 6 → tr i = tr' i) → SUM tr = SUM tr') : ∃ now' rd' sz' a' w' wi' s' b' nm' dr', fX8_step FU now rules sizes rd sz a w wi s b nm lt bg wd dr = some (now', rd', sz', a', w', wi', s', b', nm', dr') ∧ HR P Lf (S + 1) kind v rows len (stp P Lf kind v rows len SUM BR q) now' ∧ Same58 now now' := by
  obtain ⟨hk, hl, hq, h⟩ := H
  obtain ⟨now', rd1, sz1, a1, w1, wi1, s1, b1, nm1, dr1, g1, g2, g3⟩ := step_m (rd := rd) (nm := nm) (dr := dr) (sz := sz) (a := a) (w := w) (wi := wi) (s := s) (b := b) hk.1 hl.1 (by unfold FU; omega) h hq.1 hM hc hq.2.2 (by omega)
  exact ⟨now', rd1, sz1, a1, w1, wi1, s1, b1, nm1, dr1, g1, ⟨hk, hl, stp_Qk hk.1 hl hq, g2⟩, g3⟩
theorem goN {P Lf S : Nat} {kind v rows len : AI} {q : Q5} {now : AI} {SUM : AI → Int32} {BR : Int32} {lib : Option Nat} {bs bl bn : AI} {bz bb : Int32} {drifts traits : AI} {n : Nat} (H : HR P Lf S kind v rows len q now) (hS : S < 2 ^ 20) (hn : n ≤ 60) (hC : SumC SUM BR FU lib bs bl bn bz bb) : ∃ d t, fX2_goOn FU (nI P) kind v q.1 rows (nI Lf) len q.2.1 q.2.2.1 q.2.2.2.1 q.2.2.2.2 lib drifts traits bs bl bn bz bb (nI n) = some ((itr (stp P Lf kind v rows len SUM BR) n q).1, (itr (stp P Lf kind v rows len SUM BR) n q).2.1, (itr (stp P Lf kind v rows len SUM BR) n q).2.2.1, (itr (stp P Lf kind v rows len SUM BR) n q).2.2.2.1, (itr (stp P Lf kind v rows len SUM BR) n q).2.2.2.2, d, t) := by
  obtain ⟨hk, hl, hq, h⟩ := H
  exact goOn_c (N := n) hk.1 hl.1 (by unfold FU; omega) (by omega) hC FU 0 q S drifts traits (by omega) (by unfold FU; omega) (pOk_mono hk.1 hq.1) hq.2.2 (by omega)
theorem stN {P Lf S : Nat} {kind v rows len : AI} {q : Q5} {now rules sizes lt bg wd : AI} {SUM : AI → Int32} {BR : Int32} {rd nm dr : AI} {sz a w wi s b : Int32} {n : Nat} (H : HR P Lf S kind v rows len q now) (hS : S < 2 ^ 20) (hn : n ≤ 60) (hM : SumM SUM BR FU (now 58) rules sizes lt bg wd) (hc : ∀ tr tr' : AI, (∀ i, i < 6 → tr i = tr' i) → SUM tr = SUM tr') : ∃ now' rd' sz' a' w' wi' s' b' nm' dr', fX8_steps FU now rules sizes rd sz a w wi s b nm lt bg wd dr (nI n) = some (now', rd', sz', a', w', wi', s', b', nm', dr') ∧ HR P Lf (S + n) kind v rows len (itr (stp P Lf kind v rows len SUM BR) n q) now' ∧ Same58 now now' := by
  obtain ⟨hk, hl, hq, h⟩ := H
  obtain ⟨now', rd1, sz1, a1, w1, wi1, s1, b1, nm1, dr1, g1, g2, g3⟩ := steps_m (N := n) hk.1 hl.1 (by unfold FU; omega) (by omega) hc FU 0 q S now rd nm dr sz a w wi s b (by omega) (by unfold FU; omega) h hq.1 hM hq.2.2 (by omega)
  exact ⟨now', rd1, sz1, a1, w1, wi1, s1, b1, nm1, dr1, g1, ⟨hk, hl, itr_Qk hk.1 hl n S q hq, g2⟩, g3⟩
theorem HR_cpy {P Lf S : Nat} {kind v rows len kind' v' rows' len' p f s : AI} {q : Q5} {now : AI} (H : HR P Lf S kind v rows len q now) : HR P Lf S (va_cpy kind kind' 0 0 6) (va_cpy v v' 0 0 6) (va_cpy rows rows' 0 0 24) (va_cpy len len' 0 0 4) (cQ q p f s) now := ⟨cKk H.1, cLn H.2.1, cQ_Qk H.1.1 H.2.1.1 H.2.2.1, cRM H.1.1 H.2.1.1 H.2.2.2⟩
theorem HR_mv {P Lf S : Nat} {kind v rows len z : AI} {q : Q5} {now : AI} (H : HR P Lf S kind v rows len q now) : HR P Lf S kind v rows len q (mv now z) := ⟨H.1, H.2.1, H.2.2.1, RM_mv H.1.1 H.2.1.1 H.2.2.2⟩
theorem HR_same {P Lf S : Nat} {kind v rows len : AI} {q : Q5} {now now' : AI} (h : ∀ i, i < 58 → now' i = now i) (H : HR P Lf S kind v rows len q now) : HR P Lf S kind v rows len q now' := by
  obtain ⟨hk, hl, hq, h1, h2, h3, h4, h5, h6⟩ := H
  have hP := hk.1
  have hL := hl.1
  refine ⟨hk, hl, hq, (h _ (by omega)).trans h1, (h _ (by omega)).trans h2, (h _ (by omega)).trans h3, (h _ (by omega)).trans h4, fun i hi => ?_, fun l hl => ?_⟩
  · obtain ⟨y1, y2, y3, y4⟩ := h5 i hi
    exact ⟨(h _ (by omega)).trans y1, (h _ (by omega)).trans y2, (h _ (by omega)).trans y3, fun k hk => (h _ (by omega)).trans (y4 k hk)⟩
  · obtain ⟨y1, y2, y3⟩ := h6 l hl
    exact ⟨(h _ (by omega)).trans y1, (h _ (by omega)).trans y2, (h _ (by omega)).trans y3⟩
theorem or_0 (x : Int32) : x ||| 0 = x := Int32.or_zero
theorem heldLoop {P Lf S : Nat} {kind v rows len : AI} {q : Q5} {now : AI} (H : HR P Lf S kind v rows len q now) : ∀ (n l : Nat) (acc : Int32), l ≤ Lf → Lf - l < n → ∃ r, LX2_heldBits_4 (nI Lf) q.2.1 n acc (nI l) = some r ∧ LX8_helds_4 now n acc (nI l) = some r := by
  obtain ⟨hk, hl, hq, h⟩ := H
  have hL := hl.1
  intro n
  induction n with
  | zero => intro l _ _ h; omega
  | succ n ih =>
    intro l acc hl2 hn
    rw [LX2_heldBits_4, LX8_helds_4, h.2.1]
    by_cases e : l = Lf
    · subst e
      rw [if_pos (nI_le (Nat.le_refl _) (by omega)), if_pos (nI_le (Nat.le_refl _) (by omega))]
      exact ⟨_, rfl, rfl⟩
    · rw [if_neg (nle_nI (by omega) (by omega)), if_neg (nle_nI (by omega) (by omega)), isHeld_c (by omega), isHeldR_m hk.1 hL h hq.1 (by omega), bd1_s, bd1_s, or_0, nI_1]
      by_cases e2 : q.2.1 l = -5
      · rw [if_pos e2, i0, i0]; exact ih (l + 1) _ (by omega) (by omega)
      · rw [if_neg e2, i1, i1]; exact ih (l + 1) _ (by omega) (by omega)
theorem helds_2 {P Lf S : Nat} {kind v rows len : AI} {q : Q5} {now : AI} (H : HR P Lf S kind v rows len q now) : ∃ r, fX2_heldBits FU (nI Lf) q.2.1 = some r ∧ fX8_helds FU now = some r := by
  have hL := H.2.1.1
  exact heldLoop H FU 0 0 (by omega) (by unfold FU; omega)
theorem tautLoop {P Lf S : Nat} {kind v rows len : AI} {q : Q5} {now : AI} (H : HR P Lf S kind v rows len q now) : ∀ (n l : Nat) (acc : Int32), l ≤ Lf → Lf - l < n → ∃ r, LX2_tautBits_4 q.1 (nI Lf) len q.2.1 q.2.2.1 n acc (nI l) = some r ∧ LX8_tauts_4 now n acc (nI l) = some r := by
  obtain ⟨hk, hl, hq, h⟩ := H
  have hL := hl.1
  intro n
  induction n with
  | zero => intro l _ _ h; omega
  | succ n ih =>
    intro l acc hl2 hn
    rw [LX2_tautBits_4, LX8_tauts_4, h.2.1]
    by_cases e : l = Lf
    · subst e
      rw [if_pos (nI_le (Nat.le_refl _) (by omega)), if_pos (nI_le (Nat.le_refl _) (by omega))]
      exact ⟨_, rfl, rfl⟩
    · rw [if_neg (nle_nI (by omega) (by omega)), if_neg (nle_nI (by omega) (by omega)), isTaut_c (show l < Lf by omega) hL (pOk_mono hk.1 hq.1), isTaut_m hk.1 hL h hq.1 (show l < Lf by omega), bd1_s, bd1_s, or_0, nI_1]
      by_cases e2 : (if q.2.1 l = -5 then (0 : Int32) else if pGap q.1 q.2.1 q.2.2.1 len l ≤ 0 then 0 else 1) = 0
      · rw [if_pos e2, if_pos e2]; exact ih (l + 1) _ (by omega) (by omega)
      · rw [if_neg e2, if_neg e2]; exact ih (l + 1) _ (by omega) (by omega)
theorem tauts_2 {P Lf S : Nat} {kind v rows len : AI} {q : Q5} {now : AI} (H : HR P Lf S kind v rows len q now) : ∃ r, fX2_tautBits FU q.1 (nI Lf) len q.2.1 q.2.2.1 = some r ∧ fX8_tauts FU now = some r := by
  have hL := H.2.1.1
  exact tautLoop H FU 0 0 (by omega) (by unfold FU; omega)
theorem told_2 {P Lf S : Nat} {kind v rows len : AI} {q : Q5} {now rules sizes lt bg wd : AI} {SUM : AI → Int32} {BR : Int32} {lib : Option Nat} {bs bl bn : AI} {bz bb : Int32} {rd nm : AI} {sz a w wi s b : Int32} (x1 : Int32) (H : HR P Lf S kind v rows len q now) (hS : S < 2 ^ 20) (hC : SumC SUM BR FU lib bs bl bn bz bb) (hM : SumM SUM BR FU (now 58) rules sizes lt bg wd) (hc : ∀ tr tr' : AI, (∀ i, i < 6 → tr i = tr' i) → SUM tr = SUM tr') : ∃ r, fX7_told FU q.1 (nI Lf) len q.2.1 q.2.2.1 q.2.2.2.1 q.2.2.2.2 lib bb x1 = some r ∧ ∃ J : J8, fX8_told FU now rules sizes rd sz a w wi s b nm lt bg wd x1 = some (r, J) := by
  have hL := H.2.1.1
  have hP := H.1.1
  unfold fX7_told fX8_told
  by_cases e0 : x1 = 0
  · rw [if_pos e0, if_pos e0, H.2.2.2.2.2.2.1]; exact ⟨_, rfl, _, rfl⟩
  rw [if_neg e0, if_neg e0]
  by_cases e1 : x1 = 1
  · obtain ⟨rd1, sz1, a1, w1, wi1, nm1, g1, -⟩ := readFor_m (rd := rd) (sz := sz) (a := a) (w := w) (wi := wi) (s := s) (b := b) (nm := nm) hP hL (by unfold FU; omega) H.2.2.2 H.2.2.1.1 hM (show 0 < 6 by omega)
    have g1' : fX8_readFor FU now rules sizes rd sz a w wi s b nm lt bg wd 0 = some (rd1, sz1, a1, w1, wi1, SUM nm1, BR, nm1) := g1
    unfold fX8_bearNow
    rw [if_pos e1, if_pos e1, hC.2.1, bd1_s, g1', bd8_s, bd9_s]
    exact ⟨_, rfl, _, rfl⟩
  rw [if_neg e1, if_neg e1]
  by_cases e2 : x1 = 2
  · rw [if_pos e2, if_pos e2, H.2.2.2.2.2.1]; exact ⟨_, rfl, _, rfl⟩
  rw [if_neg e2, if_neg e2]
  by_cases e3 : x1 = 3
  · obtain ⟨r, r1, r2⟩ := tauts_2 H
    rw [if_pos e3, if_pos e3, r1, r2]; exact ⟨_, rfl, _, rfl⟩
  rw [if_neg e3, if_neg e3]
  by_cases e4 : x1 = 4
  · obtain ⟨r, r1, r2⟩ := helds_2 H
    rw [if_pos e4, if_pos e4, r1, r2]; exact ⟨_, rfl, _, rfl⟩
  rw [if_neg e4, if_neg e4]
  exact ⟨_, rfl, _, rfl⟩
theorem of_2 {P Lf S : Nat} {kind v rows len : AI} {q : Q5} {now rules sizes lt bg wd : AI} {SUM : AI → Int32} {BR : Int32} {lib : Option Nat} {bs bl bn : AI} {bz bb : Int32} {rd nm : AI} {sz a w wi s b : Int32} {traits : AI} (x1 x2 : Int32) (H : HR P Lf S kind v rows len q now) (hS : S < 2 ^ 20) (hC : SumC SUM BR FU lib bs bl bn bz bb) (hM : SumM SUM BR FU (now 58) rules sizes lt bg wd) (hc : ∀ tr tr' : AI, (∀ i, i < 6 → tr i = tr' i) → SUM tr = SUM tr') : ∃ r tr', fX7_of FU (nI P) kind v q.1 rows (nI Lf) q.2.1 q.2.2.1 q.2.2.2.2 lib traits bs bl bn bz x1 x2 = some (r, tr') ∧ ∃ J : J8, fX8_of FU now rules sizes rd sz a w wi s b nm lt bg wd x1 x2 = some (r, J) := by
  have hL := H.2.1.1
  have hP := H.1.1
  unfold fX7_of fX8_of
  rcases person_or x1 hP H.2.2.2.1 with ⟨k, k1, rfl, b1, c1⟩ | ⟨b1, c1⟩
  rotate_left
  · rw [b1, c1, bd1_s, bd1_s, i0, i0]; exact ⟨_, _, rfl, _, rfl⟩
  have hb : inb (nI k) 6 := inb_n (by omega) (by decide)
  obtain ⟨g1, g2, g3, g4⟩ := H.2.2.2.2.2.2.2.1 k k1
  rw [b1, c1, bd1_s, bd1_s, i1, i1, show (4 : Int32) = nI 4 from rfl]
  rcases within_or x2 4 (by omega) with ⟨m, m1, rfl, b2, c2⟩ | ⟨b2, c2⟩
  rotate_left
  · rw [c2, bd1_s, i0]
    have hn : ∀ j, j < 5 → ¬ x2 = nI j := by
      rintro j hj rfl
      have := isIn_y (N := nI 4) rfl (by omega) (show j ≤ 4 by omega)
      rw [c2] at this
      exact absurd (Option.some.inj this) (by decide)
    rw [if_neg (show ¬ x2 = 0 from hn 0 (by omega)), if_neg (show ¬ x2 = 1 from hn 1 (by omega)), if_neg (show ¬ x2 = 2 from hn 2 (by omega)), if_neg (show ¬ x2 = 3 from hn 3 (by omega)), if_neg (hn 4 (by omega))]
    exact ⟨_, _, rfl, _, rfl⟩
  rw [c2, bd1_s, i1]
  rcases (show m = 0 ∨ m = 1 ∨ m = 2 ∨ m = 3 ∨ m = 4 by omega) with rfl | rfl | rfl | rfl | rfl
  · rw [if_pos (show nI 0 = 0 from rfl), gd_t hb, if_neg (by decide), number_m (by omega), bd1_s, nI_clamp (by omega), Nat.add_zero, g1]
    exact ⟨_, _, rfl, _, rfl⟩
  · rw [if_neg (by decide), if_pos (show nI 1 = 1 from rfl), gd_t hb, if_neg (by decide), number_m (by omega), bd1_s, nI_clamp (by omega), g2]
    exact ⟨_, _, rfl, _, rfl⟩
  · rw [if_neg (by decide), if_neg (by decide), if_pos (show nI 2 = 2 from rfl), gd_t hb, if_neg (by decide), number_m (by omega), bd1_s, nI_clamp (by omega), g3]
    exact ⟨_, _, rfl, _, rfl⟩
  · rw [if_neg (by decide), if_neg (by decide), if_neg (by decide), if_pos (show nI 3 = 3 from rfl), if_pos (by decide), if_pos (by decide), holds_c hL (by unfold FU; omega), leaves_m hP hL (by unfold FU; omega) H.2.2.2 H.2.2.1.1 (by omega)]
    exact ⟨_, _, rfl, _, rfl⟩
  · obtain ⟨tr', d1⟩ := drift_c (place := q.1) (v := v) (kind := kind) (rows := rows) (first := q.2.1) (second := q.2.2.1) (traits := traits) (P := P) (p := k) hL (by unfold FU; omega) (by omega) H.2.2.1.2.2 (by omega) hC
    obtain ⟨rd1, sz1, a1, w1, wi1, s1, b1, nm1, d2⟩ := drift_m (rd := rd) (nm := nm) (sz := sz) (a := a) (w := w) (wi := wi) (s := s) (b := b) hP hL (by unfold FU; omega) H.2.2.2 H.2.2.1.1 hM hc H.2.2.1.2.2 (by omega) k1
    rw [if_neg (by decide), if_neg (by decide), if_neg (by decide), if_neg (by decide), if_pos rfl, if_pos (by decide), if_neg (by decide), d1, d2, bd2_s, bd9_s]
    exact ⟨_, _, rfl, _, rfl⟩
