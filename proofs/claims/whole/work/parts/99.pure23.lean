/-! ===== lasts ===== -/
abbrev J12 : Type := AI × AI × J9
def lcode (r : Nat) : Int32 := if r = 61 then -5 else nI r
theorem lcode_late : ∀ r, r < 62 → fX8_late (lcode r) = some (if r = 61 then 1000 else nI r) := by decide +kernel
theorem lastsLoop {P Lf : Nat} {K V R L rules sizes lt bg wd : AI} {SUM : AI → Int32} {BR : Int32} {lib : Option Nat} {bs bl bn : AI} {bz bb : Int32} {k : Nat} {now0 mi : AI} (hk : k < Lf) (hC : SumC SUM BR FU lib bs bl bn bz bb) (hc : ∀ tr tr' : AI, (∀ i, i < 6 → tr i = tr' i) → SUM tr = SUM tr') : ∀ (n j : Nat) (q : Q5) (S : Nat) (now dr0 tr0 : AI) (rd nm dr : AI) (sz a w wi s b : Int32), HR P Lf S K V R L q now → S + (61 - j) < 2 ^ 20 → SumM SUM BR FU (now 58) rules sizes lt bg wd → Same58 now0 now → ¬ q.2.1 k = -5 → j ≤ 60 → 62 - j < n →
    ∃ r, 1 ≤ r ∧ r ≤ 61 ∧ (∃ p' f' s' d' st' dr' tr', LX1_trialLasts_2 FU (nI P) K V R (nI Lf) L lib bs bl bn bz bb (nI k) n (nI (j + 1)) q.1 q.2.1 q.2.2.1 q.2.2.2.1 q.2.2.2.2 dr0 tr0 = some (nI r, p', f', s', d', st', dr', tr')) ∧ ∃ now' rd' sz' a' w' wi' s' b' nm' dr', LX8_lasts_27 FU rules sizes lt bg wd (nI k) mi n (-5) (nI j) now rd sz a w wi s b nm dr = some (lcode r, mv mi now', mi, rd', sz', a', w', wi', s', b', nm', dr') ∧ Same58 now0 now' := by
  intro n
  induction n with
  | zero => intro j q S now dr0 tr0 rd nm dr sz a w wi s b _ _ _ _ _ _ h; omega
  | succ n ih =>
    intro j q S now dr0 tr0 rd nm dr sz a w wi s b H hS hM h58 hq hj hn
    have hL := H.2.1.1
    have hP := H.1.1
    have hg : ¬ (60 : Int32) < nI j := by rw [show (60 : Int32) = nI 60 from rfl, nI_ltI (by omega) (by omega)]; omega
    obtain ⟨now', rd1, sz1, a1, w1, wi1, s1, b1, nm1, dr1, g2, g3, g4⟩ := st1 (rd := rd) (nm := nm) (dr := dr) (sz := sz) (a := a) (w := w) (wi := wi) (s := s) (b := b) H (by omega) hM hc
    have h58' : Same58 now0 now' := fun i hi => (g4 i hi).trans (h58 i hi)
    rw [LX1_trialLasts_2, LX8_lasts_27, if_neg hg, if_pos rfl, isHeldR_m hP hL H.2.2.2 H.2.2.1.1 hk, bd1_s, if_neg hq, i1, g2, bd10_s, nI_1, nI_1]
    by_cases e : j = 60
    · subst e
      rw [if_pos (by decide)]
      obtain ⟨n', rfl⟩ : ∃ n', n = n' + 1 := ⟨n - 1, by omega⟩
      rw [LX8_lasts_27, if_pos (by decide), move_m, bd1_s]
      exact ⟨61, by omega, by omega, ⟨_, _, _, _, _, _, _, rfl⟩, _, _, _, _, _, _, _, _, _, _, rfl, h58'⟩
    · obtain ⟨d1, t1, f1⟩ := go1 (drifts := dr0) (traits := tr0) H (by omega) hC
      have hg2 : ¬ (60 : Int32) < nI (j + 1) := by rw [show (60 : Int32) = nI 60 from rfl, nI_ltI (by omega) (by omega)]; omega
      rw [if_neg hg2, f1, bd7_s, isHeld_c (show k < 4 by omega), bd1_s]
      by_cases e2 : (stp P Lf K V R L SUM BR q).2.1 k = -5
      · rw [if_pos e2, i0]
        obtain ⟨n', rfl⟩ : ∃ n', n = n' + 1 + 1 := ⟨n - 2, by omega⟩
        obtain ⟨now2, rd2, sz2, a2, w2, wi2, s2, b2, nm2, dr2, g5, g6, g7⟩ := st1 (rd := rd1) (nm := nm1) (dr := dr1) (sz := sz1) (a := a1) (w := w1) (wi := wi1) (s := s1) (b := b1) g3 (by omega) (by rw [g4 58 (by omega)]; exact hM) hc
        have h58'' : Same58 now0 now2 := fun i hi => (g7 i hi).trans (h58' i hi)
        rw [LX8_lasts_27, if_neg hg2, if_pos rfl, isHeldR_m hP hL g3.2.2.2 g3.2.2.1.1 hk, bd1_s, if_pos e2, i0, g5, bd10_s, nI_1, LX8_lasts_27, if_neg (nI_m5 (by omega))]
        have : (if (60 : Int32) < nI (j + 1 + 1) then bd1 (fX8_move FU mi now2) (fun mnow_72 => some (nI (j + 1), mnow_72, mi, rd2, sz2, a2, w2, wi2, s2, b2, nm2, dr2)) else bd1 (fX8_move FU mi now2) (fun mnow_72 => some (nI (j + 1), mnow_72, mi, rd2, sz2, a2, w2, wi2, s2, b2, nm2, dr2))) = some (nI (j + 1), mv mi now2, mi, rd2, sz2, a2, w2, wi2, s2, b2, nm2, dr2) := by
          rw [move_m, bd1_s]; split <;> rfl
        rw [this]
        have hl : lcode (j + 1) = nI (j + 1) := if_neg (by omega)
        refine ⟨j + 1, by omega, by omega, ⟨_, _, _, _, _, _, _, rfl⟩, now2, rd2, sz2, a2, w2, wi2, s2, b2, nm2, dr2, ?_, h58''⟩
        rw [hl]
      · rw [if_neg e2, i1]
        exact ih (j + 1) _ (S + 1) now' d1 t1 rd1 nm1 dr1 sz1 a1 w1 wi1 s1 b1 g3 (by omega) (by rw [g4 58 (by omega)]; exact hM) h58' e2 (by omega) (by omega)
