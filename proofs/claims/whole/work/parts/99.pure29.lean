/-! ===== ends ===== -/
def PN (P Lf pc : Nat) (pw po now : AI) : Prop := now 75 = nI pc ∧ ∀ i, i < pc → now (76 + 2 * i) = pw i ∧ now (77 + 2 * i) = po i ∧ (pw i = 0 ∨ ((pw i = 1 ∨ pw i = 2) ∧ bnd (po i) Lf) ∨ (pw i = 3 ∧ bnd (po i) P))
theorem PN_same {P Lf pc : Nat} {pw po now now' : AI} (hs : Same58 now now') (h : PN P Lf pc pw po now) : PN P Lf pc pw po now' := by
  refine ⟨(hs 75 (by omega)).trans h.1, fun i hi => ?_⟩
  obtain ⟨z1, z2, z3⟩ := h.2 i hi
  exact ⟨(hs _ (by omega)).trans z1, (hs _ (by omega)).trans z2, z3⟩
theorem endLoop {P Lf pc : Nat} {kind v rows tk tv tr pw po rules sizes lt bg wd mi now0 : AI} {SUM : AI → Int32} {BR : Int32} {lib : Option Nat} {bs bl bn : AI} {bz bb x1 : Int32} (hpc : pc ≤ 10) (hC : SumC SUM BR FU lib bs bl bn bz bb) (hc : ∀ tr tr' : AI, (∀ i, i < 6 → tr i = tr' i) → SUM tr = SUM tr') : ∀ (n i : Nat) (q : Q5) (len : AI) (S : Nat) (now dr0 tr0 : AI) (rd nm dr : AI) (sz a w wi s b : Int32), i ≤ pc → pc - i < n → HR P Lf S (va_cpy kind tk 0 0 6) (va_cpy v tv 0 0 6) (va_cpy rows tr 0 0 24) len q now → S + (pc - i) < 2 ^ 20 → PN P Lf pc pw po now → SumM SUM BR FU (now 58) rules sizes lt bg wd → Same58 now0 now →
    ∃ (q' : Q5) (len' : AI) (S' : Nat) (now' dr' tr' : AI) (J : J9), LX1_endOf_10 FU tk tv tr (nI P) kind v rows (nI Lf) lib (nI pc) pw po bs bl bn bz bb n (nI i) q.1 len q.2.1 q.2.2.1 q.2.2.2.1 q.2.2.2.2 dr0 tr0 = some (nI P, va_cpy kind tk 0 0 6, va_cpy v tv 0 0 6, q'.1, va_cpy rows tr 0 0 24, nI Lf, len', q'.2.1, q'.2.2.1, q'.2.2.2.1, q'.2.2.2.2, lib, dr', tr') ∧ LX8_ends_24 FU rules sizes lt bg wd x1 mi n (nI i) now rd sz a w wi s b nm dr = (if x1 = 0 then bd1 (fX8_move FU mi now') (fun mz => some (now' 56, mz, mi, J)) else bd1 (fX8_spots FU now') (fun rz => bd1 (fX8_move FU mi now') (fun mz => some (rz, mz, mi, J)))) ∧ HR P Lf S' (va_cpy kind tk 0 0 6) (va_cpy v tv 0 0 6) (va_cpy rows tr 0 0 24) len' q' now' ∧ Same58 now0 now' := by
  intro n
  induction n with
  | zero => intro i q len S now dr0 tr0 rd nm dr sz a w wi s b _ h; omega
  | succ n ih =>
    intro i q len S now dr0 tr0 rd nm dr sz a w wi s b hi hn H hS N hM h58
    have hP := H.1.1
    have hL := H.2.1.1
    rw [LX1_endOf_10, LX8_ends_24, N.1]
    by_cases e : i = pc
    · subst e
      rw [if_pos (nI_le (Nat.le_refl _) (by omega)), if_pos (nI_le (Nat.le_refl _) (by omega))]
      exact ⟨q, len, S, now, _, _, _, rfl, rfl, H, h58⟩
    have hb : inb (nI i) 10 := inb_n (by omega) (by decide)
    have ea : 76 + 2 * nI i = nI (76 + 2 * i) := by rw [show (2 : Int32) = nI 2 from rfl, show (76 : Int32) = nI 76 from rfl, pk_mul, nI_add]
    have ea1 : 77 + 2 * nI i = nI (77 + 2 * i) := by rw [show (2 : Int32) = nI 2 from rfl, show (77 : Int32) = nI 77 from rfl, pk_mul, nI_add]
    obtain ⟨z1, z2, z3⟩ := N.2 i (by omega)
    rw [if_neg (nle_nI (by omega) (by omega)), if_neg (nle_nI (by omega) (by omega)), gd_t hb, gd_t hb, ea, ea1, gd_t (inb_n (by omega) (by decide)), gd_t (inb_n (by omega) (by decide)), nI_clamp (by omega), nI_clamp (by omega), nI_clamp (by omega), z1, z2, nI_1]
    by_cases e0 : pw i = 0
    · obtain ⟨d1, t1, f1⟩ := go1 (drifts := dr0) (traits := tr0) H (by omega) hC
      obtain ⟨now', rd1, sz1, a1, w1, wi1, s1, b1, nm1, dr1, g2, g3, g4⟩ := st1 (rd := rd) (nm := nm) (dr := dr) (sz := sz) (a := a) (w := w) (wi := wi) (s := s) (b := b) H (by omega) hM hc
      rw [if_pos e0, if_pos e0, f1, bd7_s, g2, bd10_s]
      exact ih (i + 1) _ len (S + 1) now' d1 t1 rd1 nm1 dr1 sz1 a1 w1 wi1 s1 b1 (by omega) (by omega) g3 (by omega) (PN_same g4 N) (by rw [g4 58 (by omega)]; exact hM) (fun j hj => (g4 j hj).trans (h58 j hj))
    rw [if_neg e0, if_neg e0]
    by_cases e1 : pw i = 1
    · obtain ⟨k, k1, k2⟩ : bnd (po i) Lf := by
        rcases z3 with z | ⟨-, z⟩ | ⟨z, -⟩
        · exact absurd z e0
        · exact z
        · rw [e1] at z; exact absurd z (by decide)
      have hs : Same58 now (upd (upd now (43 + 3 * k) (-1)) (44 + 3 * k) (-1)) := fun j hj => by rw [upd_n (by omega), upd_n (by omega)]
      rw [if_pos e1, if_pos e1, k2, letGo_c (by omega), bd2_s, holds_m (by omega), bd1_s]
      exact ih (i + 1) _ len S _ dr0 tr0 rd nm dr sz a w wi s b (by omega) (by omega) (HR_let H k1) (by omega) (PN_same hs N) (by rw [hs 58 (by omega)]; exact hM) (fun j hj => (hs j hj).trans (h58 j hj))
    rw [if_neg e1, if_neg e1]
    by_cases e2 : pw i = 2
    · obtain ⟨k, k1, k2⟩ : bnd (po i) Lf := by
        rcases z3 with z | ⟨-, z⟩ | ⟨z, -⟩
        · exact absurd z e0
        · exact z
        · rw [e2] at z; exact absurd z (by decide)
      have hs : Same58 now (upd now (42 + 3 * k) (nI 40)) := fun j hj => by rw [upd_n (by omega)]
      rw [if_pos e2, if_pos e2, k2, gd_t (inb_n (by omega) (by decide)), i42', gd_t (inb_n (by omega) (by decide)), nI_clamp (by omega), nI_clamp (by omega)]
      exact ih (i + 1) q (upd len k (nI 40)) S _ dr0 tr0 rd nm dr sz a w wi s b (by omega) (by omega) (HR_len H k1 (by omega) (by omega)) (by omega) (PN_same hs N) (by rw [upd_n (by omega)]; exact hM) (fun j hj => (hs j hj).trans (h58 j hj))
    rw [if_neg e2, if_neg e2]
    obtain ⟨k, k1, k2⟩ : bnd (po i) P := by
      rcases z3 with z | ⟨z | z, -⟩ | ⟨-, z⟩
      · exact absurd z e0
      · exact absurd z e1
      · exact absurd z e2
      · exact z
    have hs : Same58 now (upd now (7 * k + 2) (nI 0)) := fun j hj => by rw [upd_n (by omega)]
    rw [k2, gd_t (inb_n (by omega) (by decide)), changeS_m (by omega), bd2_s, nI_clamp (by omega)]
    exact ih (i + 1) (upd q.1 k (nI 0), q.2) len S _ dr0 tr0 rd nm dr sz a w wi s b (by omega) (by omega) (HR_place H k1 ⟨0, by omega, rfl⟩) (by omega) (PN_same hs N) (by rw [upd_n (by omega)]; exact hM) (fun j hj => (hs j hj).trans (h58 j hj))
theorem ends_2 {P Lf S : Nat} {kind v rows len : AI} {q : Q5} {now rules sizes lt bg wd : AI} {SUM : AI → Int32} {BR : Int32} {lib : Option Nat} {bs bl bn : AI} {bz bb : Int32} {tP tL td tst : Int32} {tk tv tp tr tl tf ts tdr ttr : AI} {tli : Option Nat} {rd nm dr mi : AI} {sz a w wi s b : Int32} {pc : Nat} {pw po : AI} (x1 : Int32) (H : HR P Lf S kind v rows len q now) (hS : S < 2 ^ 20) (hS2 : S + 10 < 2 ^ 20) (hpc : pc ≤ 10) (N : PN P Lf pc pw po now) (hC : SumC SUM BR FU lib bs bl bn bz bb) (hM : SumM SUM BR FU (now 58) rules sizes lt bg wd) (hc : ∀ tr tr' : AI, (∀ i, i < 6 → tr i = tr' i) → SUM tr = SUM tr') : ∃ r, (∃ T : T14, fX7_ends FU (nI P) kind v q.1 rows (nI Lf) len q.2.1 q.2.2.1 q.2.2.2.1 q.2.2.2.2 lib tP tk tv tp tr tL tl tf ts td tst tli tdr ttr (nI pc) pw po bs bl bn bz bb x1 = some (r, T)) ∧ ∃ mi' J, fX8_ends FU now mi rules sizes rd sz a w wi s b nm lt bg wd dr x1 = some (r, now, mi', (J : J9)) := by
  have hP := H.1.1
  unfold fX7_ends fX8_ends fX1_endOf
  rw [show fX7_isWithin x1 1 = fX7_isWithin x1 (nI 1) from rfl, show fX8_isIn x1 0 1 = fX8_isIn x1 0 (nI 1) from rfl]
  rcases within_or x1 1 (by omega) with ⟨p, p1, rfl, b1, c1⟩ | ⟨b1, c1⟩
  rotate_left
  · rw [b1, c1, bd1_s, bd1_s, i0, i0]; exact ⟨_, ⟨_, rfl⟩, _, _, rfl⟩
  obtain ⟨q', len', S', now', dr', tr', J, g1, g2, g3, g4⟩ := endLoop (x1 := nI p) (pw := pw) (po := po) (mi := mv now mi) hpc hC hc FU 0 (cQ q tp tf ts) (va_cpy len tl 0 0 4) S now tdr ttr rd nm dr sz a w wi s b (by omega) (by unfold FU; omega) (HR_cpy (kind' := tk) (v' := tv) (rows' := tr) (len' := tl) (p := tp) (f := tf) (s := ts) H) (by omega) N hM same58_refl
  have g1' : LX1_endOf_10 FU tk tv tr (nI P) kind v rows (nI Lf) lib (nI pc) pw po bs bl bn bz bb FU 0 (va_cpy q.1 tp 0 0 6) (va_cpy len tl 0 0 4) (va_cpy q.2.1 tf 0 0 4) (va_cpy q.2.2.1 ts 0 0 4) q.2.2.2.1 q.2.2.2.2 tdr ttr = _ := g1
  have g2' : LX8_ends_24 FU rules sizes lt bg wd (nI p) (mv now mi) FU 0 now rd sz a w wi s b nm dr = _ := g2
  obtain ⟨xs, h1, h2, h3⟩ := sum_2 g3
  rw [b1, c1, bd1_s, bd1_s, i1, i1, g1', bd14_s, move_m, bd1_s, g2', h2, h3, bd1_s, bd1_s, move_m, bd1_s, bd1_s, mv_back g4, g3.2.2.2.2.2.1]
  by_cases e : nI p = 0
  · rw [if_pos e, if_pos e]; exact ⟨_, ⟨_, rfl⟩, _, _, rfl⟩
  · rw [if_neg e, if_neg e]; exact ⟨_, ⟨_, rfl⟩, _, _, rfl⟩
/-! ===== the image ===== -/
theorem NR_cpy {P Lf : Nat} {sc pc bc : Int32} {sl ss st pw po bp bl now sl' ss' st' pw' po' bp' bl' : AI} (h : NR P Lf sc sl ss st pc pw po bc bp bl now) : NR P Lf sc (va_cpy sl sl' 0 0 5) (va_cpy ss ss' 0 0 5) (va_cpy st st' 0 0 5) pc (va_cpy pw pw' 0 0 10) (va_cpy po po' 0 0 10) bc (va_cpy bp bp' 0 0 8) (va_cpy bl bl' 0 0 8) now := by
  obtain ⟨⟨a, a1, a2, a3, a4⟩, ⟨b, b1, b2, b3, b4⟩, c, c1, c2, c3, c4⟩ := h
  refine ⟨⟨a, a1, a2, a3, fun i hi => ?_⟩, ⟨b, b1, b2, b3, fun i hi => ?_⟩, c, c1, c2, c3, fun i hi => ?_⟩
  · rw [cpy_at (by omega), cpy_at (by omega), cpy_at (by omega)]; exact a4 i hi
  · rw [cpy_at (by omega), cpy_at (by omega)]; exact b4 i hi
  · rw [cpy_at (by omega), cpy_at (by omega)]; exact c4 i hi
theorem NR_113 {P Lf : Nat} {sc pc bc : Int32} {sl ss st pw po bp bl now now' : AI} (hs : ∀ i, 58 ≤ i → i < 113 → now' i = now i) (h : NR P Lf sc sl ss st pc pw po bc bp bl now) : NR P Lf sc sl ss st pc pw po bc bp bl now' := by
  obtain ⟨⟨a, a1, a2, a3, a4⟩, ⟨b, b1, b2, b3, b4⟩, c, c1, c2, c3, c4⟩ := h
  refine ⟨⟨a, a1, a2, (hs 59 (by omega) (by omega)).trans a3, fun i hi => ?_⟩, ⟨b, b1, b2, (hs 75 (by omega) (by omega)).trans b3, fun i hi => ?_⟩, c, c1, c2, (hs 96 (by omega) (by omega)).trans c3, fun i hi => ?_⟩
  · obtain ⟨z1, z2, z3, z4, z5, z6⟩ := a4 i hi
    exact ⟨z1, z2, z3, (hs _ (by omega) (by omega)).trans z4, (hs _ (by omega) (by omega)).trans z5, (hs _ (by omega) (by omega)).trans z6⟩
  · obtain ⟨z1, z2, z3⟩ := b4 i hi
    exact ⟨(hs _ (by omega) (by omega)).trans z1, (hs _ (by omega) (by omega)).trans z2, z3⟩
  · obtain ⟨z1, z2, z3⟩ := c4 i hi
    exact ⟨z1, (hs _ (by omega) (by omega)).trans z2, (hs _ (by omega) (by omega)).trans z3⟩
def BL (st : AI) : Prop := ∀ i, i < 5 → st i = 0 ∨ st i = 1
theorem BL_cpy {st st' : AI} (h : BL st) : BL (va_cpy st st' 0 0 5) := fun i hi => by rw [cpy_at hi]; exact h i hi
theorem become5 {a1 a5 a8 b1 b5 b8 : Int32} {a2 a3 a4 a6 a7 a9 a10 b2 b3 b4 b6 b7 b9 b10 : AI} (h : BL b4) : fX5_become a1 a2 a3 a4 a5 a6 a7 a8 a9 a10 b1 b2 b3 b4 b5 b6 b7 b8 b9 b10 = some (b1, va_cpy b2 a2 0 0 5, va_cpy b3 a3 0 0 5, va_cpy b4 a4 0 0 5, b5, va_cpy b6 a6 0 0 10, va_cpy b7 a7 0 0 10, b8, va_cpy b9 a9 0 0 8, va_cpy b10 a10 0 0 8) := by
  unfold fX5_become
  exact gd_t ⟨h 0 (by omega), h 1 (by omega), h 2 (by omega), h 3 (by omega), h 4 (by omega)⟩
