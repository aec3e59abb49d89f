theorem pMove_succ {place d : AI} (j : Nat) : upd (pMove j place d) j (jmax 0 (jmin 99 (place j + d j))) = pMove (j + 1) place d := by
  funext i
  unfold upd pMove
  by_cases e2 : i = j
  · subst e2; rw [if_pos rfl, if_pos (Nat.lt_succ_self i)]
  · rw [if_neg e2]
    by_cases e3 : i < j
    · rw [if_pos e3, if_pos (by omega)]
    · rw [if_neg e3, if_neg (by omega)]
theorem pMove_at {place d : AI} (j : Nat) : pMove j place d j = place j := by unfold pMove; rw [if_neg (Nat.lt_irrefl j)]
theorem pMove_0 {place d : AI} : pMove 0 place d = place := by funext i; unfold pMove; rw [if_neg (by omega)]
/-- the model's loop over the leaves -/
theorem stepDraw_m {P Lf : Nat} {kind v rows len : AI} {BR : Int32} {q : Q5} {rd nm dr : AI} {sz a w wi s b : Int32} (hP : P ≤ 6) (hL : Lf ≤ 4) (ho : pOk P Lf q.2.1 q.2.2.1) : ∀ (n l : Nat) (now : AI), l ≤ Lf → Lf - l < n →
    RM P Lf kind v rows len ((pDraw len BR (q.1, q.2.1, q.2.2.1, q.2.2.2.1) l).1, (pDraw len BR (q.1, q.2.1, q.2.2.1, q.2.2.2.1) l).2.1, (pDraw len BR (q.1, q.2.1, q.2.2.1, q.2.2.2.1) l).2.2.1, (pDraw len BR (q.1, q.2.1, q.2.2.1, q.2.2.2.1) l).2.2.2, q.2.2.2.2) now →
    ∃ now', LX8_step_85 BR rd sz a w wi s b nm dr n (nI l) now = some (now', rd, sz, a, w, wi, s, b, nm, dr) ∧ RM P Lf kind v rows len ((pDraw len BR (q.1, q.2.1, q.2.2.1, q.2.2.2.1) Lf).1, (pDraw len BR (q.1, q.2.1, q.2.2.1, q.2.2.2.1) Lf).2.1, (pDraw len BR (q.1, q.2.1, q.2.2.1, q.2.2.2.1) Lf).2.2.1, (pDraw len BR (q.1, q.2.1, q.2.2.1, q.2.2.2.1) Lf).2.2.2, q.2.2.2.2 + 1) now' ∧ Same58 now now' := by
  intro n
  induction n with
  | zero => intro l now _ h; omega
  | succ n ih =>
    intro l now hl hn h
    rw [LX8_step_85, h.2.1]
    by_cases e : l = Lf
    · subst e
      rw [if_pos (nI_le (Nat.le_refl _) (by omega))]
      have r1 := RM_step (x := now 57 + 1) hP hL h
      refine ⟨_, rfl, ?_, fun i hi => upd_n (by omega)⟩
      have e57 : now 57 = q.2.2.2.2 := h.2.2.2.1
      rw [e57] at r1 ⊢
      exact r1
    · have ho2 := pDraw_ok (len := len) (BR := BR) (q := (q.1, q.2.1, q.2.2.1, q.2.2.2.1)) ho l
      obtain ⟨now1, g1, g2, g3⟩ := draws_m (BR := BR) hP hL h ho2 (show l < Lf by omega)
      obtain ⟨now2, g4, g5, g6⟩ := ih (l + 1) now1 (by omega) (by omega) g2
      refine ⟨now2, ?_, g5, fun i hi => (g6 i hi).trans (g3 i hi)⟩
      rw [if_neg (nle_nI (by omega) (by omega)), g1, bd1_s, nI_1]
      exact g4
/-- the model's loop over the people: all move -/
theorem stepMove_m {P Lf fu : Nat} {kind v rows len : AI} {q : Q5} {BR : Int32} {rd nm dr : AI} {sz a w wi s b : Int32} (hP : P ≤ 6) : ∀ (n j : Nat) (now : AI), j ≤ P → P - j < n → RM P Lf kind v rows len (pMove j q.1 dr, q.2) now →
    ∃ now', LX8_step_37 fu BR rd sz a w wi s b nm dr n (nI j) now = LX8_step_85 BR rd sz a w wi s b nm dr fu 0 now' ∧ RM P Lf kind v rows len (pMove P q.1 dr, q.2) now' ∧ Same58 now now' := by
  intro n
  induction n with
  | zero => intro j now _ h; omega
  | succ n ih =>
    intro j now hj hn h
    rw [LX8_step_37, h.1]
    by_cases e : j = P
    · subst e
      rw [if_pos (nI_le (Nat.le_refl _) (by omega))]
      exact ⟨now, rfl, h, fun _ _ => rfl⟩
    · have hat : now (7 * j + 2) = q.1 j := by rw [(h.2.2.2.2.1 j (by omega)).2.2.1]; exact pMove_at j
      have r1 := RM_place (x := jmax 0 (jmin 99 (q.1 j + dr j))) hP h (show j < P by omega)
      rw [show (upd (pMove j q.1 dr, q.2).1 j (jmax 0 (jmin 99 (q.1 j + dr j)))) = pMove (j + 1) q.1 dr from pMove_succ j] at r1
      obtain ⟨now2, g4, g5, g6⟩ := ih (j + 1) _ (by omega) (by omega) r1
      refine ⟨now2, ?_, g5, fun i hi => by rw [g6 i hi, upd_n (by omega)]⟩
      rw [if_neg (nle_nI (by omega) (by omega)), spot_m (by omega), bd1_s, gd_t (inb_n (by omega) (by decide)), hat, nI_clamp (by omega), changeS_m (by omega), nI_1]
      exact g4
theorem stepDrift_m {P Lf fu S : Nat} {kind v rows len : AI} {q : Q5} {now rules sizes lt bg wd : AI} {BR : Int32} {SUM : AI → Int32} (hP : P ≤ 6) (hL : Lf ≤ 4) (hf : 100 < fu) (h : RM P Lf kind v rows len q now) (ho : pOk P Lf q.2.1 q.2.2.1) (hM : SumM SUM BR fu (now 58) rules sizes lt bg wd) (hc : ∀ tr tr' : AI, (∀ i, i < 6 → tr i = tr' i) → SUM tr = SUM tr') (hS : q.2.2.2.2 = nI S) (hS2 : S < 2 ^ 31) : ∀ (n j : Nat) (rd nm dr : AI) (sz a w wi s b : Int32), j ≤ P → P - j < n → (∀ i, i < j → dr i = pDrift kind v rows SUM Lf q.1 q.2.1 q.2.2.1 q.2.2.2.2 i) →
    ∃ rd' sz' a' w' wi' s' b' nm' dr', (∀ i, i < P → dr' i = pDrift kind v rows SUM Lf q.1 q.2.1 q.2.2.1 q.2.2.2.2 i) ∧ LX8_step_7 fu now rules sizes lt bg wd BR n (nI j) rd sz a w wi s b nm dr = LX8_step_37 fu BR rd' sz' a' w' wi' s' b' nm' dr' fu 0 now := by
  intro n
  induction n with
  | zero => intro j rd nm dr sz a w wi s b _ h; omega
  | succ n ih =>
    intro j rd nm dr sz a w wi s b hj hn hd
    rw [LX8_step_7, h.1]
    by_cases e : j = P
    · subst e
      rw [if_pos (nI_le (Nat.le_refl _) (by omega))]
      exact ⟨_, _, _, _, _, _, _, _, _, hd, rfl⟩
    · obtain ⟨rd1, sz1, a1, w1, wi1, s1, b1, nm1, g1⟩ := drift_m (rd := rd) (nm := nm) (sz := sz) (a := a) (w := w) (wi := wi) (s := s) (b := b) hP hL hf h ho hM hc hS hS2 (show j < P by omega)
      obtain ⟨rd2, sz2, a2, w2, wi2, s2, b2, nm2, dr2, g2, g3⟩ := ih (j + 1) rd1 nm1 (upd dr j (pDrift kind v rows SUM Lf q.1 q.2.1 q.2.2.1 q.2.2.2.2 j)) sz1 a1 w1 wi1 s1 b1 (by omega) (by omega) (fun i hi => by
        by_cases e2 : i = j
        · subst e2; rw [upd_s]
        · rw [upd_n e2]; exact hd i (by omega))
      refine ⟨rd2, sz2, a2, w2, wi2, s2, b2, nm2, dr2, g2, ?_⟩
      rw [if_neg (nle_nI (by omega) (by omega)), g1]
      show gd _ _ = _
      rw [gd_t (inb_n (by omega) (by decide)), nI_clamp (by omega), nI_1]
      exact g3
/-- the model's step -/
theorem step_m {P Lf fu S : Nat} {kind v rows len : AI} {q : Q5} {now rules sizes lt bg wd rd nm dr : AI} {sz a w wi s b : Int32} {BR : Int32} {SUM : AI → Int32} (hP : P ≤ 6) (hL : Lf ≤ 4) (hf : 100 < fu) (h : RM P Lf kind v rows len q now) (ho : pOk P Lf q.2.1 q.2.2.1) (hM : SumM SUM BR fu (now 58) rules sizes lt bg wd) (hc : ∀ tr tr' : AI, (∀ i, i < 6 → tr i = tr' i) → SUM tr = SUM tr') (hS : q.2.2.2.2 = nI S) (hS2 : S < 2 ^ 31) :
    ∃ now' rd' sz' a' w' wi' s' b' nm' dr', fX8_step fu now rules sizes rd sz a w wi s b nm lt bg wd dr = some (now', rd', sz', a', w', wi', s', b', nm', dr') ∧ RM P Lf kind v rows len (stp P Lf kind v rows len SUM BR q) now' ∧ Same58 now now' := by
  obtain ⟨rd1, sz1, a1, w1, wi1, nm1, g1, -⟩ := readFor_m (rd := rd) (sz := sz) (a := a) (w := w) (wi := wi) (s := s) (b := b) (nm := nm) hP hL hf h ho hM (show 0 < 6 by omega)
  obtain ⟨rd2, sz2, a2, w2, wi2, s2, b2, nm2, dr2, g2, g3⟩ := stepDrift_m hP hL hf h ho hM hc hS hS2 fu 0 rd1 nm1 dr sz1 a1 w1 wi1 (SUM nm1) BR (by omega) (by omega) (fun i hi => by omega)
  have h0 : RM P Lf kind v rows len (pMove 0 q.1 dr2, q.2) now := by rw [pMove_0]; exact h
  obtain ⟨now1, g4, g5, g6⟩ := stepMove_m (fu := fu) (BR := BR) (rd := rd2) (nm := nm2) (sz := sz2) (a := a2) (w := w2) (wi := wi2) (s := s2) (b := b2) hP fu 0 now (by omega) (by omega) h0
  rw [pMove_congr g2] at g5
  obtain ⟨now2, g7, g8, g9⟩ := stepDraw_m (BR := BR) (q := (pMove P q.1 (fun p => pDrift kind v rows SUM Lf q.1 q.2.1 q.2.2.1 q.2.2.2.2 p), q.2)) (rd := rd2) (nm := nm2) (dr := dr2) (sz := sz2) (a := a2) (w := w2) (wi := wi2) (s := s2) (b := b2) hP hL ho fu 0 now1 (by omega) (by omega) g5
  refine ⟨now2, rd2, sz2, a2, w2, wi2, s2, b2, nm2, dr2, ?_, g8, fun i hi => (g9 i hi).trans (g6 i hi)⟩
  unfold fX8_step fX8_bearNow
  have g1' : fX8_readFor fu now rules sizes rd sz a w wi s b nm lt bg wd 0 = some (rd1, sz1, a1, w1, wi1, SUM nm1, BR, nm1) := g1
  rw [g1']
  exact g3.trans (g4.trans g7)
/-- the model: n steps -/
theorem steps_m {P Lf fu N : Nat} {kind v rows len : AI} {rules sizes lt bg wd : AI} {BR : Int32} {SUM : AI → Int32} (hP : P ≤ 6) (hL : Lf ≤ 4) (hf : 100 < fu) (hN : N < 2 ^ 30) (hc : ∀ tr tr' : AI, (∀ i, i < 6 → tr i = tr' i) → SUM tr = SUM tr') : ∀ (n j : Nat) (q : Q5) (S : Nat) (now rd nm dr : AI) (sz a w wi s b : Int32), j ≤ N → N - j < n → RM P Lf kind v rows len q now → pOk P Lf q.2.1 q.2.2.1 → SumM SUM BR fu (now 58) rules sizes lt bg wd → q.2.2.2.2 = nI S → S + (N - j) < 2 ^ 31 →
    ∃ now' rd' sz' a' w' wi' s' b' nm' dr', LX8_steps_2 fu rules sizes lt bg wd (nI N) n (nI j) now rd sz a w wi s b nm dr = some (now', rd', sz', a', w', wi', s', b', nm', dr') ∧ RM P Lf kind v rows len (itr (stp P Lf kind v rows len SUM BR) (N - j) q) now' ∧ Same58 now now' := by
  intro n
  induction n with
  | zero => intro j q S now rd nm dr sz a w wi s b _ h; omega
  | succ n ih =>
    intro j q S now rd nm dr sz a w wi s b hj hn h ho hM hS hS2
    rw [LX8_steps_2]
    by_cases e : j = N
    · subst e
      rw [if_pos (nI_le (Nat.le_refl _) (by omega)), Nat.sub_self]
      exact ⟨_, _, _, _, _, _, _, _, _, _, rfl, h, fun _ _ => rfl⟩
    · obtain ⟨now1, rd1, sz1, a1, w1, wi1, s1, b1, nm1, dr1, g1, g2, g3⟩ := step_m (rd := rd) (nm := nm) (dr := dr) (sz := sz) (a := a) (w := w) (wi := wi) (s := s) (b := b) hP hL hf h ho hM hc hS (by omega)
      obtain ⟨now2, rd2, sz2, a2, w2, wi2, s2, b2, nm2, dr2, g4, g5, g6⟩ := ih (j + 1) _ (S + 1) now1 rd1 nm1 dr1 sz1 a1 w1 wi1 s1 b1 (by omega) (by omega) g2 (stp_ok ho) (by rw [g3 58 (by omega)]; exact hM) (by rw [stp_step, hS, nI_1]) (by omega)
      have e2 : N - j = (N - (j + 1)) + 1 := by omega
      refine ⟨now2, rd2, sz2, a2, w2, wi2, s2, b2, nm2, dr2, ?_, by rw [e2, itr]; exact g5, fun i hi => (g6 i hi).trans (g3 i hi)⟩
      rw [if_neg (nle_nI (by omega) (by omega)), g1, nI_1]
      exact g4
