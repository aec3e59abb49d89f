theorem leavesLoop_m {P Lf : Nat} {kind v rows len : AI} {q : Q5} {now : AI} (hP : P ≤ 6) (hL : Lf ≤ 4) (h : RM P Lf kind v rows len q now) (ho : pOk P Lf q.2.1 q.2.2.1) {i : Nat} (hi : i < 6) : ∀ (n l : Nat), l ≤ Lf → Lf - l < n → LX8_leavesOf_4 now (nI i) n (pCnt q.2.1 q.2.2.1 (nI i) l) (nI l) = some (pCnt q.2.1 q.2.2.1 (nI i) Lf) := by
  intro n
  induction n with
  | zero => intro l _ h; omega
  | succ n ih =>
    intro l hl hn
    rw [LX8_leavesOf_4, h.2.1]
    by_cases e : l = Lf
    · subst e; rw [if_pos (nI_le (Nat.le_refl _) (by omega))]
    · have hlt : l < Lf := by omega
      have hs : pCnt q.2.1 q.2.2.1 (nI i) (l + 1) = if q.2.1 l = nI i ∨ q.2.2.1 l = nI i then pCnt q.2.1 q.2.2.1 (nI i) l + 1 else pCnt q.2.1 q.2.2.1 (nI i) l := rfl
      have hz : pCnt q.2.1 q.2.2.1 (nI i) l + 0 = pCnt q.2.1 q.2.2.1 (nI i) l := Int32.add_zero _
      obtain ⟨-, g2, g3⟩ := h.2.2.2.2.2 l hlt
      rw [if_neg (nle_nI (by omega) (by omega)), isHeldR_m hP hL h ho hlt, bd1_s, nI_1, hz]
      rcases ho l hlt with ⟨h1, h2⟩ | ⟨a, b, ha, hb, h1, h2⟩
      · rw [if_pos h1, if_pos rfl]
        rw [if_neg (by rw [h1, h2]; exact fun z => z.elim (fun z => nI_m5 (by omega) z.symm) (fun z => nI_m5 (by omega) z.symm))] at hs
        rw [← hs]
        exact ih (l + 1) (by omega) (by omega)
      · have hn1 : ¬ q.2.1 l = -5 := by rw [h1]; exact nI_m5 (by omega)
        rw [if_neg hn1, if_neg (by decide), holder1_m (by omega), bd1_s, g2, h1, enc_n (by omega)]
        rw [h1] at hs
        by_cases c1 : nI a = nI i
        · rw [if_pos c1]
          rw [if_pos (Or.inl c1)] at hs
          rw [← hs]
          exact ih (l + 1) (by omega) (by omega)
        · rw [if_neg c1, holder2_m (by omega), bd1_s, g3, h2, enc_n (by omega)]
          rw [h2] at hs
          by_cases c2 : nI b = nI i
          · rw [if_pos c2]
            rw [if_pos (Or.inr c2)] at hs
            rw [← hs]
            exact ih (l + 1) (by omega) (by omega)
          · rw [if_neg c2]
            rw [if_neg (fun z => z.elim c1 c2)] at hs
            rw [← hs]
            exact ih (l + 1) (by omega) (by omega)
theorem leaves_m {P Lf fu : Nat} {kind v rows len : AI} {q : Q5} {now : AI} (hP : P ≤ 6) (hL : Lf ≤ 4) (hf : 4 < fu) (h : RM P Lf kind v rows len q now) (ho : pOk P Lf q.2.1 q.2.2.1) {i : Nat} (hi : i < 6) : fX8_leavesOf fu now (nI i) = some (pCnt q.2.1 q.2.2.1 (nI i) Lf) := leavesLoop_m hP hL h ho hi fu 0 (by omega) (by omega)
/-- one leaf draws -/
theorem draws_m {P Lf : Nat} {kind v rows len : AI} {q : Q5} {now : AI} {BR : Int32} (hP : P ≤ 6) (hL : Lf ≤ 4) (h : RM P Lf kind v rows len q now) (ho : pOk P Lf q.2.1 q.2.2.1) {l : Nat} (hl : l < Lf) :
    ∃ now', fX8_draws now (nI l) BR = some now' ∧ RM P Lf kind v rows len ((pStrain len BR (q.1, q.2.1, q.2.2.1, q.2.2.2.1) l).1, (pStrain len BR (q.1, q.2.1, q.2.2.1, q.2.2.2.1) l).2.1, (pStrain len BR (q.1, q.2.1, q.2.2.1, q.2.2.2.1) l).2.2.1, (pStrain len BR (q.1, q.2.1, q.2.2.1, q.2.2.2.1) l).2.2.2, q.2.2.2.2) now' ∧ Same58 now now' := by
  unfold fX8_draws pStrain
  rw [isTaut_m hP hL h ho hl, bd1_s]
  dsimp only
  by_cases c1 : q.2.1 l = -5
  · rw [if_pos c1, if_pos c1, if_pos rfl]
    exact ⟨now, rfl, h, fun _ _ => rfl⟩
  · obtain ⟨a, b, ha, hb, h1, h2⟩ := pOk_first ho hl c1
    obtain ⟨-, g2, g3⟩ := h.2.2.2.2.2 l hl
    rw [h1, enc_n (by omega)] at g2
    rw [h2, enc_n (by omega)] at g3
    rw [if_neg c1, if_neg c1]
    by_cases c2 : pGap q.1 q.2.1 q.2.2.1 len l ≤ 0
    · rw [if_pos c2, if_pos c2, if_pos rfl]
      exact ⟨now, rfl, h, fun _ _ => rfl⟩
    · rw [if_neg c2, if_neg c2, if_neg (by decide), gapOf_m hP hL h hl ha hb h1 h2, bd1_s]
      by_cases c3 : pGap q.1 q.2.1 q.2.2.1 len l ≤ BR
      · rw [if_pos c3, if_pos c3, holder1_m (by omega), bd1_s, holder2_m (by omega), bd1_s, g2, g3, spot_m (by omega), bd1_s, spot_m (by omega), bd1_s, (h.2.2.2.2.1 a ha).2.2.1, (h.2.2.2.2.1 b hb).2.2.1]
        have ea : (nI a).toNatClampNeg = a := nI_clamp (by omega)
        have eb : (nI b).toNatClampNeg = b := nI_clamp (by omega)
        unfold pTo
        rw [h1, h2, ea, eb]
        have key : ∀ t : Int32, ∃ now', (bd2 (fX8_change now (nI a) 2 (q.1 a + t)) (fun r87 mnow_87 => bd1 (fX8_number mnow_87 (nI b) 2) (fun r99 => bd2 (fX8_change mnow_87 (nI b) 2 (r99 - t)) (fun r105 mnow_105 => some mnow_105)))) = some now' ∧ RM P Lf kind v rows len (upd (upd q.1 a (q.1 a + t)) b (upd q.1 a (q.1 a + t) b - t), q.2.1, q.2.2.1, q.2.2.2.1, q.2.2.2.2) now' ∧ Same58 now now' := by
          intro t
          have r1 := RM_place (x := q.1 a + t) hP h ha
          have r2 := RM_place (x := upd q.1 a (q.1 a + t) b - t) hP r1 hb
          refine ⟨_, ?_, r2, fun i hi => by rw [upd_n (by omega), upd_n (by omega)]⟩
          rw [changeS_m (by omega)]
          show bd1 (fX8_number (upd now (7 * a + 2) (q.1 a + t)) (nI b) 2) _ = _
          rw [spot_m (by omega), bd1_s, (r1.2.2.2.2.1 b hb).2.2.1, changeS_m (by omega)]
          rfl
        by_cases c4 : q.1 b ≤ q.1 a
        · rw [if_pos c4, if_pos c4, bd1_s]
          exact key (-1)
        · rw [if_neg c4, if_neg c4, bd1_s]
          exact key 1
      · rw [if_neg c3, if_neg c3, holds_m (by omega), bd1_s]
        have r1 := RM_hold (k := l) (f := -5) (s := -5) (f' := -1) (s' := -1) hP hL h hl rfl rfl
        have r2 := RM_drops (x := q.2.2.2.1 + 1) hP hL r1
        have e56 : upd (upd now (43 + 3 * l) (-1)) (44 + 3 * l) (-1) 56 = q.2.2.2.1 := r1.2.2.1
        rw [e56]
        exact ⟨_, rfl, r2, fun i hi => by rw [upd_n (by omega), upd_n (by omega), upd_n (by omega)]⟩
def SumM (SUM : AI → Int32) (BR : Int32) (fu : Nat) (code : Int32) (rules sizes lt bg wd : AI) : Prop :=
  (code = 0 ∧ (∀ nm, SUM nm = 0) ∧ BR = 6) ∨ ∃ k sz : Nat, k < 6 ∧ sz ≤ 100 ∧ code = nI (k + 1) ∧ sizes k = nI sz ∧ ∀ (rd : AI) (a w wi s b : Int32) (nm : AI), (∀ j, j < sz → rd j = rules (100 * k + j)) → ∃ r a' w' wi', fX8_readAll fu rd (nI sz) a w wi s b nm lt bg wd = some (r, a', w', wi', SUM nm, BR)
theorem readForLoop_m {now rules sizes lt bg wd nm : AI} {fu k sz : Nat} {at_ we wi su be x1 r15 r27 r39 r53 BR : Int32} {SUM : AI → Int32} (hk : k < 6) (hsz : sz ≤ 100) (hc : now 58 = nI (k + 1)) (hs : sizes k = nI sz)
    (hr : ∀ (rd : AI) (a w wi s b : Int32) (nm : AI), (∀ j, j < sz → rd j = rules (100 * k + j)) → ∃ r a' w' wi', fX8_readAll fu rd (nI sz) a w wi s b nm lt bg wd = some (r, a', w', wi', SUM nm, BR)) :
    ∀ (n j : Nat) (rd : AI), j ≤ sz → sz - j < n → (∀ i, i < j → rd i = rules (100 * k + i)) → ∃ rd' a' w' wi', LX8_readFor_117 fu now rules sizes at_ we wi su be nm lt bg wd x1 r15 r27 r39 r53 n (nI j) rd = some (rd', nI sz, a', w', wi', SUM (upd (upd (upd (upd (upd (upd nm 0 x1) 1 r15) 2 r27) 3 (r39 / 10)) 4 r53) 5 (now 57 - now 57 / 10 * 10)), BR, upd (upd (upd (upd (upd (upd nm 0 x1) 1 r15) 2 r27) 3 (r39 / 10)) 4 r53) 5 (now 57 - now 57 / 10 * 10)) := by
  have ek : now 58 - 1 = nI k := by rw [hc]; exact nI_pred k
  have ek2 : (now 58 - 1).toNatClampNeg = k := by rw [ek]; exact nI_clamp (by omega)
  intro n
  induction n with
  | zero => intro j rd _ h; omega
  | succ n ih =>
    intro j rd hj hn hd
    rw [LX8_readFor_117, ek2, hs]
    by_cases e : j = sz
    · subst e
      rw [if_pos (nI_le (Nat.le_refl _) (by omega))]
      obtain ⟨r, a', w', wi', h1⟩ := hr rd at_ we wi su be (upd (upd (upd (upd (upd (upd nm 0 x1) 1 r15) 2 r27) 3 (r39 / 10)) 4 r53) 5 (now 57 - now 57 / 10 * 10)) hd
      rw [h1]
      exact ⟨rd, a', w', wi', rfl⟩
    · have e1 : 100 * (now 58 - 1) + nI j = nI (100 * k + j) := by rw [ek, show (100 : Int32) = nI 100 from rfl, pk_mul, nI_add]
      rw [if_neg (nle_nI (by omega) (by omega)), e1, gd_t (inb_n (by omega) (by decide)), gd_t (inb_n (by omega) (by decide)), nI_1, nI_clamp (by omega), nI_clamp (by omega)]
      exact ih (j + 1) _ (by omega) (by omega) (fun i hi => by
        by_cases e2 : i = j
        · subst e2; rw [upd_s]
        · rw [upd_n e2]; exact hd i (by omega))
theorem readFor_m {P Lf fu : Nat} {kind v rows len : AI} {q : Q5} {now rules sizes lt bg wd rd nm : AI} {sz a w wi s b BR : Int32} {SUM : AI → Int32} (hP : P ≤ 6) (hL : Lf ≤ 4) (hf : 100 < fu) (h : RM P Lf kind v rows len q now) (ho : pOk P Lf q.2.1 q.2.2.1) (hM : SumM SUM BR fu (now 58) rules sizes lt bg wd) {i : Nat} (hi : i < 6) :
    ∃ rd' sz' a' w' wi' nm', fX8_readFor fu now rules sizes rd sz a w wi s b nm lt bg wd (nI i) = some (rd', sz', a', w', wi', SUM nm', BR, nm') ∧ (i < P → ∀ z, z < 6 → nm' z = pTr kind v q.1 q.2.1 q.2.2.1 q.2.2.2.2 Lf i z) := by
  have n0 : fX8_number now (nI i) 0 = some (now (7 * i + 0)) := number_m (k := 0) (by omega)
  have n1 : fX8_number now (nI i) 1 = some (now (7 * i + 1)) := number_m (k := 1) (by omega)
  have n2 : fX8_number now (nI i) 2 = some (now (7 * i + 2)) := number_m (k := 2) (by omega)
  have hnm : i < P → ∀ z, z < 6 → upd (upd (upd (upd (upd (upd nm 0 (nI i)) 1 (now (7 * i + 0))) 2 (now (7 * i + 1))) 3 (now (7 * i + 2) / 10)) 4 (pCnt q.2.1 q.2.2.1 (nI i) Lf)) 5 (now 57 - now 57 / 10 * 10) z = pTr kind v q.1 q.2.1 q.2.2.1 q.2.2.2.2 Lf i z := by
    intro hip z hz
    obtain ⟨a1, a2, a3, -⟩ := h.2.2.2.2.1 i hip
    rw [Nat.add_zero, a1, a2, a3, h.2.2.2.1]
    rcases (show z = 0 ∨ z = 1 ∨ z = 2 ∨ z = 3 ∨ z = 4 ∨ z = 5 by omega) with rfl | rfl | rfl | rfl | rfl | rfl <;> rfl
  unfold fX8_readFor
  rw [n0, bd1_s, n1, bd1_s, n2, bd1_s, leaves_m hP hL (by omega) h ho hi, bd1_s]
  rcases hM with ⟨m1, m2, m3⟩ | ⟨k, s2, k1, k2, k3, k4, k5⟩
  · rw [if_pos m1]
    exact ⟨rd, sz, a, w, wi, _, by rw [m2, m3], hnm⟩
  · have ek : now 58 - 1 = nI k := by rw [k3]; exact nI_pred k
    rw [if_neg (by rw [k3]; exact nI_ne0 (by omega) (by omega)), ek, gd_t (inb_n k1 (by decide))]
    obtain ⟨rd', a', w', wi', h1⟩ := readForLoop_m (now := now) (at_ := a) (we := w) (wi := wi) (su := s) (be := b) (nm := nm) (x1 := nI i) (r15 := now (7 * i + 0)) (r27 := now (7 * i + 1)) (r39 := now (7 * i + 2)) (r53 := pCnt q.2.1 q.2.2.1 (nI i) Lf) k1 k2 k3 k4 k5 fu 0 rd (by omega) (by omega) (fun i hi => by omega)
    exact ⟨rd', nI s2, a', w', wi', _, h1, hnm⟩
theorem drift_m {P Lf fu S : Nat} {kind v rows len : AI} {q : Q5} {now rules sizes lt bg wd rd nm : AI} {sz a w wi s b BR : Int32} {SUM : AI → Int32} (hP : P ≤ 6) (hL : Lf ≤ 4) (hf : 100 < fu) (h : RM P Lf kind v rows len q now) (ho : pOk P Lf q.2.1 q.2.2.1) (hM : SumM SUM BR fu (now 58) rules sizes lt bg wd) (hc : ∀ tr tr' : AI, (∀ i, i < 6 → tr i = tr' i) → SUM tr = SUM tr') (hS : q.2.2.2.2 = nI S) (hS2 : S < 2 ^ 31) {i : Nat} (hi : i < P) :
    ∃ rd' sz' a' w' wi' s' b' nm', fX8_drift fu now rules sizes rd sz a w wi s b nm lt bg wd (nI i) = some (pDrift kind v rows SUM Lf q.1 q.2.1 q.2.2.1 q.2.2.2.2 i, rd', sz', a', w', wi', s', b', nm') := by
  obtain ⟨rd', sz', a', w', wi', nm', h1, h2⟩ := readFor_m (rd := rd) (sz := sz) (a := a) (w := w) (wi := wi) (s := s) (b := b) (nm := nm) hP hL hf h ho hM (show i < 6 by omega)
  refine ⟨rd', sz', a', w', wi', SUM nm', BR, nm', ?_⟩
  obtain ⟨a1, a2, a3, a4⟩ := h.2.2.2.2.1 i hi
  have n0 : fX8_number now (nI i) 0 = some (kind i) := by have z : fX8_number now (nI i) 0 = some (now (7 * i + 0)) := number_m (k := 0) (by omega); rw [z, Nat.add_zero, a1]
  have n1 : fX8_number now (nI i) 1 = some (v i) := by have z : fX8_number now (nI i) 1 = some (now (7 * i + 1)) := number_m (k := 1) (by omega); rw [z, a2]
  have hm : q.2.2.2.2 - q.2.2.2.2 / 4 * 4 = nI (S % 4) := by rw [hS]; exact stepMod hS2 4 (by decide) (by decide)
  have n3 : fX8_number now (nI i) (3 + (q.2.2.2.2 - q.2.2.2.2 / 4 * 4)) = some (rows (4 * i + (q.2.2.2.2 - q.2.2.2.2 / 4 * 4).toNatClampNeg)) := by
    rw [hm, show (3 : Int32) = nI 3 from rfl, nI_add, number_m (by omega), nI_clamp (by omega), ← a4 (S % 4) (by omega), Nat.add_assoc]
  have hsum : SUM nm' = SUM (pTr kind v q.1 q.2.1 q.2.2.1 q.2.2.2.2 Lf i) := hc _ _ (h2 hi)
  unfold fX8_drift
  rw [h1]
  show bd1 (fX8_leavesOf fu now (nI i)) _ = _
  rw [leaves_m hP hL (by omega) h ho (by omega), bd1_s, h.2.2.2.1, n0, n1]
  simp only [bd1_s, n3, hsum, Int32.add_zero, leaves_m hP hL (show 4 < fu by omega) h ho (show i < 6 by omega)]
  unfold pDrift pWalk
  by_cases c1 : pCnt q.2.1 q.2.2.1 (nI i) Lf ≤ 0
  · simp only [if_pos c1]
    by_cases c2 : q.2.2.2.2 - q.2.2.2.2 / 8 * 8 < 4
    · simp only [if_pos c2]
      by_cases k1 : kind i = 1
      · simp only [if_pos k1]
      simp only [if_neg k1]
      by_cases k2 : kind i = 2
      · simp only [if_pos k2]
      simp only [if_neg k2]
      by_cases k3 : kind i = 3
      · simp only [if_pos k3]
      simp only [if_neg k3]
      by_cases k4 : kind i = 4
      · simp only [if_pos k4]
        by_cases c3 : q.2.2.2.2 - q.2.2.2.2 / 2 * 2 = 0
        · simp only [if_pos c3]
        · simp only [if_neg c3]
      simp only [if_neg k4]
      by_cases k5 : kind i = 5
      · simp only [if_pos k5]
      simp only [if_neg k5]
      by_cases k6 : kind i = 6
      · simp only [if_pos k6]
      simp only [if_neg k6]
    · simp only [if_neg c2]
      by_cases k1 : kind i = 1
      · simp only [if_pos k1]
      simp only [if_neg k1]
      by_cases k2 : kind i = 2
      · simp only [if_pos k2]
      simp only [if_neg k2]
      by_cases k3 : kind i = 3
      · simp only [if_pos k3]
      simp only [if_neg k3]
      by_cases k4 : kind i = 4
      · simp only [if_pos k4]
        by_cases c3 : q.2.2.2.2 - q.2.2.2.2 / 2 * 2 = 0
        · simp only [if_pos c3]
        · simp only [if_neg c3]
      simp only [if_neg k4]
      by_cases k5 : kind i = 5
      · simp only [if_pos k5]
      simp only [if_neg k5]
      by_cases k6 : kind i = 6
      · simp only [if_pos k6]
      simp only [if_neg k6]
  · simp only [if_neg c1]
    by_cases c2 : q.2.2.2.2 - q.2.2.2.2 / 8 * 8 < 4
    · simp only [if_pos c2]
      by_cases k1 : kind i = 1
      · simp only [if_pos k1]
      simp only [if_neg k1]
      by_cases k2 : kind i = 2
      · simp only [if_pos k2]
      simp only [if_neg k2]
      by_cases k3 : kind i = 3
      · simp only [if_pos k3]
      simp only [if_neg k3]
      by_cases k4 : kind i = 4
      · simp only [if_pos k4]
        by_cases c3 : q.2.2.2.2 - q.2.2.2.2 / 2 * 2 = 0
        · simp only [if_pos c3]
        · simp only [if_neg c3]
      simp only [if_neg k4]
      by_cases k5 : kind i = 5
      · simp only [if_pos k5]
      simp only [if_neg k5]
      by_cases k6 : kind i = 6
      · simp only [if_pos k6]
      simp only [if_neg k6]
    · simp only [if_neg c2]
      by_cases k1 : kind i = 1
      · simp only [if_pos k1]
      simp only [if_neg k1]
      by_cases k2 : kind i = 2
      · simp only [if_pos k2]
      simp only [if_neg k2]
      by_cases k3 : kind i = 3
      · simp only [if_pos k3]
      simp only [if_neg k3]
      by_cases k4 : kind i = 4
      · simp only [if_pos k4]
        by_cases c3 : q.2.2.2.2 - q.2.2.2.2 / 2 * 2 = 0
        · simp only [if_pos c3]
        · simp only [if_neg c3]
      simp only [if_neg k4]
      by_cases k5 : kind i = 5
      · simp only [if_pos k5]
      simp only [if_neg k5]
      by_cases k6 : kind i = 6
      · simp only [if_pos k6]
      simp only [if_neg k6]
