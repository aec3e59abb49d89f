/-! ===== what is seen ===== -/
def SN (Lf ac : Nat) (sl ss st now : AI) : Prop := now 59 = nI ac ∧ ∀ i, i < ac → bnd (sl i) Lf ∧ bnd (ss i) 13 ∧ bnd (st i) 2 ∧ now (60 + 3 * i) = sl i ∧ now (60 + 3 * i + 1) = ss i ∧ now (60 + 3 * i + 2) = st i
theorem SN_same {Lf ac : Nat} {sl ss st now now' : AI} (hac : ac ≤ 5) (hs : Same58 now now') (h : SN Lf ac sl ss st now) : SN Lf ac sl ss st now' := by
  refine ⟨(hs 59 (by omega)).trans h.1, fun i hi => ?_⟩
  obtain ⟨z1, z2, z3, z4, z5, z6⟩ := h.2 i hi
  exact ⟨z1, z2, z3, (hs _ (by omega)).trans z4, (hs _ (by omega)).trans z5, (hs _ (by omega)).trans z6⟩
theorem i60s (i : Nat) : 60 + 3 * nI i = nI (60 + 3 * i) := by rw [show (3 : Int32) = nI 3 from rfl, show (60 : Int32) = nI 60 from rfl, pk_mul, nI_add]
abbrev K8T : Type := Int32 → Int32 → Option (Int32 × AI × AI × J9)
theorem seenIn {P Lf j : Nat} {ac : Nat} {sl ss st : AI} {K V R L : AI} {q : Q5} {now : AI} (hP : P ≤ 6) (hL : Lf ≤ 4) (h : RM P Lf K V R L q now) (ho : pOk P Lf q.2.1 q.2.2.1) (hac : ac ≤ 5) (hj : j < 13) (N : SN Lf ac sl ss st now) : ∀ (n i : Nat), i ≤ ac → ac - i < n →
    (∀ K8 : K8T, LX8_isAllSeen_27 K8 (nI j) now n 0 (nI i) = K8 0 (nI ac)) ∧ ∃ ok, (ok = 0 ∨ ok = 1) ∧ LX5_isSeenSo_2 (nI ac) sl ss st q.1 L q.2.1 q.2.2.1 (nI j) n (nI i) = some ok ∧ (∀ K8 : K8T, LX8_isAllSeen_27 K8 (nI j) now n 1 (nI i) = K8 ok (nI ac)) ∧ ((∀ t, i ≤ t → t < ac → ¬ ss t = nI j) → ok = 1) := by
  intro n
  induction n with
  | zero => intro i _ h; omega
  | succ n ih =>
    intro i hi hn
    by_cases e : i = ac
    · subst e
      have hle : nI i ≤ nI i := nI_le (Nat.le_refl _) (by omega)
      refine ⟨fun K8 => ?_, 1, Or.inr rfl, ?_, fun K8 => ?_, fun _ => rfl⟩
      · rw [LX8_isAllSeen_27, N.1, if_pos hle]
      · rw [LX5_isSeenSo_2, if_pos hle]
      · rw [LX8_isAllSeen_27, N.1, if_pos hle]
    · have hle : ¬ nI ac ≤ nI i := nle_nI (by omega) (by omega)
      obtain ⟨ih0, ok, k1, k2, k3, k4⟩ := ih (i + 1) (by omega) (by omega)
      have hz : ∀ K8 : K8T, LX8_isAllSeen_27 K8 (nI j) now (n + 1) 0 (nI i) = K8 0 (nI ac) := fun K8 => by
        rw [LX8_isAllSeen_27, N.1, if_neg hle, if_pos rfl, nI_1]; exact ih0 K8
      refine ⟨hz, ?_⟩
      obtain ⟨⟨l, l1, l2⟩, -, ⟨t, t1, t2⟩, z4, z5, z6⟩ := N.2 i (by omega)
      have hb5 : inb (nI i) 5 := inb_n (by omega) (by decide)
      have ea2 : nI (60 + 3 * i) + 2 = nI (60 + 3 * i + 2) := by rw [show (2 : Int32) = nI 2 from rfl, nI_add]
      by_cases e2 : ss i = nI j
      · have hT : (if q.2.1 l = -5 then (0 : Int32) else if pGap q.1 q.2.1 q.2.2.1 L l ≤ 0 then 0 else 1) = 0 ∨ (if q.2.1 l = -5 then (0 : Int32) else if pGap q.1 q.2.1 q.2.2.1 L l ≤ 0 then 0 else 1) = 1 := by
          split
          · exact Or.inl rfl
          · split
            · exact Or.inl rfl
            · exact Or.inr rfl
        obtain ⟨T, hTT⟩ : ∃ T, (if q.2.1 l = -5 then (0 : Int32) else if pGap q.1 q.2.1 q.2.2.1 L l ≤ 0 then 0 else 1) = T := ⟨_, rfl⟩
        rw [hTT] at hT
        have hcl : LX5_isSeenSo_2 (nI ac) sl ss st q.1 L q.2.1 q.2.2.1 (nI j) (n + 1) (nI i) = if T = st i then some ok else some 0 := by
          rw [LX5_isSeenSo_2, if_neg hle]
          simp only [gd_t hb5, nI_clamp (show i < 2 ^ 31 by omega)]
          rw [if_pos e2, l2, isTaut_c l1 hL (pOk_mono hP ho), hTT, bd1_s, nI_1, k2]
        have hmo : ∀ K8 : K8T, LX8_isAllSeen_27 K8 (nI j) now (n + 1) 1 (nI i) = if now (60 + 3 * i + 2) = 1 then (if T = 1 then K8 ok (nI ac) else K8 0 (nI ac)) else if T = 0 then K8 ok (nI ac) else K8 0 (nI ac) := fun K8 => by
          rw [LX8_isAllSeen_27, N.1, if_neg hle, i1, i60s, ea2, nI_1, gd_t (inb_n (by omega) (by decide)), nI_clamp (by omega), z5, if_pos e2, gd_t (inb_n (by omega) (by decide)), nI_clamp (by omega), z4, l2, isTaut_m hP hL h ho l1, hTT, bd1_s, gd_t (inb_n (by omega) (by decide)), nI_clamp (by omega), nI_1, k3, ih0]
        rw [z6, t2] at hmo
        rw [t2] at hcl
        have hne : ∀ b : Int32, (∀ t, i ≤ t → t < ac → ¬ ss t = nI j) → b = 1 := fun b hh => absurd e2 (hh i (Nat.le_refl _) (by omega))
        rcases (show t = 0 ∨ t = 1 by omega) with rfl | rfl
        · rcases hT with rfl | rfl
          · exact ⟨ok, k1, hcl.trans (if_pos rfl), fun K8 => (hmo K8).trans ((if_neg (by decide)).trans (if_pos rfl)), hne ok⟩
          · exact ⟨0, Or.inl rfl, hcl.trans (if_neg (by decide)), fun K8 => (hmo K8).trans ((if_neg (by decide)).trans (if_neg (by decide))), hne 0⟩
        · rcases hT with rfl | rfl
          · exact ⟨0, Or.inl rfl, hcl.trans (if_neg (by decide)), fun K8 => (hmo K8).trans ((if_pos rfl).trans (if_neg (by decide))), hne 0⟩
          · exact ⟨ok, k1, hcl.trans (if_pos rfl), fun K8 => (hmo K8).trans ((if_pos rfl).trans (if_pos rfl)), hne ok⟩
      · refine ⟨ok, k1, ?_, fun K8 => ?_, fun hh => k4 (fun t h1 h2 => hh t (by omega) h2)⟩
        · rw [LX5_isSeenSo_2, if_neg hle]
          simp only [gd_t hb5, nI_clamp (show i < 2 ^ 31 by omega)]
          rw [if_neg e2, nI_1, k2]
        · rw [LX8_isAllSeen_27, N.1, if_neg hle, i1, i60s, nI_1, gd_t (inb_n (by omega) (by decide)), nI_clamp (by omega), z5, if_neg e2, nI_1, k3]
theorem ls_max : ∀ m, m < 14 → ∀ t, t < 13 → jmax (nI m - 1) (nI t) = nI (if t + 1 ≤ m then m else t + 1) - 1 := by decide +kernel
theorem ls_lt : ∀ m, m < 14 → ∀ j, j < 20 → (nI m - 1 < nI j ↔ m ≤ j) := by decide +kernel
theorem lastSeen {ss : AI} {ac : Nat} (hac : ac ≤ 5) (h : ∀ i, i < ac → bnd (ss i) 13) : ∀ (n i m : Nat), i ≤ ac → ac - i < n → m < 14 → (∀ t, t < i → ∃ k, k < m ∧ ss t = nI k) → ∃ m', m' < 14 ∧ LX5_lastSeenStep_4 (nI ac) ss n (nI m - 1) (nI i) = some (nI m' - 1) ∧ ∀ t, t < ac → ∃ k, k < m' ∧ ss t = nI k := by
  intro n
  induction n with
  | zero => intro i m _ h; omega
  | succ n ih =>
    intro i m hi hn hm hk
    rw [LX5_lastSeenStep_4]
    by_cases e : i = ac
    · subst e
      rw [if_pos (nI_le (Nat.le_refl _) (by omega))]
      exact ⟨m, hm, rfl, hk⟩
    · obtain ⟨t, t1, t2⟩ := h i (by omega)
      rw [if_neg (nle_nI (by omega) (by omega)), gd_t (inb_n (by omega) (by decide)), nI_clamp (by omega), t2, ls_max m hm t t1, nI_1]
      refine ih (i + 1) _ (by omega) (by omega) (by split <;> omega) (fun z hz => ?_)
      by_cases e2 : z = i
      · subst e2
        exact ⟨t, by split <;> omega, t2⟩
      · obtain ⟨k, k1, k2⟩ := hk z (by omega)
        exact ⟨k, by split <;> omega, k2⟩
theorem seenTail {P Lf m : Nat} {ac : Nat} {sl ss st : AI} {K V R L rules sizes lt bg wd : AI} {SUM : AI → Int32} {BR : Int32} {now0 mi : AI} (hac : ac ≤ 5) (hm : ∀ t, t < ac → ∃ k, k < m ∧ ss t = nI k) (hc : ∀ tr tr' : AI, (∀ i, i < 6 → tr i = tr' i) → SUM tr = SUM tr') : ∀ (n j : Nat) (q : Q5) (S : Nat) (now : AI) (rd nm dr : AI) (sz a w wi s b : Int32), m ≤ j → j ≤ 13 → 13 - j < n → HR P Lf S K V R L q now → S + (13 - j) < 2 ^ 20 → SN Lf ac sl ss st now → SumM SUM BR FU (now 58) rules sizes lt bg wd → Same58 now0 now →
    ∃ now' J, LX8_isAllSeen_15 FU rules sizes lt bg wd mi n 1 (nI j) now rd sz a w wi s b nm dr = some (1, mv mi now', mi, (J : J9)) ∧ Same58 now0 now' := by
  intro n
  induction n with
  | zero => intro j q S now rd nm dr sz a w wi s b _ _ h; omega
  | succ n ih =>
    intro j q S now rd nm dr sz a w wi s b hmj hj hn H hS N hM h58
    rw [LX8_isAllSeen_15]
    by_cases e : j = 13
    · subst e
      rw [if_pos (by decide), move_m, bd1_s, gd_t (Or.inr rfl)]
      exact ⟨now, _, rfl, h58⟩
    · have hg : ¬ (12 : Int32) < nI j := by rw [show (12 : Int32) = nI 12 from rfl, nI_ltI (by omega) (by omega)]; omega
      obtain ⟨-, ok, -, -, g, g1⟩ := seenIn (j := j) H.1.1 H.2.1.1 H.2.2.2 H.2.2.1.1 hac (by omega) N FU 0 (by omega) (by unfold FU; omega)
      have ek : ok = 1 := g1 (fun t _ h2 e3 => by
        obtain ⟨k, k1, k2⟩ := hm t h2
        exact absurd (nI_inj (by omega) (by omega) (k2.symm.trans e3)) (by omega))
      subst ek
      have g' : ∀ K8 : K8T, LX8_isAllSeen_27 K8 (nI j) now FU 1 0 = K8 1 (nI ac) := g
      obtain ⟨now', rd1, sz1, a1, w1, wi1, s1, b1, nm1, dr1, g2, g3, g4⟩ := st1 (rd := rd) (nm := nm) (dr := dr) (sz := sz) (a := a) (w := w) (wi := wi) (s := s) (b := b) H (by omega) hM hc
      rw [if_neg hg, i1, g', g2, bd10_s, nI_1]
      exact ih (j + 1) _ (S + 1) now' rd1 nm1 dr1 sz1 a1 w1 wi1 s1 b1 (by omega) (by omega) (by omega) g3 (by omega) (SN_same hac g4 N) (by rw [g4 58 (by omega)]; exact hM) (fun i hi => (g4 i hi).trans (h58 i hi))
theorem seenStop {FUx : Nat} {rules sizes lt bg wd mi now x : AI} (rd nm dr : AI) (sz a w wi s b : Int32) (n : Nat) : LX8_isAllSeen_15 FU rules sizes lt bg wd mi (n + 1) 0 (nI FUx) now rd sz a w wi s b nm dr = some (0, mv mi now, mi, rd, sz, a, w, wi, s, b, nm, dr) := by
  rw [LX8_isAllSeen_15, move_m, bd1_s, gd_t (Or.inl rfl), i0]
  split <;> rfl
theorem seenLoop {P Lf m : Nat} {ac : Nat} {sl ss st : AI} {K V R L rules sizes lt bg wd : AI} {SUM : AI → Int32} {BR : Int32} {lib : Option Nat} {bs bl bn : AI} {bz bb : Int32} {now0 mi : AI} (hac : ac ≤ 5) (hm14 : m < 14) (hm : ∀ t, t < ac → ∃ k, k < m ∧ ss t = nI k) (hC : SumC SUM BR FU lib bs bl bn bz bb) (hc : ∀ tr tr' : AI, (∀ i, i < 6 → tr i = tr' i) → SUM tr = SUM tr') : ∀ (n j : Nat) (q : Q5) (S : Nat) (nowp now dr0 tr0 : AI) (rd nm dr : AI) (sz a w wi s b : Int32), 1 ≤ j → j ≤ 13 → 14 - j < n → HR P Lf S K V R L q nowp → HR P Lf (S + 1) K V R L (stp P Lf K V R L SUM BR q) now → S + 1 + (13 - j) < 2 ^ 20 → SN Lf ac sl ss st now → SumM SUM BR FU (now 58) rules sizes lt bg wd → Same58 now0 now →
    ∃ ok, (ok = 0 ∨ ok = 1) ∧ (∃ p' f' s' d' st' dr' tr', LX1_isTrialAsSeen_7 FU (nI P) K V R (nI Lf) L lib (nI ac) sl ss st bs bl bn bz bb (nI m - 1) n (nI j) q.1 q.2.1 q.2.2.1 q.2.2.2.1 q.2.2.2.2 dr0 tr0 = some (ok, p', f', s', d', st', dr', tr')) ∧ ∃ now' J, LX8_isAllSeen_15 FU rules sizes lt bg wd mi n 1 (nI j) now rd sz a w wi s b nm dr = some (ok, mv mi now', mi, (J : J9)) ∧ Same58 now0 now' := by
  intro n
  induction n with
  | zero => intro j q S nowp now dr0 tr0 rd nm dr sz a w wi s b _ _ h; omega
  | succ n ih =>
    intro j q S nowp now dr0 tr0 rd nm dr sz a w wi s b hj1 hj hn H0 H hS N hM h58
    by_cases e : m ≤ j
    · obtain ⟨now', J, g1, g2⟩ := seenTail (mi := mi) hac hm hc (n + 1) j _ (S + 1) now rd nm dr sz a w wi s b e hj (by omega) H (by omega) N hM h58
      refine ⟨1, Or.inr rfl, ⟨q.1, q.2.1, q.2.2.1, q.2.2.2.1, q.2.2.2.2, dr0, tr0, ?_⟩, now', J, g1, g2⟩
      rw [LX1_isTrialAsSeen_7, if_pos ((ls_lt m hm14 j (by omega)).mpr e)]
    · have hg : ¬ (12 : Int32) < nI j := by rw [show (12 : Int32) = nI 12 from rfl, nI_ltI (by omega) (by omega)]; omega
      obtain ⟨d1, t1, f1⟩ := go1 (drifts := dr0) (traits := tr0) H0 (by omega) hC
      obtain ⟨-, ok, hok, c1, g, -⟩ := seenIn (j := j) H.1.1 H.2.1.1 H.2.2.2 H.2.2.1.1 hac (by omega) N FU 0 (by omega) (by unfold FU; omega)
      have g' : ∀ K8 : K8T, LX8_isAllSeen_27 K8 (nI j) now FU 1 0 = K8 ok (nI ac) := g
      have c1' : fX5_isSeenSo FU (nI ac) sl ss st (stp P Lf K V R L SUM BR q).1 L (stp P Lf K V R L SUM BR q).2.1 (stp P Lf K V R L SUM BR q).2.2.1 (nI j) = some ok := c1
      obtain ⟨now', rd1, sz1, a1, w1, wi1, s1, b1, nm1, dr1, g2, g3, g4⟩ := st1 (rd := rd) (nm := nm) (dr := dr) (sz := sz) (a := a) (w := w) (wi := wi) (s := s) (b := b) H (by omega) hM hc
      have h58' : Same58 now0 now' := fun i hi => (g4 i hi).trans (h58 i hi)
      have hj0 : ¬ nI j ≤ 0 := nle_nI (b := 0) (by omega) (by omega)
      rw [LX1_isTrialAsSeen_7, LX8_isAllSeen_15, if_neg (fun z => e ((ls_lt m hm14 j (by omega)).mp z)), if_neg hj0, f1, bd7_s, c1', bd1_s, if_neg hg, i1, g', g2, bd10_s, nI_1]
      rcases hok with rfl | rfl
      · rw [i0]
        obtain ⟨n', rfl⟩ : ∃ n', n = n' + 1 := ⟨n - 1, by omega⟩
        exact ⟨0, Or.inl rfl, ⟨_, _, _, _, _, _, _, rfl⟩, now', _, seenStop (x := now) _ _ _ _ _ _ _ _ _ _, h58'⟩
      · rw [i1]
        exact ih (j + 1) _ (S + 1) now now' d1 t1 rd1 nm1 dr1 sz1 a1 w1 wi1 s1 b1 (by omega) (by omega) (by omega) H g3 (by omega) (SN_same hac g4 N) (by rw [g4 58 (by omega)]; exact hM) h58'
theorem asSeen {P Lf S : Nat} {ac : Nat} {sl ss st : AI} {K V R L : AI} {q : Q5} {now rules sizes lt bg wd : AI} {SUM : AI → Int32} {BR : Int32} {lib : Option Nat} {bs bl bn : AI} {bz bb : Int32} (H : HR P Lf S K V R L q now) (hS : S + 20 < 2 ^ 20) (hac : ac ≤ 5) (N : SN Lf ac sl ss st now) (hC : SumC SUM BR FU lib bs bl bn bz bb) (hM : SumM SUM BR FU (now 58) rules sizes lt bg wd) (hc : ∀ tr tr' : AI, (∀ i, i < 6 → tr i = tr' i) → SUM tr = SUM tr') (dr0 tr0 mi : AI) (rd nm dr : AI) (sz a w wi s b : Int32) :
    ∃ ok, (ok = 0 ∨ ok = 1) ∧ (∃ p' f' s' d' st' dr' tr', fX1_isTrialAsSeen FU (nI P) K V q.1 R (nI Lf) L q.2.1 q.2.2.1 q.2.2.2.1 q.2.2.2.2 lib dr0 tr0 (nI ac) sl ss st bs bl bn bz bb = some (ok, p', f', s', d', st', dr', tr')) ∧ ∃ mi' J, fX8_isAllSeen FU now mi rules sizes rd sz a w wi s b nm lt bg wd dr = some (ok, now, mi', (J : J9)) := by
  obtain ⟨m, m14, g1, hm⟩ := lastSeen hac (fun i hi => (N.2 i hi).2.1) FU 0 0 (by omega) (by unfold FU; omega) (by omega) (fun t ht => by omega)
  have g1' : fX5_lastSeenStep FU (nI ac) ss = some (nI m - 1) := g1
  unfold fX1_isTrialAsSeen fX8_isAllSeen
  rw [g1', bd1_s, move_m, bd1_s]
  by_cases e : m = 0
  · subst e
    obtain ⟨now', J, g2, g3⟩ := seenTail (mi := mv now mi) hac hm hc FU 0 _ S now rd nm dr sz a w wi s b (by omega) (by omega) (by unfold FU; omega) H (by omega) N hM same58_refl
    rw [mv_back g3] at g2
    refine ⟨1, Or.inr rfl, ⟨q.1, q.2.1, q.2.2.1, q.2.2.2.1, q.2.2.2.2, dr0, tr0, ?_⟩, _, J, g2⟩
    show LX1_isTrialAsSeen_7 FU (nI P) K V R (nI Lf) L lib (nI ac) sl ss st bs bl bn bz bb (nI 0 - 1) (999 + 1) 0 q.1 q.2.1 q.2.2.1 q.2.2.2.1 q.2.2.2.2 dr0 tr0 = _
    rw [LX1_isTrialAsSeen_7, if_pos (show nI 0 - 1 < 0 by decide)]
  · obtain ⟨-, ok, hok, c1, g, -⟩ := seenIn (j := 0) H.1.1 H.2.1.1 H.2.2.2 H.2.2.1.1 hac (by omega) N FU 0 (by omega) (by unfold FU; omega)
    have g' : ∀ K8 : K8T, LX8_isAllSeen_27 K8 0 now FU 1 0 = K8 ok (nI ac) := g
    have c1' : fX5_isSeenSo FU (nI ac) sl ss st q.1 L q.2.1 q.2.2.1 0 = some ok := c1
    obtain ⟨now', rd1, sz1, a1, w1, wi1, s1, b1, nm1, dr1, g2, g3, g4⟩ := st1 (rd := rd) (nm := nm) (dr := dr) (sz := sz) (a := a) (w := w) (wi := wi) (s := s) (b := b) H (by omega) hM hc
    show ∃ ok, (ok = 0 ∨ ok = 1) ∧ (∃ p' f' s' d' st' dr' tr', LX1_isTrialAsSeen_7 FU (nI P) K V R (nI Lf) L lib (nI ac) sl ss st bs bl bn bz bb (nI m - 1) (999 + 1) 0 q.1 q.2.1 q.2.2.1 q.2.2.2.1 q.2.2.2.2 dr0 tr0 = some (ok, p', f', s', d', st', dr', tr')) ∧ ∃ mi' J, LX8_isAllSeen_15 FU rules sizes lt bg wd (mv now mi) (999 + 1) 1 0 now rd sz a w wi s b nm dr = some (ok, now, mi', (J : J9))
    have hg0 : ¬ nI m - 1 < 0 := fun z => by have := (ls_lt m m14 0 (by omega)).mp z; omega
    rw [LX1_isTrialAsSeen_7, LX8_isAllSeen_15, if_neg hg0, if_pos (show (0 : Int32) ≤ 0 by decide), c1', bd1_s, if_neg (show ¬ (12 : Int32) < 0 by decide), i1, g', g2, bd10_s]
    rcases hok with rfl | rfl
    · rw [i0]
      refine ⟨0, Or.inl rfl, ⟨_, _, _, _, _, _, _, rfl⟩, mv now mi, (rd1, sz1, a1, w1, wi1, s1, b1, nm1, dr1), ?_⟩
      have := seenStop (FUx := 1) (rules := rules) (sizes := sizes) (lt := lt) (bg := bg) (wd := wd) (mi := mv now mi) (now := now') (x := now) rd1 nm1 dr1 sz1 a1 w1 wi1 s1 b1 998
      rw [mv_back g4] at this
      exact this
    · rw [i1]
      obtain ⟨ok, hok, g5, now2, J, g6, g7⟩ := seenLoop (mi := mv now mi) (now0 := now) hac m14 hm hC hc 999 1 q S now now' dr0 tr0 rd1 nm1 dr1 sz1 a1 w1 wi1 s1 b1 (by omega) (by omega) (by omega) H g3 (by omega) (SN_same hac g4 N) (by rw [g4 58 (by omega)]; exact hM) g4
      rw [mv_back g7] at g6
      exact ⟨ok, hok, g5, _, J, g6⟩
