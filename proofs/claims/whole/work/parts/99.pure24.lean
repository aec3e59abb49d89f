theorem upd_id {f : AI} {k : Nat} {x : Int32} (h : f k = x) : upd f k x = f := by
  funext i
  unfold upd
  by_cases e : i = k
  · rw [if_pos e, e, h]
  · rw [if_neg e]
theorem lasts_b {P Lf S : Nat} {kind v rows len : AI} {q : Q5} {now rules sizes lt bg wd : AI} {SUM : AI → Int32} {BR : Int32} {lib : Option Nat} {bs bl bn : AI} {bz bb : Int32} {k : Nat} (hk : k < Lf) (H : HR P Lf S kind v rows len q now) (hS : S + 61 < 2 ^ 20) (hC : SumC SUM BR FU lib bs bl bn bz bb) (hM : SumM SUM BR FU (now 58) rules sizes lt bg wd) (hc : ∀ tr tr' : AI, (∀ i, i < 6 → tr i = tr' i) → SUM tr = SUM tr') (hq : ¬ q.2.1 k = -5) (dr0 tr0 mi : AI) (rd nm dr : AI) (sz a w wi s b : Int32) : ∃ r, 1 ≤ r ∧ r ≤ 61 ∧ (∃ p' f' s' d' st' dr' tr', fX1_trialLasts FU (nI P) kind v q.1 rows (nI Lf) len q.2.1 q.2.2.1 q.2.2.2.1 q.2.2.2.2 lib dr0 tr0 bs bl bn bz bb (nI k) = some (nI r, p', f', s', d', st', dr', tr')) ∧ ∃ mi' rd' sz' a' w' wi' s' b' nm' dr', fX8_lasts FU now mi rules sizes rd sz a w wi s b nm lt bg wd dr (nI k) = some (lcode r, now, mi', rd', sz', a', w', wi', s', b', nm', dr') := by
  obtain ⟨r, r1, r2, g1, now', rd1, sz1, a1, w1, wi1, s1, b1, nm1, dr1, g2, g3⟩ := lastsLoop (now0 := now) (mi := mv now mi) hk hC hc FU 0 q S now dr0 tr0 rd nm dr sz a w wi s b H (by omega) hM same58_refl hq (by omega) (by unfold FU; omega)
  have g2' : LX8_lasts_27 FU rules sizes lt bg wd (nI k) (mv now mi) FU (-5) 0 now rd sz a w wi s b nm dr = _ := g2
  refine ⟨r, r1, r2, g1, mv now mi, rd1, sz1, a1, w1, wi1, s1, b1, nm1, dr1, ?_⟩
  unfold fX8_lasts
  rw [isHeldR_m H.1.1 H.2.1.1 H.2.2.2 H.2.2.1.1 hk, bd1_s, if_neg hq, i1, move_m, bd1_s, g2', mv_back g3]
theorem lasts_2 {P Lf S : Nat} {kind v rows len : AI} {q : Q5} {now rules sizes lt bg wd : AI} {SUM : AI → Int32} {BR : Int32} {lib : Option Nat} {bs bl bn : AI} {bz bb : Int32} {tP tL td tst : Int32} {tk tv tp tr tl tf ts tdr ttr : AI} {tli : Option Nat} {rd nm dr mi : AI} {sz a w wi s b : Int32} {k : Nat} (hk : k < Lf) (H : HR P Lf S kind v rows len q now) (hS : S + 61 < 2 ^ 20) (hC : SumC SUM BR FU lib bs bl bn bz bb) (hM : SumM SUM BR FU (now 58) rules sizes lt bg wd) (hc : ∀ tr tr' : AI, (∀ i, i < 6 → tr i = tr' i) → SUM tr = SUM tr') : ∃ r, (∃ T : T14, fX1_lastsOf FU tP tk tv tp tr tL tl tf ts td tst tli tdr ttr (nI P) kind v q.1 rows (nI Lf) len q.2.1 q.2.2.1 q.2.2.2.1 q.2.2.2.2 lib bs bl bn bz bb (nI k) = some (r, T)) ∧ ∃ mi' J, fX8_lasts FU now mi rules sizes rd sz a w wi s b nm lt bg wd dr (nI k) = some (r, now, mi', (J : J9)) := by
  have hL := H.2.1.1
  unfold fX1_lastsOf
  rw [isHeld_c (by omega), bd1_s]
  by_cases e : q.2.1 k = -5
  · rw [if_pos e, i0]
    unfold fX8_lasts
    rw [isHeldR_m H.1.1 hL H.2.2.2 H.2.2.1.1 hk, bd1_s, if_pos e, i0]
    exact ⟨_, ⟨_, rfl⟩, _, _, rfl⟩
  · have hq1 : ¬ (cQ q tp tf ts).2.1 k = -5 := by
      show ¬ va_cpy q.2.1 tf 0 0 4 k = -5
      rw [cpy_at (by omega)]; exact e
    obtain ⟨r, r1, r2, ⟨p', f', s', d', st', dr', tr', g1⟩, mi1, rd1, sz1, a1, w1, wi1, s1, b1, nm1, dr1, g2⟩ := lasts_b hk (HR_cpy (kind' := tk) (v' := tv) (rows' := tr) (len' := tl) (p := tp) (f := tf) (s := ts) H) hS hC hM hc hq1 tdr ttr mi rd nm dr sz a w wi s b
    rw [if_neg e, i1, g1, bd8_s, g2]
    by_cases e2 : r = 61
    · subst e2
      rw [if_pos (show nI 61 = 61 from rfl)]
      exact ⟨_, ⟨_, rfl⟩, _, _, rfl⟩
    · have hl : lcode r = nI r := if_neg e2
      rw [if_neg (show ¬ nI r = 61 from nI_ne (b := 61) (by omega) (by omega) e2), hl]
      exact ⟨_, ⟨_, rfl⟩, _, _, rfl⟩
def lateV (r : Nat) : Int32 := if r = 61 then 1000 else nI r
theorem late_m : ∀ r, r < 62 → fX8_late (lcode r) = some (lateV r) := by decide +kernel
theorem late_cmp : ∀ r, r < 62 → ∀ t, t < 62 → (lateV t ≤ lateV r ↔ t ≤ r) := by decide +kernel
theorem late_max : ∀ r, r < 62 → ∀ t, t < 62 → jmax (lateV t) (lateV r) = lateV (if t ≤ r then r else t) := by decide +kernel
theorem partTail {P Lf S : Nat} {kind v rows len : AI} {q : Q5} {now rules sizes lt bg wd : AI} {SUM : AI → Int32} {BR : Int32} {lib : Option Nat} {bs bl bn : AI} {bz bb : Int32} {k ga gb : Nat} (hk : k < Lf) (ha : ga < P) (H : HR P Lf S kind v rows len q now) (hS : S + 61 < 2 ^ 20) (hC : SumC SUM BR FU lib bs bl bn bz bb) (hM : SumM SUM BR FU (now 58) rules sizes lt bg wd) (hc : ∀ tr tr' : AI, (∀ i, i < 6 → tr i = tr' i) → SUM tr = SUM tr') (h1 : now (43 + 3 * k) = nI ga) (h2 : now (44 + 3 * k) = nI gb) (fo : Int32) : ∀ (n p : Nat) (nowX mi : AI) (rd nm dr : AI) (sz a w wi s b : Int32), p ≤ P → P - p < n → AgH k now nowX → ∃ mi' J, LX8_partner_42 FU rules sizes lt bg wd (nI k) (nI ga) (nI gb) n (lateV 61) fo (nI p) nowX mi rd sz a w wi s b nm dr = some (fo, now, mi', (J : J9)) := by
  have hP := H.1.1
  have hL := H.2.1.1
  intro n
  induction n with
  | zero => intro p nowX mi rd nm dr sz a w wi s b _ h; omega
  | succ n ih =>
    intro p nowX mi rd nm dr sz a w wi s b hj hn hA
    have h54 : nowX 54 = nI P := (hA 54 (by omega) (by omega)).trans H.2.2.2.1
    rw [LX8_partner_42, h54]
    by_cases e : p = P
    · subst e
      rw [if_pos (nI_le (Nat.le_refl _) (by omega)), holds_m (by omega), bd1_s, AgH_upd _ _ hA, AgH_self h1 h2]
      exact ⟨mi, _, rfl⟩
    rw [if_neg (nle_nI (by omega) (by omega)), nI_1]
    by_cases ea : nI p = nI ga
    · rw [if_pos ea]; exact ih (p + 1) nowX mi rd nm dr sz a w wi s b (by omega) (by omega) hA
    rw [if_neg ea]
    by_cases eb : nI p = nI gb
    · rw [if_pos eb]; exact ih (p + 1) nowX mi rd nm dr sz a w wi s b (by omega) (by omega) hA
    rw [if_neg eb, holds_m (by omega), bd1_s, AgH_upd _ _ hA]
    have H1 := HR_give H hk ha (show p < P by omega)
    have hM1 : SumM SUM BR FU (upd (upd now (43 + 3 * k) (nI ga)) (44 + 3 * k) (nI p) 58) rules sizes lt bg wd := by rw [upd_n (by omega), upd_n (by omega)]; exact hM
    obtain ⟨r, r1, r2, -, mi1, rd1, sz1, a1, w1, wi1, s1, b1, nm1, dr1, g2⟩ := lasts_b hk H1 hS hC hM1 hc (by show ¬ upd q.2.1 k (nI ga) k = -5; rw [upd_s]; exact nI_m5 (by omega)) kind kind mi rd nm dr sz a w wi s b
    have hm : jmax (lateV r) (lateV 61) = lateV 61 := by rw [late_max 61 (by omega) r (by omega), if_pos r2]
    rw [g2, bd12_s, late_m r (by omega), bd1_s, if_pos ((late_cmp 61 (by omega) r (by omega)).mpr r2), hm]
    exact ih (p + 1) _ mi1 rd1 nm1 dr1 sz1 a1 w1 wi1 s1 b1 (by omega) (by omega) (fun i i1 i2 => by rw [upd_n i2, upd_n i1])
theorem partLoop {P Lf S : Nat} {kind v rows len : AI} {q : Q5} {now rules sizes lt bg wd : AI} {SUM : AI → Int32} {BR : Int32} {lib : Option Nat} {bs bl bn : AI} {bz bb : Int32} {k ga gb : Nat} (hk : k < Lf) (ha : ga < P) (hb : gb < P) (H : HR P Lf S kind v rows len q now) (hS : S + 61 < 2 ^ 20) (hC : SumC SUM BR FU lib bs bl bn bz bb) (hM : SumM SUM BR FU (now 58) rules sizes lt bg wd) (hc : ∀ tr tr' : AI, (∀ i, i < 6 → tr i = tr' i) → SUM tr = SUM tr') (h1 : now (43 + 3 * k) = nI ga) (h2 : now (44 + 3 * k) = nI gb) (hf : q.2.1 k = nI ga) (hs : q.2.2.1 k = nI gb) : ∀ (n p r : Nat) (fo : Int32) (tP tL td tst : Int32) (tk tv tp tr tl tf ts tdr ttr : AI) (tli : Option Nat) (nowX mi : AI) (rd nm dr : AI) (sz a w wi s b : Int32), p ≤ P → P - p < n → r ≤ 61 → AgH k now nowX → ∃ fo', (∃ T : T14, LX1_partnerOf_32 FU (nI P) kind v q.1 rows (nI Lf) len q.2.1 q.2.2.1 q.2.2.2.1 q.2.2.2.2 lib bs bl bn bz bb (nI k) n (nI r) fo (nI p) tP tk tv tp tr tL tl tf ts td tst tli tdr ttr = some (fo', T)) ∧ ∃ mi' J, LX8_partner_42 FU rules sizes lt bg wd (nI k) (nI ga) (nI gb) n (lateV r) fo (nI p) nowX mi rd sz a w wi s b nm dr = some (fo', now, mi', (J : J9)) := by
  have hP := H.1.1
  have hL := H.2.1.1
  intro n
  induction n with
  | zero => intro p r fo tP tL td tst tk tv tp tr tl tf ts tdr ttr tli nowX mi rd nm dr sz a w wi s b _ h; omega
  | succ n ih =>
    intro p r fo tP tL td tst tk tv tp tr tl tf ts tdr ttr tli nowX mi rd nm dr sz a w wi s b hj hn hr hA
    have h54 : nowX 54 = nI P := (hA 54 (by omega) (by omega)).trans H.2.2.2.1
    by_cases e : p = P
    · subst e
      rw [LX1_partnerOf_32, LX8_partner_42, h54, if_pos (nI_le (Nat.le_refl _) (by omega)), if_pos (nI_le (Nat.le_refl _) (by omega)), holds_m (by omega), bd1_s, AgH_upd _ _ hA, AgH_self h1 h2]
      exact ⟨fo, ⟨_, rfl⟩, mi, _, rfl⟩
    by_cases e61 : r = 61
    · subst e61
      obtain ⟨mi', J, g⟩ := partTail hk ha H hS hC hM hc h1 h2 fo (n + 1) p nowX mi rd nm dr sz a w wi s b hj hn hA
      rw [LX1_partnerOf_32, if_neg (nle_nI (by omega) (by omega)), if_pos (show (61 : Int32) ≤ nI 61 by decide)]
      exact ⟨fo, ⟨_, rfl⟩, mi', J, g⟩
    have h61 : ¬ (61 : Int32) ≤ nI r := nle_nI (a := 61) (by omega) (by omega)
    rw [LX1_partnerOf_32, LX8_partner_42, h54, if_neg (nle_nI (by omega) (by omega)), if_neg (nle_nI (by omega) (by omega)), if_neg h61, isHolder_c (by omega), bd1_s, nI_1, hf, hs]
    by_cases ea : nI p = nI ga
    · rw [if_pos (Or.inl ea.symm), i1, if_pos ea]
      exact ih (p + 1) r fo tP tL td tst tk tv tp tr tl tf ts tdr ttr tli nowX mi rd nm dr sz a w wi s b (by omega) (by omega) hr hA
    by_cases eb : nI p = nI gb
    · rw [if_pos (Or.inr eb.symm), i1, if_neg ea, if_pos eb]
      exact ih (p + 1) r fo tP tL td tst tk tv tp tr tl tf ts tdr ttr tli nowX mi rd nm dr sz a w wi s b (by omega) (by omega) hr hA
    have H0 := HR_give (HR_cpy (kind' := tk) (v' := tv) (rows' := tr) (len' := tl) (p := tp) (f := tf) (s := ts) H) hk ha (show p < P by omega)
    have hc4 : upd (cQ q tp tf ts).2.1 k (nI ga) = va_cpy q.2.1 tf 0 0 4 := upd_id (by show va_cpy q.2.1 tf 0 0 4 k = nI ga; rw [cpy_at (by omega)]; exact hf)
    rw [hc4] at H0
    have hM1 : SumM SUM BR FU (upd (upd now (43 + 3 * k) (nI ga)) (44 + 3 * k) (nI p) 58) rules sizes lt bg wd := by rw [upd_n (by omega), upd_n (by omega)]; exact hM
    obtain ⟨r', r1', r2', ⟨p', f', s', d', st', dr', tr', g1⟩, mi1, rd1, sz1, a1, w1, wi1, s1, b1, nm1, dr1, g2⟩ := lasts_b hk H0 hS hC hM1 hc (by show ¬ va_cpy q.2.1 tf 0 0 4 k = -5; rw [cpy_at (by omega), hf]; exact nI_m5 (by omega)) tdr ttr mi rd nm dr sz a w wi s b
    have hA1 : AgH k now (upd (upd now (43 + 3 * k) (nI ga)) (44 + 3 * k) (nI p)) := fun i i1 i2 => by rw [upd_n i2, upd_n i1]
    rw [if_neg (show ¬ (nI ga = nI p ∨ nI gb = nI p) from fun z => z.elim (fun y => ea y.symm) (fun y => eb y.symm)), i0, if_neg ea, if_neg eb, gd_t (inb_n (by omega) (by decide)), nI_clamp (by omega), g1, bd8_s, holds_m (by omega), bd1_s, AgH_upd _ _ hA, g2, bd12_s, late_m r' (by omega), bd1_s, late_max r (by omega) r' (by omega)]
    have hnext := fun r2 fo2 (h : r2 ≤ 61) => ih (p + 1) r2 fo2 (nI P) (nI Lf) d' st' (va_cpy kind tk 0 0 6) (va_cpy v tv 0 0 6) p' (va_cpy rows tr 0 0 24) (va_cpy len tl 0 0 4) f' s' dr' tr' lib _ mi1 rd1 nm1 dr1 sz1 a1 w1 wi1 s1 b1 (by omega) (by omega) h hA1
    by_cases e3 : r' ≤ r
    · rw [if_pos (nI_le e3 (by omega)), if_pos ((late_cmp r (by omega) r' (by omega)).mpr e3), if_pos e3]
      exact hnext r fo hr
    · rw [if_neg (nle_nI (by omega) (by omega)), if_neg (fun z => e3 ((late_cmp r (by omega) r' (by omega)).mp z)), if_neg e3]
      exact hnext r' (nI p) r2'
theorem partner_2 {P Lf S : Nat} {kind v rows len : AI} {q : Q5} {now rules sizes lt bg wd : AI} {SUM : AI → Int32} {BR : Int32} {lib : Option Nat} {bs bl bn : AI} {bz bb : Int32} {tP tL td tst : Int32} {tk tv tp tr tl tf ts tdr ttr : AI} {tli : Option Nat} {rd nm dr mi : AI} {sz a w wi s b : Int32} {k : Nat} (hk : k < Lf) (H : HR P Lf S kind v rows len q now) (hS : S + 61 < 2 ^ 20) (hC : SumC SUM BR FU lib bs bl bn bz bb) (hM : SumM SUM BR FU (now 58) rules sizes lt bg wd) (hc : ∀ tr tr' : AI, (∀ i, i < 6 → tr i = tr' i) → SUM tr = SUM tr') : ∃ r, (∃ T : T14, fX1_partnerOf FU tP tk tv tp tr tL tl tf ts td tst tli tdr ttr (nI P) kind v q.1 rows (nI Lf) len q.2.1 q.2.2.1 q.2.2.2.1 q.2.2.2.2 lib bs bl bn bz bb (nI k) = some (r, T)) ∧ ∃ mi' J, fX8_partner FU now mi rules sizes rd sz a w wi s b nm lt bg wd dr (nI k) = some (r, now, mi', (J : J9)) := by
  have hP := H.1.1
  have hL := H.2.1.1
  unfold fX1_partnerOf fX8_partner
  rw [isHeld_c (by omega), isHeldR_m H.1.1 hL H.2.2.2 H.2.2.1.1 hk, bd1_s, bd1_s]
  by_cases e : q.2.1 k = -5
  · rw [if_pos e, i0, i0]
    exact ⟨_, ⟨_, rfl⟩, _, _, rfl⟩
  · obtain ⟨ga, gb, ha, hb, hf, hs⟩ := pOk_first H.2.2.1.1 hk e
    have hq1 : ¬ (cQ q tp tf ts).2.1 k = -5 := by
      show ¬ va_cpy q.2.1 tf 0 0 4 k = -5
      rw [cpy_at (by omega)]; exact e
    have h1 : now (43 + 3 * k) = nI ga := by rw [(H.2.2.2.2.2.2.2.2 k hk).2.1, hf, enc_n (by omega)]
    have h2 : now (44 + 3 * k) = nI gb := by rw [(H.2.2.2.2.2.2.2.2 k hk).2.2, hs, enc_n (by omega)]
    obtain ⟨r, r1, r2, ⟨p', f', s', d', st', dr', tr', g1⟩, mi1, rd1, sz1, a1, w1, wi1, s1, b1, nm1, dr1, g2⟩ := lasts_b hk (HR_cpy (kind' := tk) (v' := tv) (rows' := tr) (len' := tl) (p := tp) (f := tf) (s := ts) H) hS hC hM hc hq1 tdr ttr mi rd nm dr sz a w wi s b
    rw [if_neg e, i1, i1, g1, bd8_s, holder1_m (by omega), bd1_s, holder2_m (by omega), bd1_s, g2, bd12_s, late_m r (by omega), bd1_s, h1, h2]
    exact partLoop hk ha hb H hS hC hM hc h1 h2 hf hs FU 0 r (-5) (nI P) (nI Lf) d' st' (va_cpy kind tk 0 0 6) (va_cpy v tv 0 0 6) p' (va_cpy rows tr 0 0 24) (va_cpy len tl 0 0 4) f' s' dr' tr' lib now mi1 rd1 nm1 dr1 sz1 a1 w1 wi1 s1 b1 (by omega) (by unfold FU; omega) r2 (fun _ _ _ => rfl)
