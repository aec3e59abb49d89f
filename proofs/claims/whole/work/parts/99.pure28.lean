/-! ===== spare ===== -/
def keepB (x : Nat) (f : AI) : Nat → AI
  | 0 => f
  | l + 1 => if x / 2 ^ l % 2 = 0 then upd (keepB x f l) l (-5) else keepB x f l
theorem and_bit : ∀ x, x < 16 → ∀ l, l < 4 → ((nI x &&& ((1 : Int32) <<< (nI l &&& 31))) = 0 ↔ x / 2 ^ l % 2 = 0) := by decide +kernel
theorem HR_let {P Lf S k : Nat} {kind v rows len : AI} {q : Q5} {now : AI} (H : HR P Lf S kind v rows len q now) (hk : k < Lf) : HR P Lf S kind v rows len (q.1, upd q.2.1 k (-5), upd q.2.2.1 k (-5), q.2.2.2) (upd (upd now (43 + 3 * k) (-1)) (44 + 3 * k) (-1)) := by
  obtain ⟨hk2, hl, hq, h⟩ := H
  exact ⟨hk2, hl, ⟨pOk_let hq.1 k, hq.2.1, hq.2.2⟩, RM_hold (f := -5) (s := -5) (f' := -1) (s' := -1) hk2.1 hl.1 h hk rfl rfl⟩
theorem letGo_c {f s : AI} {k : Nat} (hk : k < 4) : fX2_letGo f s (nI k) = some (upd f k (-5), upd s k (-5)) := by
  have hb : inb (nI k) 4 := inb_n hk (by decide)
  unfold fX2_letGo fX2_give
  rw [gd_t hb, gd_t hb, bd2_s, nI_clamp (by omega)]
abbrev KST : Type := Int32 → AI → Option (Int32 × AI × AI × J9)
theorem letLoop {P Lf S x : Nat} {kind v rows len : AI} {q : Q5} {now0 : AI} (hx : x < 16) (hL : Lf ≤ 4) : ∀ (n l : Nat) (now : AI), l ≤ Lf → Lf - l < n → HR P Lf S kind v rows len (q.1, keepB x q.2.1 l, keepB x q.2.2.1 l, q.2.2.2) now → Same58 now0 now →
    LX2_letGoAllBut_2 (nI Lf) (nI x) n (nI l) (keepB x q.2.1 l) (keepB x q.2.2.1 l) = some (keepB x q.2.1 Lf, keepB x q.2.2.1 Lf) ∧ ∃ now', (∀ K : KST, LX8_spare_59 K (nI x) n (nI l) now = K (nI Lf) now') ∧ HR P Lf S kind v rows len (q.1, keepB x q.2.1 Lf, keepB x q.2.2.1 Lf, q.2.2.2) now' ∧ Same58 now0 now' := by
  intro n
  induction n with
  | zero => intro l now _ h; omega
  | succ n ih =>
    intro l now hl hn H h58
    by_cases e : l = Lf
    · subst e
      have hle : nI l ≤ nI l := nI_le (Nat.le_refl _) (by omega)
      refine ⟨by rw [LX2_letGoAllBut_2, if_pos hle], now, fun K => ?_, H, h58⟩
      rw [LX8_spare_59, H.2.2.2.2.1, if_pos hle]
    · have hle : ¬ nI Lf ≤ nI l := nle_nI (by omega) (by omega)
      have hs : ∀ f, keepB x f (l + 1) = if x / 2 ^ l % 2 = 0 then upd (keepB x f l) l (-5) else keepB x f l := fun _ => rfl
      by_cases e2 : x / 2 ^ l % 2 = 0
      · have H1 := HR_let H (show l < Lf by omega)
        have h1 := ih (l + 1) (upd (upd now (43 + 3 * l) (-1)) (44 + 3 * l) (-1)) (by omega) (by omega) (by rw [hs, hs, if_pos e2, if_pos e2]; exact H1) (fun i hi => by rw [upd_n (by omega), upd_n (by omega)]; exact h58 i hi)
        rw [hs, hs, if_pos e2, if_pos e2] at h1
        obtain ⟨g1, now', g2, g3, g4⟩ := h1
        refine ⟨?_, now', fun K => ?_, g3, g4⟩
        · rw [LX2_letGoAllBut_2, if_neg hle, if_pos ((and_bit x hx l (by omega)).mpr e2), letGo_c (by omega), bd2_s, nI_1]; exact g1
        · rw [LX8_spare_59, H.2.2.2.2.1, if_neg hle, bit_at x hx l (by omega), e2, if_pos (show nI 0 = 0 from rfl), holds_m (by omega), bd1_s, nI_1]; exact g2 K
      · have h1 := ih (l + 1) now (by omega) (by omega) (by rw [hs, hs, if_neg e2, if_neg e2]; exact H) h58
        rw [hs, hs, if_neg e2, if_neg e2] at h1
        obtain ⟨g1, now', g2, g3, g4⟩ := h1
        refine ⟨?_, now', fun K => ?_, g3, g4⟩
        · rw [LX2_letGoAllBut_2, if_neg hle, if_neg (fun z => e2 ((and_bit x hx l (by omega)).mp z)), nI_1]; exact g1
        · have e3 : x / 2 ^ l % 2 = 1 := by omega
          rw [LX8_spare_59, H.2.2.2.2.1, if_neg hle, bit_at x hx l (by omega), e3, if_neg (by decide), nI_1]; exact g2 K
theorem keep0 (f : AI) : ∀ n l, l < n → keepB 0 f n l = -5
  | n + 1, l, h => by
    have hs : keepB 0 f (n + 1) = upd (keepB 0 f n) n (-5) := by
      show (if 0 / 2 ^ n % 2 = 0 then upd (keepB 0 f n) n (-5) else keepB 0 f n) = _
      rw [if_pos (by rw [Nat.zero_div])]
    rw [hs]
    by_cases e : l = n
    · subst e; rw [upd_s]
    · rw [upd_n e]; exact keep0 f n l (by omega)
theorem draw0 {len : AI} {BR : Int32} {q : Q4} {Lf : Nat} (h : ∀ l, l < Lf → q.2.1 l = -5) : ∀ l, l ≤ Lf → pDraw len BR q l = q
  | 0, _ => rfl
  | l + 1, hl => by
    show pStrain len BR (pDraw len BR q l) l = q
    rw [draw0 h l (by omega)]
    unfold pStrain
    rw [if_pos (h l (by omega))]
theorem itr0 {P Lf : Nat} {kind v rows len : AI} {SUM : AI → Int32} {BR : Int32} : ∀ (n : Nat) (q : Q5), (∀ l, l < Lf → q.2.1 l = -5) → (itr (stp P Lf kind v rows len SUM BR) n q).2.2.2.1 = q.2.2.2.1
  | 0, _, _ => rfl
  | n + 1, q, h => by
    have e : (stp P Lf kind v rows len SUM BR q).2 = (q.2.1, q.2.2.1, q.2.2.2.1, q.2.2.2.2 + 1) := by
      unfold stp
      rw [draw0 (q := (_, q.2.1, q.2.2.1, q.2.2.2.1)) h Lf (Nat.le_refl _)]
    rw [itr, itr0 n _ (by rw [e]; exact h), e]
theorem spare_key {P Lf S : Nat} {kind v rows len : AI} {q : Q5} {now rules sizes lt bg wd : AI} {SUM : AI → Int32} {BR : Int32} {lib : Option Nat} {bs bl bn : AI} {bz bb : Int32} {m x : Nat} (hm : m ≤ 20) (hx : x < 16) (H : HR P Lf S kind v rows len q now) (hS : S < 2 ^ 20) (hC : SumC SUM BR FU lib bs bl bn bz bb) (hM : SumM SUM BR FU (now 58) rules sizes lt bg wd) (hc : ∀ tr tr' : AI, (∀ i, i < 6 → tr i = tr' i) → SUM tr = SUM tr') : ∃ D : Int32, (x = 0 → D = q.2.2.2.1) ∧ (∀ (tP tL td tst : Int32) (tk tv tp tr tl tf ts tdr ttr : AI) (tli : Option Nat), ∃ tP' tk' tv' tp' tr' tL' tl' tf' ts' td' tst' tli' tdr' ttr', fX1_dropsByThese FU tP tk tv tp tr tL tl tf ts td tst tli tdr ttr (nI P) kind v q.1 rows (nI Lf) len q.2.1 q.2.2.1 q.2.2.2.1 q.2.2.2.2 lib bs bl bn bz bb (nI x) (nI m) = some (D, tP', tk', tv', tp', tr', tL', tl', tf', ts', td', tst', tli', tdr', ttr')) ∧ ∀ (rd nm dr : AI) (sz a w wi s b : Int32), ∃ now1 now2 rd' sz' a' w' wi' s' b' nm' dr', (∀ K : KST, LX8_spare_59 K (nI x) FU 0 now = K (nI Lf) now1) ∧ fX8_steps FU now1 rules sizes rd sz a w wi s b nm lt bg wd dr (nI m) = some (now2, rd', sz', a', w', wi', s', b', nm', dr') ∧ now2 56 = D ∧ now1 56 = q.2.2.2.1 ∧ ∀ mi, mv (mv now mi) now2 = now := by
  have hP := H.1.1
  have hL := H.2.1.1
  have key : ∀ (tP tL td tst : Int32) (tk tv tp tr tl tf ts tdr ttr : AI) (tli : Option Nat) (rd nm dr : AI) (sz a w wi s b : Int32), ∃ D : Int32, (x = 0 → D = q.2.2.2.1) ∧ (∃ tP' tk' tv' tp' tr' tL' tl' tf' ts' td' tst' tli' tdr' ttr', fX1_dropsByThese FU tP tk tv tp tr tL tl tf ts td tst tli tdr ttr (nI P) kind v q.1 rows (nI Lf) len q.2.1 q.2.2.1 q.2.2.2.1 q.2.2.2.2 lib bs bl bn bz bb (nI x) (nI m) = some (D, tP', tk', tv', tp', tr', tL', tl', tf', ts', td', tst', tli', tdr', ttr')) ∧ ∃ now1 now2 rd' sz' a' w' wi' s' b' nm' dr', (∀ K : KST, LX8_spare_59 K (nI x) FU 0 now = K (nI Lf) now1) ∧ fX8_steps FU now1 rules sizes rd sz a w wi s b nm lt bg wd dr (nI m) = some (now2, rd', sz', a', w', wi', s', b', nm', dr') ∧ now2 56 = D ∧ now1 56 = q.2.2.2.1 ∧ ∀ mi, mv (mv now mi) now2 = now := by
    intro tP tL td tst tk tv tp tr tl tf ts tdr ttr tli rd nm dr sz a w wi s b
    obtain ⟨g1, now1, g2, g3, g4⟩ := letLoop (S := S) (q := cQ q tp tf ts) hx hL FU 0 now (by omega) (by unfold FU; omega) (HR_cpy (kind' := tk) (v' := tv) (rows' := tr) (len' := tl) (p := tp) (f := tf) (s := ts) H) (same58_refl)
    have g1' : fX2_letGoAllBut FU (nI Lf) (va_cpy q.2.1 tf 0 0 4) (va_cpy q.2.2.1 ts 0 0 4) (nI x) = some (keepB x (va_cpy q.2.1 tf 0 0 4) Lf, keepB x (va_cpy q.2.2.1 ts 0 0 4) Lf) := g1
    obtain ⟨d, t, g5⟩ := goN (drifts := tdr) (traits := ttr) (n := m) g3 hS (by omega) hC
    obtain ⟨now2, rd1, sz1, a1, w1, wi1, s1, b1, nm1, dr1, g6, g7, g8⟩ := stN (rd := rd) (nm := nm) (dr := dr) (sz := sz) (a := a) (w := w) (wi := wi) (s := s) (b := b) (n := m) g3 hS (by omega) (by rw [g4 58 (by omega)]; exact hM) hc
    obtain ⟨Q, hQ⟩ : ∃ Q, itr (stp P Lf (va_cpy kind tk 0 0 6) (va_cpy v tv 0 0 6) (va_cpy rows tr 0 0 24) (va_cpy len tl 0 0 4) SUM BR) m ((cQ q tp tf ts).1, keepB x (cQ q tp tf ts).2.1 Lf, keepB x (cQ q tp tf ts).2.2.1 Lf, (cQ q tp tf ts).2.2.2) = Q := ⟨_, rfl⟩
    rw [hQ] at g5 g7
    refine ⟨Q.2.2.2.1, fun hx0 => ?_, ⟨nI P, va_cpy kind tk 0 0 6, va_cpy v tv 0 0 6, Q.1, va_cpy rows tr 0 0 24, nI Lf, va_cpy len tl 0 0 4, Q.2.1, Q.2.2.1, Q.2.2.2.1, Q.2.2.2.2, lib, d, t, ?_⟩, now1, now2, rd1, sz1, a1, w1, wi1, s1, b1, nm1, dr1, g2, g6, g7.2.2.2.2.2.1, g3.2.2.2.2.2.1, fun mi => mv_back (fun i hi => (g8 i hi).trans (g4 i hi))⟩
    · subst hx0
      rw [← hQ]
      exact itr0 m _ (fun l hl => keep0 _ Lf l hl)
    · unfold fX1_dropsByThese
      rw [g1', bd2_s, g5, bd7_s]
  obtain ⟨D, hD, ⟨tP0, tk0, tv0, tp0, tr0, tL0, tl0, tf0, ts0, td0, tst0, tli0, tdr0, ttr0, c0⟩, n0, n0', rd0, sz0, a0, w0, wi0, s0, b0, nm0, dr0, k0, m0, d0, e0, f0⟩ := key 0 0 0 0 kind kind kind kind kind kind kind kind kind none kind kind kind 0 0 0 0 0 0
  refine ⟨D, hD, fun tP tL td tst tk tv tp tr tl tf ts tdr ttr tli => ?_, fun rd nm dr sz a w wi s b => ?_⟩
  · obtain ⟨D', -, c1, now1, now2, rd1, sz1, a1, w1, wi1, s1, b1, nm1, dr1, k1, m1, d1, e1, f1⟩ := key tP tL td tst tk tv tp tr tl tf ts tdr ttr tli kind kind kind 0 0 0 0 0 0
    obtain ⟨D2, -, ⟨tP2, tk2, tv2, tp2, tr2, tL2, tl2, tf2, ts2, td2, tst2, tli2, tdr2, ttr2, c2⟩, n2, n2', rd2, sz2, a2, w2, wi2, s2, b2, nm2, dr2, k2, m2, d2, e2, f2⟩ := key 0 0 0 0 kind kind kind kind kind kind kind kind kind none kind kind kind 0 0 0 0 0 0
    have e : D = D' := by
      have h1 : some (n0, (0 : Int32)) = some (now1, (0 : Int32)) := by
        have := (k0 (fun i y => some (0, y, y, kind, 0, 0, 0, 0, 0, 0, kind, kind))).symm.trans (k1 (fun i y => some (0, y, y, kind, 0, 0, 0, 0, 0, 0, kind, kind)))
        have := (Prod.mk.inj (Prod.mk.inj (Option.some.inj this)).2).1
        rw [this]
      have h2 : n0 = now1 := (Prod.mk.inj (Option.some.inj h1)).1
      rw [h2] at m0
      have := (Prod.mk.inj (Option.some.inj (m0.symm.trans m1))).1
      rw [← d0, ← d1, this]
    subst e
    exact c1
  · obtain ⟨D', -, ⟨tP1, tk1, tv1, tp1, tr1, tL1, tl1, tf1, ts1, td1, tst1, tli1, tdr1, ttr1, c1⟩, h⟩ := key 0 0 0 0 kind kind kind kind kind kind kind kind kind none rd nm dr sz a w wi s b
    have e : D = D' := (Prod.mk.inj (Option.some.inj (c0.symm.trans c1))).1
    subst e
    exact h
def pcN (x : Nat) : Nat := x % 2 + x / 2 % 2 + x / 4 % 2 + x / 8 % 2
theorem pc_c : ∀ x, x < 16 → fJ6_bitCount_0f7a4 (nI x) = some (nI (pcN x)) := by decide +kernel
theorem pc_m : ∀ x, x < 16 → fX8_many FU (nI x) = some (nI (pcN x)) := by decide +kernel
theorem pc_4 : ∀ x, x < 16 → pcN x ≤ 4 ∧ (x ≠ 0 → 1 ≤ pcN x) := by decide +kernel
theorem sub_c : ∀ x, x < 16 → ∀ h, h < 16 → ((nI x &&& nI h) = nI x ↔ x &&& h = x) := by decide +kernel
theorem sub_m : ∀ x, x < 16 → ∀ h, h < 16 → ((nI x &&& (nI h ^^^ (-1))) = 0 ↔ x &&& h = x) := by decide +kernel
theorem sub_le {x h : Nat} (e : x &&& h = x) : x ≤ h := by
  have := Nat.and_le_right (n := x) (m := h)
  rw [e] at this
  exact this
abbrev KT5 : Type := Int32 → Int32 → AI → AI → AI → AI → Int32 → AI → AI → AI → Int32 → Int32 → Option Nat → AI → AI → Option (Int32 × T14)
theorem spIn {P Lf : Nat} {kind v rows len : AI} {q : Q5} {lib : Option Nat} {bs bl bn : AI} {bz bb : Int32} {m h c : Nat} (D : Nat → Int32) (hh : h < 16) (hc : c ≤ 4) (hD : ∀ x, x < 16 → ∀ (tP tL td tst : Int32) (tk tv tp tr tl tf ts tdr ttr : AI) (tli : Option Nat), ∃ tP' tk' tv' tp' tr' tL' tl' tf' ts' td' tst' tli' tdr' ttr', fX1_dropsByThese FU tP tk tv tp tr tL tl tf ts td tst tli tdr ttr (nI P) kind v q.1 rows (nI Lf) len q.2.1 q.2.2.1 q.2.2.2.1 q.2.2.2.2 lib bs bl bn bz bb (nI x) (nI m) = some (D x, tP', tk', tv', tp', tr', tL', tl', tf', ts', td', tst', tli', tdr', ttr')) : ∀ (n x : Nat) (tP tL td tst : Int32) (tk tv tp tr tl tf ts tdr ttr : AI) (tli : Option Nat), 1 ≤ x → x ≤ h + 1 → h + 1 - x < n → (∀ y, 1 ≤ y → y < x → y &&& h = y → pcN y = c → D y ≤ q.2.2.2.1) →
    (∃ x', 1 ≤ x' ∧ x' ≤ h ∧ x' &&& h = x' ∧ ¬ D x' ≤ q.2.2.2.1 ∧ pcN x' = c ∧ (∀ y, 1 ≤ y → y < x' → y &&& h = y → pcN y = c → D y ≤ q.2.2.2.1) ∧ ∃ T : T14, ∀ K : KT5, LX1_spareOf_17 K FU (nI P) kind v q.1 rows (nI Lf) len q.2.1 q.2.2.1 q.2.2.2.1 q.2.2.2.2 lib bs bl bn bz bb (nI m) (nI h) (nI c) n (nI x) tP tk tv tp tr tL tl tf ts td tst tli tdr ttr = some (nI x', T)) ∨
    ((∀ y, 1 ≤ y → y ≤ h → y &&& h = y → pcN y = c → D y ≤ q.2.2.2.1) ∧ ∃ tP' tk' tv' tp' tr' tL' tl' tf' ts' td' tst' tli' tdr' ttr', ∀ K : KT5, LX1_spareOf_17 K FU (nI P) kind v q.1 rows (nI Lf) len q.2.1 q.2.2.1 q.2.2.2.1 q.2.2.2.2 lib bs bl bn bz bb (nI m) (nI h) (nI c) n (nI x) tP tk tv tp tr tL tl tf ts td tst tli tdr ttr = K (nI (h + 1)) tP' tk' tv' tp' tr' tL' tl' tf' ts' td' tst' tli' tdr' ttr') := by
  intro n
  induction n with
  | zero => intro x tP tL td tst tk tv tp tr tl tf ts tdr ttr tli _ _ h; omega
  | succ n ih =>
    intro x tP tL td tst tk tv tp tr tl tf ts tdr ttr tli hx hx2 hn hy
    by_cases e : x = h + 1
    · subst e
      refine Or.inr ⟨fun y y1 y2 => hy y y1 (by omega), tP, tk, tv, tp, tr, tL, tl, tf, ts, td, tst, tli, tdr, ttr, fun K => ?_⟩
      rw [LX1_spareOf_17, if_pos ((nI_ltI (by omega) (by omega)).mpr (by omega))]
    · have hg : ¬ nI h < nI x := by rw [nI_ltI (by omega) (by omega)]; omega
      by_cases e1 : pcN x = c
      · have hpc : nI (pcN x) = nI c := by rw [e1]
        by_cases e2 : x &&& h = x
        · obtain ⟨tP1, tk1, tv1, tp1, tr1, tL1, tl1, tf1, ts1, td1, tst1, tli1, tdr1, ttr1, g⟩ := hD x (by omega) tP tL td tst tk tv tp tr tl tf ts tdr ttr tli
          by_cases e3 : D x ≤ q.2.2.2.1
          · have hnext := ih (x + 1) tP1 tL1 td1 tst1 tk1 tv1 tp1 tr1 tl1 tf1 ts1 tdr1 ttr1 tli1 (by omega) (by omega) (by omega) (fun y y1 y2 y3 y4 => by
              by_cases e4 : y = x
              · subst e4; exact e3
              · exact hy y y1 (by omega) y3 y4)
            have hun : ∀ K : KT5, LX1_spareOf_17 K FU (nI P) kind v q.1 rows (nI Lf) len q.2.1 q.2.2.1 q.2.2.2.1 q.2.2.2.2 lib bs bl bn bz bb (nI m) (nI h) (nI c) (n + 1) (nI x) tP tk tv tp tr tL tl tf ts td tst tli tdr ttr = LX1_spareOf_17 K FU (nI P) kind v q.1 rows (nI Lf) len q.2.1 q.2.2.1 q.2.2.2.1 q.2.2.2.2 lib bs bl bn bz bb (nI m) (nI h) (nI c) n (nI (x + 1)) tP1 tk1 tv1 tp1 tr1 tL1 tl1 tf1 ts1 td1 tst1 tli1 tdr1 ttr1 := fun K => by
              rw [LX1_spareOf_17, if_neg hg, pc_c x (by omega), bd1_s, if_pos hpc, if_pos ((sub_c x (by omega) h hh).mpr e2), g, bd15_s, if_pos e3, nI_1]
            rcases hnext with ⟨x', a1, a2, a3, a4, a5, a6, T, a7⟩ | ⟨a1, tP2, tk2, tv2, tp2, tr2, tL2, tl2, tf2, ts2, td2, tst2, tli2, tdr2, ttr2, a2⟩
            · exact Or.inl ⟨x', a1, a2, a3, a4, a5, a6, T, fun K => (hun K).trans (a7 K)⟩
            · exact Or.inr ⟨a1, tP2, tk2, tv2, tp2, tr2, tL2, tl2, tf2, ts2, td2, tst2, tli2, tdr2, ttr2, fun K => (hun K).trans (a2 K)⟩
          · refine Or.inl ⟨x, hx, by omega, e2, e3, e1, hy, (tP1, tk1, tv1, tp1, tr1, tL1, tl1, tf1, ts1, td1, tst1, tli1, tdr1, ttr1), fun K => ?_⟩
            rw [LX1_spareOf_17, if_neg hg, pc_c x (by omega), bd1_s, if_pos hpc, if_pos ((sub_c x (by omega) h hh).mpr e2), g, bd15_s, if_neg e3]
        · have hnext := ih (x + 1) tP tL td tst tk tv tp tr tl tf ts tdr ttr tli (by omega) (by omega) (by omega) (fun y y1 y2 y3 y4 => by
            by_cases e4 : y = x
            · subst e4; exact absurd y3 e2
            · exact hy y y1 (by omega) y3 y4)
          have hun : ∀ K : KT5, LX1_spareOf_17 K FU (nI P) kind v q.1 rows (nI Lf) len q.2.1 q.2.2.1 q.2.2.2.1 q.2.2.2.2 lib bs bl bn bz bb (nI m) (nI h) (nI c) (n + 1) (nI x) tP tk tv tp tr tL tl tf ts td tst tli tdr ttr = LX1_spareOf_17 K FU (nI P) kind v q.1 rows (nI Lf) len q.2.1 q.2.2.1 q.2.2.2.1 q.2.2.2.2 lib bs bl bn bz bb (nI m) (nI h) (nI c) n (nI (x + 1)) tP tk tv tp tr tL tl tf ts td tst tli tdr ttr := fun K => by
            rw [LX1_spareOf_17, if_neg hg, pc_c x (by omega), bd1_s, if_pos hpc, if_neg (fun z => e2 ((sub_c x (by omega) h hh).mp z)), nI_1]
          rcases hnext with ⟨x', a1, a2, a3, a4, a5, a6, T, a7⟩ | ⟨a1, tP2, tk2, tv2, tp2, tr2, tL2, tl2, tf2, ts2, td2, tst2, tli2, tdr2, ttr2, a2⟩
          · exact Or.inl ⟨x', a1, a2, a3, a4, a5, a6, T, fun K => (hun K).trans (a7 K)⟩
          · exact Or.inr ⟨a1, tP2, tk2, tv2, tp2, tr2, tL2, tl2, tf2, ts2, td2, tst2, tli2, tdr2, ttr2, fun K => (hun K).trans (a2 K)⟩
      · have hpc : ¬ nI (pcN x) = nI c := nI_ne (by have := (pc_4 x (by omega)).1; omega) (by omega) e1
        have hnext := ih (x + 1) tP tL td tst tk tv tp tr tl tf ts tdr ttr tli (by omega) (by omega) (by omega) (fun y y1 y2 y3 y4 => by
          by_cases e4 : y = x
          · subst e4; exact absurd y4 e1
          · exact hy y y1 (by omega) y3 y4)
        have hun : ∀ K : KT5, LX1_spareOf_17 K FU (nI P) kind v q.1 rows (nI Lf) len q.2.1 q.2.2.1 q.2.2.2.1 q.2.2.2.2 lib bs bl bn bz bb (nI m) (nI h) (nI c) (n + 1) (nI x) tP tk tv tp tr tL tl tf ts td tst tli tdr ttr = LX1_spareOf_17 K FU (nI P) kind v q.1 rows (nI Lf) len q.2.1 q.2.2.1 q.2.2.2.1 q.2.2.2.2 lib bs bl bn bz bb (nI m) (nI h) (nI c) n (nI (x + 1)) tP tk tv tp tr tL tl tf ts td tst tli tdr ttr := fun K => by
          rw [LX1_spareOf_17, if_neg hg, pc_c x (by omega), bd1_s, if_neg hpc, nI_1]
        rcases hnext with ⟨x', a1, a2, a3, a4, a5, a6, T, a7⟩ | ⟨a1, tP2, tk2, tv2, tp2, tr2, tL2, tl2, tf2, ts2, td2, tst2, tli2, tdr2, ttr2, a2⟩
        · exact Or.inl ⟨x', a1, a2, a3, a4, a5, a6, T, fun K => (hun K).trans (a7 K)⟩
        · exact Or.inr ⟨a1, tP2, tk2, tv2, tp2, tr2, tL2, tl2, tf2, ts2, td2, tst2, tli2, tdr2, ttr2, fun K => (hun K).trans (a2 K)⟩
/-- of the sets within h: the least by how many, then by itself, that is more -/
def Bst (D : Nat → Int32) (d : Int32) (h lo hi : Nat) (r : Int32) : Prop := (r = -5 ∧ ∀ y, lo ≤ y → y < hi → y &&& h = y → D y ≤ d) ∨ ∃ z, lo ≤ z ∧ z < hi ∧ z &&& h = z ∧ ¬ D z ≤ d ∧ r = nI z ∧ ∀ y, lo ≤ y → y < hi → y &&& h = y → ¬ D y ≤ d → pcN z < pcN y ∨ (pcN z = pcN y ∧ z ≤ y)
theorem spOut {P Lf : Nat} {kind v rows len : AI} {q : Q5} {lib : Option Nat} {bs bl bn : AI} {bz bb : Int32} {m h : Nat} (D : Nat → Int32) (hh : h < 16) (hD : ∀ x, x < 16 → ∀ (tP tL td tst : Int32) (tk tv tp tr tl tf ts tdr ttr : AI) (tli : Option Nat), ∃ tP' tk' tv' tp' tr' tL' tl' tf' ts' td' tst' tli' tdr' ttr', fX1_dropsByThese FU tP tk tv tp tr tL tl tf ts td tst tli tdr ttr (nI P) kind v q.1 rows (nI Lf) len q.2.1 q.2.2.1 q.2.2.2.1 q.2.2.2.2 lib bs bl bn bz bb (nI x) (nI m) = some (D x, tP', tk', tv', tp', tr', tL', tl', tf', ts', td', tst', tli', tdr', ttr')) : ∀ (n c : Nat) (tP tL td tst : Int32) (tk tv tp tr tl tf ts tdr ttr : AI) (tli : Option Nat), c ≤ 5 → 5 - c < n → (∀ y, 1 ≤ y → y < 16 → y &&& h = y → pcN y < c → D y ≤ q.2.2.2.1) →
    ∃ r, Bst D q.2.2.2.1 h 1 16 r ∧ ∃ T : T14, LX1_spareOf_8 FU (nI P) kind v q.1 rows (nI Lf) len q.2.1 q.2.2.1 q.2.2.2.1 q.2.2.2.2 lib bs bl bn bz bb (nI m) (nI h) n (nI c) tP tk tv tp tr tL tl tf ts td tst tli tdr ttr = some (r, T) := by
  intro n
  induction n with
  | zero => intro c tP tL td tst tk tv tp tr tl tf ts tdr ttr tli _ h; omega
  | succ n ih =>
    intro c tP tL td tst tk tv tp tr tl tf ts tdr ttr tli hc hn hy
    rw [LX1_spareOf_8]
    by_cases e : c = 5
    · subst e
      rw [if_pos (by decide)]
      exact ⟨-5, Or.inl ⟨rfl, fun y y1 y2 y3 => hy y y1 y2 y3 (by have := (pc_4 y y2).1; omega)⟩, _, rfl⟩
    · have hg : ¬ (4 : Int32) < nI c := by rw [show (4 : Int32) = nI 4 from rfl, nI_ltI (by omega) (by omega)]; omega
      rw [if_neg hg, nI_1]
      rcases spIn D hh (show c ≤ 4 by omega) hD FU 1 tP tL td tst tk tv tp tr tl tf ts tdr ttr tli (by omega) (by omega) (by unfold FU; omega) (fun y y1 y2 => by omega) with ⟨x', a1, a2, a3, a4, a5, a6, T, a7⟩ | ⟨a1, tP2, tk2, tv2, tp2, tr2, tL2, tl2, tf2, ts2, td2, tst2, tli2, tdr2, ttr2, a2⟩
      · refine ⟨nI x', Or.inr ⟨x', a1, by omega, a3, a4, rfl, fun y y1 y2 y3 y4 => ?_⟩, T, a7 _⟩
        rcases Nat.lt_or_ge (pcN y) c with k | k
        · exact absurd (hy y y1 y2 y3 k) y4
        · rw [a5]
          by_cases k2 : pcN y = c
          · refine Or.inr ⟨k2.symm, ?_⟩
            rcases Nat.lt_or_ge y x' with k3 | k3
            · exact absurd (a6 y y1 k3 y3 k2) y4
            · exact k3
          · exact Or.inl (by omega)
      · have a2' := fun K : KT5 => a2 K
        have h1 : (1 : Int32) = nI 1 := rfl
        rw [h1, a2']
        exact ih (c + 1) tP2 tL2 td2 tst2 tk2 tv2 tp2 tr2 tl2 tf2 ts2 tdr2 ttr2 tli2 (by omega) (by omega) (fun y y1 y2 y3 y4 => by
          by_cases k : pcN y = c
          · exact a1 y y1 (sub_le y3) y3 k
          · exact hy y y1 y2 y3 (by omega))
theorem spMod {Lf : Nat} {q : Q5} {now rules sizes lt bg wd : AI} {m h : Nat} (D : Nat → Int32) (hh : h < 16) (hD : ∀ x, x < 16 → ∀ (rd nm dr : AI) (sz a w wi s b : Int32), ∃ now1 now2 rd' sz' a' w' wi' s' b' nm' dr', (∀ K : KST, LX8_spare_59 K (nI x) FU 0 now = K (nI Lf) now1) ∧ fX8_steps FU now1 rules sizes rd sz a w wi s b nm lt bg wd dr (nI m) = some (now2, rd', sz', a', w', wi', s', b', nm', dr') ∧ now2 56 = D x ∧ now1 56 = q.2.2.2.1 ∧ ∀ mi, mv (mv now mi) now2 = now) : ∀ (n x : Nat) (be : Int32) (mi : AI) (rd nm dr : AI) (sz a w wi s b : Int32), x ≤ 16 → 16 - x < n → Bst D q.2.2.2.1 h 0 x be →
    ∃ r, Bst D q.2.2.2.1 h 0 16 r ∧ ∃ mi' J, LX8_spare_11 FU rules sizes lt bg wd (nI m) (nI h) n be (nI x) now mi rd sz a w wi s b nm dr = some (r, now, mi', (J : J9)) := by
  intro n
  induction n with
  | zero => intro x be mi rd nm dr sz a w wi s b _ h; omega
  | succ n ih =>
    intro x be mi rd nm dr sz a w wi s b hx hn hB
    rw [LX8_spare_11]
    by_cases e : x = 16
    · subst e
      rw [if_pos (by decide)]
      exact ⟨be, hB, mi, _, rfl⟩
    have hg : ¬ (16 : Int32) ≤ nI x := nle_nI (a := 16) (by omega) (by omega)
    rw [if_neg hg, nI_1]
    by_cases e2 : x &&& h = x
    rotate_left
    · rw [if_neg (fun z => e2 ((sub_m x (by omega) h hh).mp z))]
      refine ih (x + 1) be mi rd nm dr sz a w wi s b (by omega) (by omega) ?_
      rcases hB with ⟨be1, be2⟩ | ⟨z, be1, be2, be3, be4, be5, be6⟩
      · refine Or.inl ⟨be1, fun y y1 y2 y3 => ?_⟩
        by_cases k : y = x
        · subst k; exact absurd y3 e2
        · exact be2 y y1 (by omega) y3
      · refine Or.inr ⟨z, be1, by omega, be3, be4, be5, fun y y1 y2 y3 y4 => ?_⟩
        by_cases k : y = x
        · subst k; exact absurd y3 e2
        · exact be6 y y1 (by omega) y3 y4
    rw [if_pos ((sub_m x (by omega) h hh).mpr e2)]
    obtain ⟨now1, now2, rd1, sz1, a1, w1, wi1, s1, b1, nm1, dr1, k1, k2, k3, k4, k5⟩ := hD x (by omega) rd nm dr sz a w wi s b
    rcases hB with ⟨be1, be2⟩ | ⟨z, be1, be2, be3, be4, be5, be6⟩
    · subst be1
      rw [if_pos rfl, move_m, bd1_s, k1, k2, bd10_s, k3, k4, move_m, bd1_s, bd1_s, k5]
      by_cases e3 : D x ≤ q.2.2.2.1
      · rw [if_pos e3]
        exact ih (x + 1) (-5) _ rd1 nm1 dr1 sz1 a1 w1 wi1 s1 b1 (by omega) (by omega) (Or.inl ⟨rfl, fun y y1 y2 y3 => by
          by_cases k : y = x
          · subst k; exact e3
          · exact be2 y y1 (by omega) y3⟩)
      · rw [if_neg e3]
        exact ih (x + 1) (nI x) _ rd1 nm1 dr1 sz1 a1 w1 wi1 s1 b1 (by omega) (by omega) (Or.inr ⟨x, by omega, by omega, e2, e3, rfl, fun y y1 y2 y3 y4 => by
          by_cases k : y = x
          · subst k; exact Or.inr ⟨rfl, Nat.le_refl _⟩
          · exact absurd (be2 y y1 (by omega) y3) y4⟩)
    · subst be5
      have p1 := pc_4 x (by omega)
      have p2 := pc_4 z (by omega)
      rw [if_neg (nI_m5 (by omega)), pc_m x (by omega), bd1_s, pc_m z (by omega), bd1_s]
      by_cases e4 : pcN z ≤ pcN x
      · rw [if_pos (nI_le e4 (by omega))]
        exact ih (x + 1) (nI z) mi rd nm dr sz a w wi s b (by omega) (by omega) (Or.inr ⟨z, be1, by omega, be3, be4, rfl, fun y y1 y2 y3 y4 => by
          by_cases k : y = x
          · subst k
            rcases Nat.lt_or_ge (pcN z) (pcN y) with k2 | k2
            · exact Or.inl k2
            · exact Or.inr ⟨by omega, by omega⟩
          · exact be6 y y1 (by omega) y3 y4⟩)
      · rw [if_neg (nle_nI (by omega) (by omega)), move_m, bd1_s, k1, k2, bd10_s, k3, k4, move_m, bd1_s, bd1_s, k5]
        by_cases e3 : D x ≤ q.2.2.2.1
        · rw [if_pos e3]
          exact ih (x + 1) (nI z) _ rd1 nm1 dr1 sz1 a1 w1 wi1 s1 b1 (by omega) (by omega) (Or.inr ⟨z, be1, by omega, be3, be4, rfl, fun y y1 y2 y3 y4 => by
            by_cases k : y = x
            · subst k; exact absurd e3 y4
            · exact be6 y y1 (by omega) y3 y4⟩)
        · rw [if_neg e3]
          exact ih (x + 1) (nI x) _ rd1 nm1 dr1 sz1 a1 w1 wi1 s1 b1 (by omega) (by omega) (Or.inr ⟨x, by omega, by omega, e2, e3, rfl, fun y y1 y2 y3 y4 => by
            by_cases k : y = x
            · subst k; exact Or.inr ⟨rfl, Nat.le_refl _⟩
            · have := be6 y y1 (by omega) y3 y4
              exact Or.inl (by omega)⟩)
theorem bst_eq {D : Nat → Int32} {d : Int32} {h : Nat} {r r' : Int32} (h0 : D 0 ≤ d) (h1 : Bst D d h 1 16 r) (h2 : Bst D d h 0 16 r') : r = r' := by
  rcases h1 with ⟨a1, a2⟩ | ⟨z, a1, a2, a3, a4, a5, a6⟩
  · rcases h2 with ⟨b1, b2⟩ | ⟨y, b1, b2, b3, b4, b5, b6⟩
    · rw [a1, b1]
    · have : y ≠ 0 := by
        intro k; subst k; exact b4 h0
      exact absurd (a2 y (by omega) b2 b3) b4
  · rcases h2 with ⟨b1, b2⟩ | ⟨y, b1, b2, b3, b4, b5, b6⟩
    · exact absurd (b2 z (by omega) a2 a3) a4
    · have : y ≠ 0 := by
        intro k; subst k; exact b4 h0
      have e1 := a6 y (by omega) b2 b3 b4
      have e2 := b6 z (by omega) a2 a3 a4
      have e3 : z = y := by omega
      rw [a5, b5, e3]
theorem spare_2 {P Lf S : Nat} {kind v rows len : AI} {q : Q5} {now rules sizes lt bg wd : AI} {SUM : AI → Int32} {BR : Int32} {lib : Option Nat} {bs bl bn : AI} {bz bb : Int32} {tP tL td tst : Int32} {tk tv tp tr tl tf ts tdr ttr : AI} {tli : Option Nat} {rd nm dr mi : AI} {sz a w wi s b : Int32} {m : Nat} (hm : m ≤ 20) (H : HR P Lf S kind v rows len q now) (hS : S < 2 ^ 20) (hC : SumC SUM BR FU lib bs bl bn bz bb) (hM : SumM SUM BR FU (now 58) rules sizes lt bg wd) (hc : ∀ tr tr' : AI, (∀ i, i < 6 → tr i = tr' i) → SUM tr = SUM tr') : ∃ r, (∃ T : T14, fX1_spareOf FU tP tk tv tp tr tL tl tf ts td tst tli tdr ttr (nI P) kind v q.1 rows (nI Lf) len q.2.1 q.2.2.1 q.2.2.2.1 q.2.2.2.2 lib bs bl bn bz bb (nI m) = some (r, T)) ∧ ∃ mi' J, fX8_spare FU now mi rules sizes rd sz a w wi s b nm lt bg wd dr (nI m) = some (r, now, mi', (J : J9)) := by
  have hP := H.1.1
  have hL := H.2.1.1
  have hh : hN q.2.1 Lf < 16 := hN_16 _ hL
  have key : ∀ x, ∃ D : Int32, x < 16 → (x = 0 → D = q.2.2.2.1) ∧ (∀ (tP tL td tst : Int32) (tk tv tp tr tl tf ts tdr ttr : AI) (tli : Option Nat), ∃ tP' tk' tv' tp' tr' tL' tl' tf' ts' td' tst' tli' tdr' ttr', fX1_dropsByThese FU tP tk tv tp tr tL tl tf ts td tst tli tdr ttr (nI P) kind v q.1 rows (nI Lf) len q.2.1 q.2.2.1 q.2.2.2.1 q.2.2.2.2 lib bs bl bn bz bb (nI x) (nI m) = some (D, tP', tk', tv', tp', tr', tL', tl', tf', ts', td', tst', tli', tdr', ttr')) ∧ ∀ (rd nm dr : AI) (sz a w wi s b : Int32), ∃ now1 now2 rd' sz' a' w' wi' s' b' nm' dr', (∀ K : KST, LX8_spare_59 K (nI x) FU 0 now = K (nI Lf) now1) ∧ fX8_steps FU now1 rules sizes rd sz a w wi s b nm lt bg wd dr (nI m) = some (now2, rd', sz', a', w', wi', s', b', nm', dr') ∧ now2 56 = D ∧ now1 56 = q.2.2.2.1 ∧ ∀ mi, mv (mv now mi) now2 = now := fun x => by
    by_cases e : x < 16
    · obtain ⟨D, hD⟩ := spare_key hm e H hS hC hM hc
      exact ⟨D, fun _ => hD⟩
    · exact ⟨0, fun h => absurd h e⟩
  obtain ⟨D, hD⟩ := Classical.skolem.mp key
  obtain ⟨r, r1, T, r2⟩ := spOut (m := m) (lib := lib) (bs := bs) (bl := bl) (bn := bn) (bz := bz) (bb := bb) (q := q) (kind := kind) (v := v) (rows := rows) (len := len) D hh (fun x hx => (hD x hx).2.1) FU 1 tP tL td tst tk tv tp tr tl tf ts tdr ttr tli (by omega) (by unfold FU; omega) (fun y y1 y2 y3 y4 => by
    have := (pc_4 y y2).2 (by omega)
    omega)
  obtain ⟨r', s1, mi', J, s2⟩ := spMod (m := m) (q := q) (now := now) (rules := rules) (sizes := sizes) (lt := lt) (bg := bg) (wd := wd) D hh (fun x hx => (hD x hx).2.2) FU 0 (-5) mi rd nm dr sz a w wi s b (by omega) (by unfold FU; omega) (Or.inl ⟨rfl, fun y _ y2 => by omega⟩)
  have e : r = r' := bst_eq (by rw [(hD 0 (by omega)).1 rfl]; exact Int32.le_refl _) r1 s1
  subst e
  refine ⟨r, ⟨T, ?_⟩, mi', J, ?_⟩
  · unfold fX1_spareOf
    rw [(helds_N H).1, bd1_s]
    exact r2
  · unfold fX8_spare
    rw [(helds_N H).2, bd1_s]
    exact s2
theorem isIn1_or (x : Int32) : (∃ k, 1 ≤ k ∧ k ≤ 20 ∧ x = nI k ∧ ¬ x < 1 ∧ x ≤ 20 ∧ fX8_isIn x 1 20 = some 1) ∨ ((x < 1 ∨ ¬ x < 1 ∧ ¬ x ≤ 20) ∧ fX8_isIn x 1 20 = some 0) := by
  by_cases c : x < 1
  · refine Or.inr ⟨Or.inl c, ?_⟩
    unfold fX8_isIn
    rw [if_pos c]
  · by_cases c2 : x ≤ 20
    · rcases or_in x 21 (by omega) with e | ⟨k, k1, rfl⟩
      · exfalso
        have z0 : (0 : Int32).toInt = 0 := by decide
        have z1 : (1 : Int32).toInt = 1 := by decide
        have z2 : (20 : Int32).toInt = 20 := by decide
        have a1 := mt Int32.lt_iff_toInt_lt.mpr c
        have a2 := Int32.le_iff_toInt_le.mp c2
        rcases e with e | e
        · have := Int32.lt_iff_toInt_lt.mp e; omega
        · have := Int32.le_iff_toInt_le.mp e
          rw [nI_toInt (by omega)] at this
          omega
      · refine Or.inl ⟨k, ?_, by omega, rfl, c, c2, ?_⟩
        · rcases Nat.eq_zero_or_pos k with e | e
          · subst e; exact absurd (show nI 0 < 1 by decide) c
          · exact e
        · unfold fX8_isIn
          rw [if_neg c, if_neg (by rw [show (20 : Int32) = nI 20 from rfl, nI_ltI (by omega) (by omega)]; omega)]
    · refine Or.inr ⟨Or.inr ⟨c, c2⟩, ?_⟩
      unfold fX8_isIn
      rw [if_neg c, if_pos (Int32.not_le.mp c2)]
theorem best_2 {P Lf S : Nat} {kind v rows len : AI} {q : Q5} {now rules sizes lt bg wd : AI} {SUM : AI → Int32} {BR : Int32} {lib : Option Nat} {bs bl bn : AI} {bz bb : Int32} {tP tL td tst : Int32} {tk tv tp tr tl tf ts tdr ttr : AI} {tli : Option Nat} {rd nm dr mi : AI} {sz a w wi s b : Int32} (x1 x2 : Int32) (H : HR P Lf S kind v rows len q now) (hS : S < 2 ^ 20) (hC : SumC SUM BR FU lib bs bl bn bz bb) (hM : SumM SUM BR FU (now 58) rules sizes lt bg wd) (hc : ∀ tr tr' : AI, (∀ i, i < 6 → tr i = tr' i) → SUM tr = SUM tr') : ∃ r, (∃ T : T14, fX7_best FU (nI P) kind v q.1 rows (nI Lf) len q.2.1 q.2.2.1 q.2.2.2.1 q.2.2.2.2 lib tP tk tv tp tr tL tl tf ts td tst tli tdr ttr bs bl bn bz bb x1 x2 = some (r, T)) ∧ ∃ mi' J, fX8_best FU now mi rules sizes rd sz a w wi s b nm lt bg wd dr x1 x2 = some (r, now, mi', (J : J9)) := by
  unfold fX7_best fX8_best
  rw [show fX7_isWithin x2 1 = fX7_isWithin x2 (nI 1) from rfl, show fX8_isIn x2 0 1 = fX8_isIn x2 0 (nI 1) from rfl]
  rcases within_or x2 1 (by omega) with ⟨p, p1, rfl, b2, c2⟩ | ⟨b2, c2⟩
  rotate_left
  · rw [b2, c2, bd1_s, bd1_s, i0, i0]; exact ⟨_, ⟨_, rfl⟩, _, _, rfl⟩
  rw [b2, c2, bd1_s, bd1_s, i1, i1]
  rcases isIn1_or x1 with ⟨m, m1, m2, rfl, d1, d2, d3⟩ | ⟨d1, d2⟩
  rotate_left
  · rw [d2, bd1_s, i0]
    rcases d1 with d1 | ⟨d1, d3⟩
    · rw [if_pos d1]; exact ⟨_, ⟨_, rfl⟩, _, _, rfl⟩
    · rw [if_neg d1, if_neg d3]; exact ⟨_, ⟨_, rfl⟩, _, _, rfl⟩
  rw [d3, bd1_s, i1, if_neg d1, if_pos d2]
  rcases (show p = 0 ∨ p = 1 by omega) with rfl | rfl
  · obtain ⟨r, ⟨⟨y0_, y1_, y2_, y3_, y4_, y5_, y6_, y7_, y8_, y9_, y10_, y11_, y12_, y13_⟩, f0⟩, mi0, ⟨z0_, z1_, z2_, z3_, z4_, z5_, z6_, z7_, z8_⟩, g0⟩ := change_2 (tP := tP) (tL := tL) (td := td) (tst := tst) (tk := tk) (tv := tv) (tp := tp) (tr := tr) (tl := tl) (tf := tf) (ts := ts) (tdr := tdr) (ttr := ttr) (tli := tli) (rd := rd) (nm := nm) (dr := dr) (mi := mi) (sz := sz) (a := a) (w := w) (wi := wi) (s := s) (b := b) m2 H hS hC hM hc
    rw [if_pos (show nI 0 = 0 from rfl), if_pos (show nI 0 = 0 from rfl), f0, bd15_s, g0, bd12_s]
    exact ⟨_, ⟨_, rfl⟩, _, _, rfl⟩
  · obtain ⟨r, ⟨⟨y0_, y1_, y2_, y3_, y4_, y5_, y6_, y7_, y8_, y9_, y10_, y11_, y12_, y13_⟩, f0⟩, mi0, ⟨z0_, z1_, z2_, z3_, z4_, z5_, z6_, z7_, z8_⟩, g0⟩ := spare_2 (tP := tP) (tL := tL) (td := td) (tst := tst) (tk := tk) (tv := tv) (tp := tp) (tr := tr) (tl := tl) (tf := tf) (ts := ts) (tdr := tdr) (ttr := ttr) (tli := tli) (rd := rd) (nm := nm) (dr := dr) (mi := mi) (sz := sz) (a := a) (w := w) (wi := wi) (s := s) (b := b) m2 H hS hC hM hc
    rw [if_neg (show ¬ nI 1 = 0 by decide), if_neg (show ¬ nI 1 = 0 by decide), f0, bd15_s, g0, bd12_s]
    exact ⟨_, ⟨_, rfl⟩, _, _, rfl⟩
