theorem strain_c {place len first second : AI} {drops BR bb : Int32} {lib : Option Nat} {l a b : Nat} (hl : l < 4) (ha : a < 6) (hb : b < 6) (h1 : first l = nI a) (h2 : second l = nI b) (hB : fX2_bear lib bb = some BR) (hg : ¬ pGap place first second len l ≤ 0) : fX2_strain place len first second drops lib bb (nI l) = some (pStrain len BR (place, first, second, drops) l) := by
  have hn : ¬ first l = -5 := by rw [h1]; exact nI_m5 (by omega)
  unfold fX2_strain pStrain
  rw [gapOf_c hl ha hb h1 h2, bd1_s, hB, bd1_s]
  dsimp only
  rw [if_neg hn, if_neg hg]
  by_cases h : pGap place first second len l ≤ BR
  · rw [if_pos h, if_pos h]
    have i1 := inb_p h1 ha (by decide : 6 < 2 ^ 31)
    have i2 := inb_p h2 hb (by decide : 6 < 2 ^ 31)
    have i0 : inb (nI l) 4 := inb_n hl (by decide)
    simp only [gd_t i0]
    simp only [nI_clamp (show l < 2 ^ 31 by omega)]
    simp only [gd_t i1, gd_t i2]
    unfold pTo
    by_cases h3 : place (second l).toNatClampNeg ≤ place (first l).toNatClampNeg
    · rw [if_pos h3, if_pos h3]
    · rw [if_neg h3, if_neg h3]
  · rw [if_neg h, if_neg h]
    unfold fX2_letGo fX2_give
    rw [gd_t (inb_n hl (by decide)), gd_t (inb_n hl (by decide)), nI_clamp (by omega)]
    rfl
theorem goDraw_c {len drifts traits : AI} {step BR bb : Int32} {lib : Option Nat} {Lf : Nat} {q : Q4} (hL : Lf ≤ 4) (ho : pOk 6 Lf q.2.1 q.2.2.1) (hB : fX2_bear lib bb = some BR) : ∀ (n l : Nat), l ≤ Lf → Lf - l < n →
    LX2_goOne_73 (nI Lf) len step lib bb drifts traits n (nI l) (pDraw len BR q l).1 (pDraw len BR q l).2.1 (pDraw len BR q l).2.2.1 (pDraw len BR q l).2.2.2 = some ((pDraw len BR q Lf).1, (pDraw len BR q Lf).2.1, (pDraw len BR q Lf).2.2.1, (pDraw len BR q Lf).2.2.2, step + 1, drifts, traits) := by
  intro n
  induction n with
  | zero => intro l _ h; omega
  | succ n ih =>
    intro l hl h
    rw [LX2_goOne_73]
    by_cases e : l = Lf
    · subst e; rw [if_pos (nI_le (Nat.le_refl _) (by omega))]
    · have hlt : l < Lf := by omega
      have ho2 := pDraw_ok (len := len) (BR := BR) ho l
      have hs : pDraw len BR q (l + 1) = pStrain len BR (pDraw len BR q l) l := rfl
      rw [if_neg (nle_nI (by omega) (by omega)), isTaut_c hlt hL ho2, bd1_s, nI_1]
      by_cases h1 : (pDraw len BR q l).2.1 l = -5
      · rw [if_pos h1, if_pos rfl]
        have e2 : pDraw len BR q (l + 1) = pDraw len BR q l := by rw [hs]; unfold pStrain; rw [if_pos h1]
        have h3 := ih (l + 1) (by omega) (by omega)
        rw [e2] at h3
        exact h3
      · rw [if_neg h1]
        by_cases h2 : pGap (pDraw len BR q l).1 (pDraw len BR q l).2.1 (pDraw len BR q l).2.2.1 len l ≤ 0
        · rw [if_pos h2, if_pos rfl]
          have e2 : pDraw len BR q (l + 1) = pDraw len BR q l := by rw [hs]; unfold pStrain; rw [if_neg h1, if_pos h2]
          have h3 := ih (l + 1) (by omega) (by omega)
          rw [e2] at h3
          exact h3
        · rw [if_neg h2, if_neg (by decide)]
          obtain ⟨a, b, ha, hb, g1, g2⟩ := pOk_first ho2 hlt h1
          rw [strain_c (by omega) ha hb g1 g2 hB h2]
          have h3 := ih (l + 1) (by omega) (by omega)
          rw [hs] at h3
          exact h3
theorem goMove_c {len first second d traits : AI} {place : AI} {drops step BR bb : Int32} {lib : Option Nat} {P Lf fu : Nat} (hP : P ≤ 6) : ∀ (n j : Nat), j ≤ P → P - j < n →
    LX2_goOne_29 fu (nI P) (nI Lf) len first second drops step lib bb d traits n (nI j) (pMove j place d) = LX2_goOne_73 (nI Lf) len step lib bb d traits fu 0 (pMove P place d) first second drops := by
  intro n
  induction n with
  | zero => intro j _ h; omega
  | succ n ih =>
    intro j hj h
    rw [LX2_goOne_29]
    by_cases e : j = P
    · subst e; rw [if_pos (nI_le (Nat.le_refl _) (by omega))]
    · rw [if_neg (nle_nI (by omega) (by omega)), gd_t (inb_n (by omega) (by decide)), gd_t (inb_n (by omega) (by decide)), gd_t (inb_n (by omega) (by decide)), nI_1, nI_clamp (by omega), ← ih (j + 1) (by omega) (by omega)]
      congr 1
      funext i
      unfold upd pMove
      by_cases e2 : i = j
      · subst e2
        rw [if_pos rfl, if_neg (Nat.lt_irrefl i), if_pos (Nat.lt_succ_self i)]
      · rw [if_neg e2]
        by_cases e3 : i < j
        · rw [if_pos e3, if_pos (by omega)]
        · rw [if_neg e3, if_neg (by omega)]
/-- what a library answers, as the class has it -/
def SumC (SUM : AI → Int32) (BR : Int32) (fu : Nat) (lib : Option Nat) (bs bl bn : AI) (bz bb : Int32) : Prop :=
  (∀ tr tr' : AI, (∀ i, i < 6 → tr i = tr' i) → SUM tr = SUM tr') ∧ fX2_bear lib bb = some BR ∧ (lib = none → ∀ tr, SUM tr = 0) ∧ (¬ lib = none → ∀ tr, fX3_sumFor fu bs bl bn bz tr = some (SUM tr))
theorem stepMod {S : Nat} (hS : S < 2 ^ 31) (m : Nat) (hm : 0 < m) (hm2 : m < 2 ^ 31) : nI S - nI S / nI m * nI m = nI (S % m) := pk_rem hS hm hm2
theorem drift_c {kind v place rows first second traits bs bl bn : AI} {step bz bb BR : Int32} {lib : Option Nat} {P Lf S fu p : Nat} {SUM : AI → Int32} (hL : Lf ≤ 4) (hf : 4 < fu) (hp : p < 6) (hS : step = nI S) (hS2 : S < 2 ^ 31) (hC : SumC SUM BR fu lib bs bl bn bz bb) :
    ∃ tr', fX2_driftOf fu kind v place rows (nI Lf) first second step lib traits bs bl bn bz (nI p) = some (pDrift kind v rows SUM Lf place first second step p, tr') := by
  obtain ⟨hc, -, hn, hs⟩ := hC
  have hm : step - step / 4 * 4 = nI (S % 4) := by rw [hS]; exact stepMod hS2 4 (by decide) (by decide)
  have hix : inb (nI p * 4 + (step - step / 4 * 4)) 24 := by rw [hm, show (4 : Int32) = nI 4 from rfl, pk_mul, nI_add]; exact inb_n (by omega) (by decide)
  have hcl : (nI p * 4 + (step - step / 4 * 4)).toNatClampNeg = 4 * p + (step - step / 4 * 4).toNatClampNeg := by rw [hm, show (4 : Int32) = nI 4 from rfl, pk_mul, nI_add, nI_clamp (by omega), nI_clamp (by omega), Nat.mul_comm p 4]
  have hi : inb (nI p) 6 := inb_n hp (by decide)
  have hcp : (nI p).toNatClampNeg = p := nI_clamp (by omega)
  have z2 : (0 : Int32) / 2 = 0 := by decide
  unfold fX2_driftOf
  rw [holds_c hL hf, bd1_s]
  cases lib with
  | none =>
    have hz : ∀ tr, SUM tr = 0 := hn rfl
    refine ⟨traits, ?_⟩
    show (if _ then _ else _) = _
    simp only [gd_t hi, hcp, gd_t hix, hcl]
    unfold fX2_walkerDrift pDrift pWalk
    simp only [hz]
    repeat' split
    all_goals first | rfl | contradiction | (simp only [bd1_s]; done)
  | some b =>
    have hz := hs (by intro e; cases e)
    refine ⟨upd (upd (upd (upd (upd (upd traits 0 (nI p)) 1 (kind p)) 2 (v p)) 3 (place p / 10)) 4 (pCnt first second (nI p) Lf)) 5 (step - step / 10 * 10), ?_⟩
    show (bd1 _ _) = _
    unfold fX2_traitsOf
    simp only [gd_t hi, hcp]
    rw [bd1_s, hz, bd1_s]
    have ht : SUM (upd (upd (upd (upd (upd (upd traits 0 (nI p)) 1 (kind p)) 2 (v p)) 3 (place p / 10)) 4 (pCnt first second (nI p) Lf)) 5 (step - step / 10 * 10)) = SUM (pTr kind v place first second step Lf p) := by
      apply hc
      intro i hi6
      rcases (show i = 0 ∨ i = 1 ∨ i = 2 ∨ i = 3 ∨ i = 4 ∨ i = 5 by omega) with rfl | rfl | rfl | rfl | rfl | rfl <;> rfl
    rw [ht]
    simp only [gd_t hix, hcl]
    unfold fX2_walkerDrift pDrift pWalk
    repeat' split
    all_goals first | rfl | contradiction | (simp only [bd1_s]; done)
theorem goDrift_c {kind v rows len place first second bs bl bn : AI} {drops step bz bb BR : Int32} {lib : Option Nat} {P Lf S fu : Nat} {SUM : AI → Int32} (hP : P ≤ 6) (hL : Lf ≤ 4) (hf : 4 < fu) (hS : step = nI S) (hS2 : S < 2 ^ 31) (hC : SumC SUM BR fu lib bs bl bn bz bb) : ∀ (n j : Nat) (d traits : AI), j ≤ P → P - j < n → (∀ i, i < j → d i = pDrift kind v rows SUM Lf place first second step i) →
    ∃ d' traits', (∀ i, i < P → d' i = pDrift kind v rows SUM Lf place first second step i) ∧ LX2_goOne_2 fu (nI P) kind v place rows (nI Lf) len first second drops step lib bs bl bn bz bb n (nI j) d traits = LX2_goOne_29 fu (nI P) (nI Lf) len first second drops step lib bb d' traits' fu 0 place := by
  intro n
  induction n with
  | zero => intro j d traits _ h; omega
  | succ n ih =>
    intro j d traits hj h hd
    by_cases e : j = P
    · subst e
      exact ⟨d, traits, hd, by rw [LX2_goOne_2, if_pos (nI_le (Nat.le_refl _) (by omega))]⟩
    · obtain ⟨tr', htr⟩ := drift_c (traits := traits) (rows := rows) (P := P) hL hf (show j < 6 by omega) hS hS2 hC
      obtain ⟨d', t', h1, h2⟩ := ih (j + 1) (upd d j (pDrift kind v rows SUM Lf place first second step j)) tr' (by omega) (by omega) (fun i hi => by
        by_cases e2 : i = j
        · subst e2; rw [upd_s]
        · rw [upd_n e2]; exact hd i (by omega))
      refine ⟨d', t', h1, ?_⟩
      rw [LX2_goOne_2, if_neg (nle_nI (by omega) (by omega)), htr]
      show gd _ _ = _
      rw [gd_t (inb_n (by omega) (by decide)), nI_1, nI_clamp (by omega)]
      exact h2
theorem pMove_congr {P : Nat} {place d d' : AI} (h : ∀ i, i < P → d i = d' i) : pMove P place d = pMove P place d' := by
  funext i
  unfold pMove
  by_cases e : i < P
  · rw [if_pos e, if_pos e, h i e]
  · rw [if_neg e, if_neg e]
theorem goOne_c {kind v rows len bs bl bn drifts traits : AI} {bz bb BR : Int32} {lib : Option Nat} {P Lf S fu : Nat} {SUM : AI → Int32} {q : Q5} (hP : P ≤ 6) (hL : Lf ≤ 4) (hf : 6 < fu) (ho : pOk 6 Lf q.2.1 q.2.2.1) (hS : q.2.2.2.2 = nI S) (hS2 : S < 2 ^ 31) (hC : SumC SUM BR fu lib bs bl bn bz bb) :
    ∃ d' t', fX2_goOne fu (nI P) kind v q.1 rows (nI Lf) len q.2.1 q.2.2.1 q.2.2.2.1 q.2.2.2.2 lib drifts traits bs bl bn bz bb = some ((stp P Lf kind v rows len SUM BR q).1, (stp P Lf kind v rows len SUM BR q).2.1, (stp P Lf kind v rows len SUM BR q).2.2.1, (stp P Lf kind v rows len SUM BR q).2.2.2.1, (stp P Lf kind v rows len SUM BR q).2.2.2.2, d', t') := by
  obtain ⟨d', t', h1, h2⟩ := goDrift_c (len := len) (rows := rows) (drops := q.2.2.2.1) (place := q.1) (first := q.2.1) (second := q.2.2.1) hP hL (by omega) hS hS2 hC fu 0 drifts traits (by omega) (by omega) (fun i hi => by omega)
  refine ⟨d', t', ?_⟩
  have h3 := goMove_c (len := len) (first := q.2.1) (second := q.2.2.1) (d := d') (traits := t') (place := q.1) (drops := q.2.2.2.1) (step := q.2.2.2.2) (bb := bb) (lib := lib) (Lf := Lf) (fu := fu) (BR := BR) hP fu 0 (by omega) (by omega)
  have h4 : pMove 0 q.1 d' = q.1 := by funext i; unfold pMove; rw [if_neg (by omega)]
  rw [h4] at h3
  have h5 := goDraw_c (len := len) (drifts := d') (traits := t') (step := q.2.2.2.2) (bb := bb) (lib := lib) (BR := BR) (q := (pMove P q.1 (fun p => pDrift kind v rows SUM Lf q.1 q.2.1 q.2.2.1 q.2.2.2.2 p), q.2.1, q.2.2.1, q.2.2.2.1)) hL ho hC.2.1 fu 0 (by omega) (by omega)
  unfold fX2_goOne
  rw [show (0 : Int32) = nI 0 from rfl] at *
  rw [h2, h3, pMove_congr h1]
  exact h5
