/-! ===== bits, fractions, mean, meets, odds ===== -/
def hN (f : AI) : Nat → Nat
  | 0 => 0
  | l + 1 => hN f l + (if f l = -5 then 0 else 2 ^ l)
theorem hN_lt (f : AI) : ∀ l, hN f l < 2 ^ l
  | 0 => by show 0 < 1; omega
  | l + 1 => by
    have := hN_lt f l
    show hN f l + (if f l = -5 then 0 else 2 ^ l) < 2 ^ (l + 1)
    rw [Nat.pow_succ]
    split <;> omega
theorem or_bit : ∀ l, l < 4 → ∀ x, x < 2 ^ l → nI x ||| ((1 : Int32) <<< (nI l &&& 31)) = nI (x + 2 ^ l) := by decide +kernel
theorem heldN {P Lf S : Nat} {kind v rows len : AI} {q : Q5} {now : AI} (H : HR P Lf S kind v rows len q now) : ∀ (n l : Nat), l ≤ Lf → Lf - l < n → LX2_heldBits_4 (nI Lf) q.2.1 n (nI (hN q.2.1 l)) (nI l) = some (nI (hN q.2.1 Lf)) ∧ LX8_helds_4 now n (nI (hN q.2.1 l)) (nI l) = some (nI (hN q.2.1 Lf)) := by
  obtain ⟨hk, hl, hq, h⟩ := H
  have hL := hl.1
  intro n
  induction n with
  | zero => intro l _ h; omega
  | succ n ih =>
    intro l hl2 hn
    rw [LX2_heldBits_4, LX8_helds_4, h.2.1]
    by_cases e : l = Lf
    · subst e
      rw [if_pos (nI_le (Nat.le_refl _) (by omega)), if_pos (nI_le (Nat.le_refl _) (by omega))]
      exact ⟨rfl, rfl⟩
    · rw [if_neg (nle_nI (by omega) (by omega)), if_neg (nle_nI (by omega) (by omega)), isHeld_c (by omega), isHeldR_m hk.1 hL h hq.1 (by omega), bd1_s, bd1_s, or_0, nI_1]
      have hs : hN q.2.1 (l + 1) = hN q.2.1 l + (if q.2.1 l = -5 then 0 else 2 ^ l) := rfl
      have := ih (l + 1) (by omega) (by omega)
      rw [hs] at this
      by_cases e2 : q.2.1 l = -5
      · rw [if_pos e2, i0, i0]
        rw [if_pos e2, Nat.add_zero] at this
        exact this
      · rw [if_neg e2, i1, i1, or_bit l (by omega) _ (hN_lt _ l)]
        rw [if_neg e2] at this
        exact this
theorem helds_N {P Lf S : Nat} {kind v rows len : AI} {q : Q5} {now : AI} (H : HR P Lf S kind v rows len q now) : fX2_heldBits FU (nI Lf) q.2.1 = some (nI (hN q.2.1 Lf)) ∧ fX8_helds FU now = some (nI (hN q.2.1 Lf)) := by
  have hL := H.2.1.1
  exact heldN H FU 0 (by omega) (by unfold FU; omega)
theorem bit_at : ∀ x, x < 16 → ∀ k, k < 4 → ((nI x >>> (nI k &&& 31)) &&& 1 : Int32) = nI (x / 2 ^ k % 2) := by decide +kernel
theorem hN_bit (f : AI) : ∀ Lf, Lf ≤ 4 → ∀ k, k < Lf → hN f Lf / 2 ^ k % 2 = if f k = -5 then 0 else 1
  | 0, _, k, h => by omega
  | l + 1, hl, k, hk => by
    show (hN f l + (if f l = -5 then 0 else 2 ^ l)) / 2 ^ k % 2 = _
    have h1 := hN_lt f l
    by_cases e : k = l
    · subst e
      by_cases e2 : f k = -5
      · rw [if_pos e2, if_pos e2, Nat.add_zero, Nat.div_eq_of_lt h1]
      · rw [if_neg e2, if_neg e2, Nat.add_div_right _ (Nat.two_pow_pos k), Nat.div_eq_of_lt h1]
    · have ih := hN_bit f l (by omega) k (by omega)
      by_cases e2 : f l = -5
      · rw [if_pos e2, Nat.add_zero]; exact ih
      · rw [if_neg e2, ← ih]
        obtain ⟨m, hm⟩ : ∃ m, l = k + 1 + m := ⟨l - k - 1, by omega⟩
        have hp : 2 ^ l = 2 ^ k * (2 * 2 ^ m) := by rw [hm, Nat.pow_add, Nat.pow_succ, Nat.mul_assoc]
        rw [hp, Nat.add_mul_div_left _ _ (Nat.two_pow_pos k), Nat.add_mul_mod_self_left]
theorem frac_a : ∀ a, a < 600 → ∀ b, b < 7 → 1 ≤ b → ∀ p, p < 2 → (fX7_partOfLowest FU (nI a) (nI b) (nI p) = fX8_fraction FU (nI a).toInt64 (nI b).toInt64 (nI p) ∧ (fX7_partOfLowest FU (nI a) (nI b) (nI p)).isSome = true) := by decide +kernel
theorem frac_b : ∀ a, a < 16 → ∀ b, b < 16 → 1 ≤ b → ∀ p, p < 2 → (fX7_partOfLowest FU (nI a) (nI b) (nI p) = fX8_fraction FU (nI a).toInt64 (nI b).toInt64 (nI p) ∧ (fX7_partOfLowest FU (nI a) (nI b) (nI p)).isSome = true) := by decide +kernel
theorem some_of {α : Type} {x : Option α} (h : x.isSome = true) : ∃ r, x = some r := by
  rcases x with _ | r
  · cases h
  · exact ⟨r, rfl⟩
theorem sumLoop {P Lf S : Nat} {kind v rows len : AI} {q : Q5} {now : AI} (H : HR P Lf S kind v rows len q now) : ∀ (n l acc : Nat), l ≤ P → P - l < n → acc ≤ 99 * l → ∃ a, a ≤ 99 * P ∧ LX2_placesTogether_4 (nI P) q.1 n (nI acc) (nI l) = some (nI a) ∧ LX8_spots_4 now n (nI acc) (nI l) = some (nI a) := by
  obtain ⟨hk, hl, hq, h⟩ := H
  have hP := hk.1
  intro n
  induction n with
  | zero => intro l _ _ h; omega
  | succ n ih =>
    intro l acc hl2 hn ha
    rw [LX2_placesTogether_4, LX8_spots_4, h.1]
    by_cases e : l = P
    · subst e
      rw [if_pos (nI_le (Nat.le_refl _) (by omega)), if_pos (nI_le (Nat.le_refl _) (by omega))]
      exact ⟨_, ha, rfl, rfl⟩
    · obtain ⟨x, x1, x2⟩ := hq.2.1 l (by omega)
      rw [if_neg (nle_nI (by omega) (by omega)), if_neg (nle_nI (by omega) (by omega)), gd_t (inb_n (by omega) (by decide)), spot_m (by omega), bd1_s, nI_clamp (by omega), (h.2.2.2.2.1 l (by omega)).2.2.1, x2, nI_add, nI_1]
      exact ih (l + 1) (acc + x) (by omega) (by omega) (by omega)
theorem sum_2 {P Lf S : Nat} {kind v rows len : AI} {q : Q5} {now : AI} (H : HR P Lf S kind v rows len q now) : ∃ a, a ≤ 99 * P ∧ fX2_placesTogether FU (nI P) q.1 = some (nI a) ∧ fX8_spots FU now = some (nI a) := by
  have hP := H.1.1
  exact sumLoop H FU 0 0 (by omega) (by unfold FU; omega) (by omega)
theorem meets_2 {P Lf S : Nat} {kind v rows len : AI} {q : Q5} {now rules sizes lt bg wd : AI} {SUM : AI → Int32} {BR : Int32} {lib : Option Nat} {bs bl bn : AI} {bz bb : Int32} {tP tL td tst : Int32} {tk tv tp tr tl tf ts tdr ttr : AI} {tli : Option Nat} {rd nm dr mi : AI} {sz a w wi s b : Int32} (x1 x2 : Int32) (H : HR P Lf S kind v rows len q now) (hS : S < 2 ^ 20) (hS2 : S + 61 < 2 ^ 20) (hC : SumC SUM BR FU lib bs bl bn bz bb) (hM : SumM SUM BR FU (now 58) rules sizes lt bg wd) (hc : ∀ tr tr' : AI, (∀ i, i < 6 → tr i = tr' i) → SUM tr = SUM tr') : ∃ r, (∃ T : T14, fX7_meets FU (nI P) kind v q.1 rows (nI Lf) len q.2.1 q.2.2.1 q.2.2.2.1 q.2.2.2.2 lib tP tk tv tp tr tL tl tf ts td tst tli tdr ttr bs bl bn bz bb x1 x2 = some (r, T)) ∧ ∃ mi' J, fX8_meets FU now mi rules sizes rd sz a w wi s b nm lt bg wd dr x1 x2 = some (r, now, mi', (J : J9)) := by
  have hP := H.1.1
  unfold fX7_meets fX8_meets
  rcases person_or x1 hP H.2.2.2.1 with ⟨k, k1, rfl, b1, c1⟩ | ⟨b1, c1⟩
  rotate_left
  · rw [b1, c1, bd1_s, bd1_s, i0, i0]; exact ⟨_, ⟨_, rfl⟩, _, _, rfl⟩
  rw [b1, c1, bd1_s, bd1_s, i1, i1]
  rcases person_or x2 hP H.2.2.2.1 with ⟨m, m1, rfl, b2, c2⟩ | ⟨b2, c2⟩
  rotate_left
  · rw [b2, c2, bd1_s, bd1_s, i0, i0]; exact ⟨_, ⟨_, rfl⟩, _, _, rfl⟩
  rw [b2, c2, bd1_s, bd1_s, i1, i1]
  by_cases e : nI k = nI m
  · rw [if_pos e, if_pos e]; exact ⟨_, ⟨_, rfl⟩, _, _, rfl⟩
  rw [if_neg e, if_neg e, move_m, bd1_s]
  obtain ⟨r, ⟨T, g1⟩, now', J, g2, g3⟩ := meetsLoop (now0 := now) (mi := mv now mi) k1 m1 hC hc FU 0 (cQ q tp tf ts) S now tdr ttr rd nm dr sz a w wi s b (HR_cpy (kind' := tk) (v' := tv) (rows' := tr) (len' := tl) (p := tp) (f := tf) (s := ts) H) (by omega) hM same58_refl (by omega) (by unfold FU; omega)
  have g1' : fX1_meetingOf FU tP tk tv tp tr tL tl tf ts td tst tli tdr ttr (nI P) kind v q.1 rows (nI Lf) len q.2.1 q.2.2.1 q.2.2.2.1 q.2.2.2.2 lib bs bl bn bz bb (nI k) (nI m) = some (r, T) := g1
  have g2' : LX8_meets_43 FU rules sizes lt bg wd (nI k) (nI m) (mv now mi) FU (-5) 0 now rd sz a w wi s b nm dr = some (r, mv (mv now mi) now', mv now mi, J) := g2
  obtain ⟨y0, y1, y2, y3, y4, y5, y6, y7, y8, y9, y10, y11, y12, y13⟩ := T
  rw [g1', g2', bd15_s, mv_back g3]
  exact ⟨_, ⟨_, rfl⟩, _, _, rfl⟩
theorem mean_2 {P Lf S : Nat} {kind v rows len : AI} {q : Q5} {now rules sizes lt bg wd : AI} {SUM : AI → Int32} {BR : Int32} {lib : Option Nat} {bs bl bn : AI} {bz bb : Int32} {tP tL td tst : Int32} {tk tv tp tr tl tf ts tdr ttr : AI} {tli : Option Nat} {rd nm dr mi : AI} {sz a w wi s b : Int32} (x1 x2 : Int32) (H : HR P Lf S kind v rows len q now) (hS : S < 2 ^ 20) (hC : SumC SUM BR FU lib bs bl bn bz bb) (hM : SumM SUM BR FU (now 58) rules sizes lt bg wd) (hc : ∀ tr tr' : AI, (∀ i, i < 6 → tr i = tr' i) → SUM tr = SUM tr') : ∃ r, (∃ T : T14, fX7_mean FU (nI P) kind v q.1 rows (nI Lf) len q.2.1 q.2.2.1 q.2.2.2.1 q.2.2.2.2 lib tP tk tv tp tr tL tl tf ts td tst tli tdr ttr bs bl bn bz bb x1 x2 = some (r, T)) ∧ ∃ mi' J, fX8_mean FU now mi rules sizes rd sz a w wi s b nm lt bg wd dr x1 x2 = some (r, now, mi', (J : J9)) := by
  have hP := H.1.1
  unfold fX7_mean fX8_mean
  rw [show (60 : Int32) = nI 60 from rfl, show fX7_isWithin x2 1 = fX7_isWithin x2 (nI 1) from rfl, show fX8_isIn x2 0 1 = fX8_isIn x2 0 (nI 1) from rfl, H.2.2.2.1]
  rcases within_or x1 60 (by omega) with ⟨n, n1, rfl, b1, c1⟩ | ⟨b1, c1⟩
  rotate_left
  · rw [b1, c1, bd1_s, bd1_s, i0, i0]; exact ⟨_, ⟨_, rfl⟩, _, _, rfl⟩
  rw [b1, c1, bd1_s, bd1_s, i1, i1]
  rcases within_or x2 1 (by omega) with ⟨p, p1, rfl, b2, c2⟩ | ⟨b2, c2⟩
  rotate_left
  · rw [b2, c2, bd1_s, bd1_s, i0, i0]; exact ⟨_, ⟨_, rfl⟩, _, _, rfl⟩
  rw [b2, c2, bd1_s, bd1_s, i1, i1]
  by_cases e : P = 0
  · subst e
    rw [if_neg (by decide), if_pos (show nI 0 = 0 from rfl)]; exact ⟨_, ⟨_, rfl⟩, _, _, rfl⟩
  · rw [if_pos (show (1 : Int32) ≤ nI P from nI_le (a := 1) (by omega) (by omega)), if_neg (show ¬ nI P = 0 from nI_ne (b := 0) (by omega) (by omega) e)]
    obtain ⟨d, t, g1⟩ := goneOn_c (tP := tP) (tL := tL) (td := td) (tst := tst) (tli := tli) (tk := tk) (tv := tv) (tp := tp) (tr := tr) (tl := tl) (tf := tf) (ts := ts) (tdr := tdr) (ttr := ttr) (n := n) H hS (by omega) hC
    obtain ⟨now', rd1, sz1, a1, w1, wi1, s1, b1, nm1, dr1, g2, g3, g4⟩ := stN (rd := rd) (nm := nm) (dr := dr) (sz := sz) (a := a) (w := w) (wi := wi) (s := s) (b := b) (n := n) (HR_cpy (kind' := tk) (v' := tv) (rows' := tr) (len' := tl) (p := tp) (f := tf) (s := ts) H) hS (by omega) hM hc
    obtain ⟨x, h1, h2, h3⟩ := sum_2 g3
    have hbk : mv (mv now mi) now' = now := mv_back g4
    obtain ⟨f1, f2⟩ := frac_a x (by omega) P (by omega) (by omega) p (by omega)
    obtain ⟨r, f3⟩ := some_of f2
    rw [g1, bd14_s, h2, bd1_s, f3, bd1_s, move_m, bd1_s, g2, bd10_s, h3, bd1_s, move_m, bd1_s, hbk, H.2.2.2.1, ← f1, f3, bd1_s]
    exact ⟨_, ⟨_, rfl⟩, _, _, rfl⟩
