/-! ===== tapes ===== -/
abbrev AL : Type := Nat → Int64
theorem updL_s {f : AL} {k : Nat} {x : Int64} : vp_updL f k x k = x := by unfold vp_updL; rw [if_pos rfl]
theorem updL_n {f : AL} {k j : Nat} {x : Int64} (h : j ≠ k) : vp_updL f k x j = f j := by unfold vp_updL; rw [if_neg h]
/-- a tape's sort: none (and then no place), or one of five -/
def srt (x : Int32) (n : Nat) : Prop := (x = -1 ∧ n = 0) ∨ bnd x 5
def TP (k : Nat) (us uz : Int32) (ui : AL) (so le : AI) (it : AL) : Prop := so k = us ∧ le k = uz ∧ (∃ n, n ≤ 60 ∧ uz = nI n ∧ srt us n) ∧ ∀ i, i < 60 → ui i = it (60 * k + i)
/-- the other tapes stay -/
def TO (k : Nat) (so le : AI) (it : AL) (so' le' : AI) (it' : AL) : Prop := ∀ j, j ≠ k → so' j = so j ∧ le' j = le j ∧ ∀ i, i < 60 → it' (60 * j + i) = it (60 * j + i)
theorem TO_refl {k : Nat} {so le : AI} {it : AL} : TO k so le it so le it := fun _ _ => ⟨rfl, rfl, fun _ _ => rfl⟩
theorem TP_other {j k : Nat} {us uz : Int32} {ui : AL} {so le so' le' : AI} {it it' : AL} (hj : j ≠ k) (ho : TO k so le it so' le' it') (h : TP j us uz ui so le it) : TP j us uz ui so' le' it' := by
  obtain ⟨a, b, c⟩ := ho j hj
  exact ⟨a.trans h.1, b.trans h.2.1, h.2.2.1, fun i hi => (h.2.2.2 i hi).trans (c i hi).symm⟩
theorem isTape_y {k : Nat} (hk : k < 6) : fX7_isTape (nI k) = some 1 ∧ fX8_isTape (nI k) = some 1 := by
  unfold fX7_isTape fX8_isTape
  rw [show (5 : Int32) = nI 5 from rfl]
  rcases within_or (nI k) 5 (by omega) with ⟨j, j1, j2, b1, c1⟩ | ⟨b1, c1⟩
  · rw [b1, c1]; exact ⟨rfl, rfl⟩
  · have := isIn_y (N := nI 5) rfl (by omega) (show k ≤ 5 by omega)
    rw [c1] at this
    exact absurd (Option.some.inj this) (by decide)
theorem isTape_n {x : Int32} (h : x < 0 ∨ nI 6 ≤ x) : fX7_isTape x = some 0 ∧ fX8_isTape x = some 0 := by
  unfold fX7_isTape fX8_isTape
  rw [show (5 : Int32) = nI 5 from rfl]
  rcases within_or x 5 (by omega) with ⟨j, j1, j2, b1, c1⟩ | ⟨b1, c1⟩
  · rcases h with h | h
    · exact absurd h (by rw [j2]; exact nnI_lt0 (by omega))
    · rw [j2, nI_leI (by omega) (by omega)] at h; omega
  · rw [b1, c1]; exact ⟨rfl, rfl⟩
theorem srt_neg {x : Int32} {n : Nat} (h : srt x n) : (x < 0 ↔ x = -1) ∧ (0 ≤ x ↔ ¬ x = -1) := by
  rcases h with ⟨rfl, -⟩ | ⟨k, k1, rfl⟩
  · exact ⟨⟨fun _ => rfl, fun _ => by decide⟩, ⟨fun h => absurd h (by decide), fun h => absurd rfl h⟩⟩
  · exact ⟨⟨fun h => absurd h (nnI_lt0 (by omega)), fun h => absurd h (nI_m1 (by omega))⟩, ⟨fun _ => nI_m1 (by omega), fun _ => nI_0le (by omega)⟩⟩
theorem i60 (k i : Nat) : 60 * nI k + nI i = nI (60 * k + i) := by rw [show (60 : Int32) = nI 60 from rfl, pk_mul, nI_add]
theorem becomeLoop {x1 x2 : Int32} : ∀ (n j : Nat) (ui : AL), j ≤ 60 → 60 - j < n → ∃ ui', LX6_become_12 x1 x2 n (nI j) ui = some (x1, x2, ui') ∧ (∀ i, j ≤ i → i < 60 → ui' i = 0) ∧ ∀ i, i < j → ui' i = ui i := by
  intro n
  induction n with
  | zero => intro j ui _ h; omega
  | succ n ih =>
    intro j ui hj hn
    rw [LX6_become_12]
    by_cases e : j = 60
    · subst e
      rw [if_pos (by decide)]
      exact ⟨ui, rfl, fun i h1 h2 => by omega, fun _ _ => rfl⟩
    · rw [if_neg (show ¬ (60 : Int32) ≤ nI j from nle_nI (a := 60) (by omega) (by omega)), gd_t (inb_n (by omega) (by decide)), nI_1, nI_clamp (by omega)]
      obtain ⟨ui', g1, g2, g3⟩ := ih (j + 1) (vp_updL ui j 0) (by omega) (by omega)
      refine ⟨ui', g1, fun i h1 h2 => ?_, fun i hi => ?_⟩
      · by_cases e2 : i = j
        · subst e2; rw [g3 i (by omega), updL_s]
        · exact g2 i (by omega) h2
      · rw [g3 i (by omega), updL_n (by omega)]
theorem tapeLoop {so le : AI} {k : Nat} {x2 x3 : Int32} (hk : k < 6) : ∀ (n j : Nat) (it : AL), j ≤ 60 → 60 - j < n → ∃ it', LX8_tape_67 so le (nI k) x2 x3 n (nI j) it = some (1, upd so k x2, upd le k x3, it') ∧ (∀ i, j ≤ i → i < 60 → it' (60 * k + i) = 0) ∧ ∀ i, (i < 60 * k + j ∨ 60 * k + 60 ≤ i) → it' i = it i := by
  intro n
  induction n with
  | zero => intro j ui _ h; omega
  | succ n ih =>
    intro j it hj hn
    rw [LX8_tape_67]
    by_cases e : j = 60
    · subst e
      rw [if_pos (by decide), nI_clamp (by omega)]
      exact ⟨it, rfl, fun i h1 h2 => by omega, fun _ _ => rfl⟩
    · rw [if_neg (show ¬ (60 : Int32) ≤ nI j from nle_nI (a := 60) (by omega) (by omega)), i60, gd_t (inb_n (by omega) (by decide)), nI_1, nI_clamp (by omega)]
      obtain ⟨it', g1, g2, g3⟩ := ih (j + 1) (vp_updL it (60 * k + j) 0) (by omega) (by omega)
      refine ⟨it', g1, fun i h1 h2 => ?_, fun i hi => ?_⟩
      · by_cases e2 : i = j
        · subst e2; rw [g3 _ (by omega), updL_s]
        · exact g2 i (by omega) h2
      · rw [g3 i (by omega), updL_n (by omega)]
theorem tapeLoop1 {so le : AI} {k : Nat} {x2 : Int32} (hk : k < 6) : ∀ (n j : Nat) (it : AL), j ≤ 60 → 60 - j < n → ∃ it', LX8_tape_67_1 so le (nI k) x2 n (nI j) it = some (1, upd so k x2, upd le k 0, it') ∧ (∀ i, j ≤ i → i < 60 → it' (60 * k + i) = 0) ∧ ∀ i, (i < 60 * k + j ∨ 60 * k + 60 ≤ i) → it' i = it i := by
  intro n
  induction n with
  | zero => intro j ui _ h; omega
  | succ n ih =>
    intro j it hj hn
    rw [LX8_tape_67_1]
    by_cases e : j = 60
    · subst e
      rw [if_pos (by decide), nI_clamp (by omega)]
      exact ⟨it, rfl, fun i h1 h2 => by omega, fun _ _ => rfl⟩
    · rw [if_neg (show ¬ (60 : Int32) ≤ nI j from nle_nI (a := 60) (by omega) (by omega)), i60, gd_t (inb_n (by omega) (by decide)), nI_1, nI_clamp (by omega)]
      obtain ⟨it', g1, g2, g3⟩ := ih (j + 1) (vp_updL it (60 * k + j) 0) (by omega) (by omega)
      refine ⟨it', g1, fun i h1 h2 => ?_, fun i hi => ?_⟩
      · by_cases e2 : i = j
        · subst e2; rw [g3 _ (by omega), updL_s]
        · exact g2 i (by omega) h2
      · rw [g3 i (by omega), updL_n (by omega)]
theorem TO_zero {k : Nat} {so le : AI} {it it' : AL} {x2 x3 : Int32} (g3 : ∀ i, (i < 60 * k + 0 ∨ 60 * k + 60 ≤ i) → it' i = it i) : TO k so le it (upd so k x2) (upd le k x3) it' := fun j hj => ⟨upd_n hj, upd_n hj, fun i hi => g3 _ (by omega)⟩
theorem tape_n {zarr : Nat → Option Nat} {us uz : Int32} {ui it : AL} {so le : AI} {x1 : Int32} (x2 x3 : Int32) (h : x1 < 0 ∨ nI 6 ≤ x1) : fX7_tape FU zarr us uz ui x1 x2 x3 = some (-1, us, uz, ui) ∧ fX8_tape FU so le it x1 x2 x3 = some (-1, so, le, it) := by
  unfold fX7_tape fX8_tape
  rw [(isTape_n h).1, (isTape_n h).2]
  exact ⟨rfl, rfl⟩
theorem tape_y {zarr : Nat → Option Nat} {us uz : Int32} {ui it : AL} {so le : AI} {k : Nat} (x2 x3 : Int32) (hk : k < 6) (h : TP k us uz ui so le it) : ∃ r us' uz' ui' so' le' it', fX7_tape FU zarr us uz ui (nI k) x2 x3 = some (r, us', uz', ui') ∧ fX8_tape FU so le it (nI k) x2 x3 = some (r, so', le', it') ∧ TP k us' uz' ui' so' le' it' ∧ TO k so le it so' le' it' := by
  have hb6 : inb (nI k) 6 := inb_n hk (by decide)
  unfold fX7_tape fX8_tape
  rw [(isTape_y hk).1, (isTape_y hk).2, bd1_s, bd1_s, i1, i1]
  by_cases em : x2 = -1
  · subst em
    obtain ⟨ui', f1, f2, f3⟩ := becomeLoop (x1 := -1) (x2 := 0) FU 0 ui (by omega) (by unfold FU; omega)
    obtain ⟨it', g1, g2, g3⟩ := tapeLoop1 (so := so) (le := le) (x2 := -1) hk FU 0 it (by omega) (by unfold FU; omega)
    have f1' : fX6_become FU us uz ui (-1) 0 = some (-1, 0, ui') := f1
    rw [if_pos rfl, gd_t hb6, f1', show fX8_isIn (-1) (-1) 4 = some 1 from rfl, bd1_s, i1, if_pos (by decide), if_pos (by decide), gd_t hb6, if_neg (by decide), gd_t hb6]
    refine ⟨_, _, _, _, _, _, _, rfl, g1, ⟨upd_s, upd_s, ⟨0, by omega, rfl, Or.inl ⟨rfl, rfl⟩⟩, fun i hi => ?_⟩, TO_zero g3⟩
    rw [f2 i (Nat.zero_le _) hi, g2 i (Nat.zero_le _) hi]
  · rw [if_neg em, show (4 : Int32) = nI 4 from rfl]
    rcases within_or x2 4 (by omega) with ⟨s, s1, rfl, b1, c1⟩ | ⟨b1, c1⟩
    · have e0 : ¬ nI s < 0 := nnI_lt0 (by omega)
      have e1 : fX8_isIn (nI s) (-1) (nI 4) = some 1 := by
        unfold fX8_isIn
        have q1 : ¬ nI s < -1 := by
          rw [Int32.lt_iff_toInt_lt, nI_toInt (by omega), show (-1 : Int32).toInt = -1 by decide]; omega
        rw [if_neg q1, if_neg (by rw [nI_ltI (by omega) (by omega)]; omega)]
      rw [b1, bd1_s, i1, e1, bd1_s, i1, if_neg e0]
      by_cases h60 : x3 ≤ 60
      · rw [if_pos h60, if_pos h60, if_neg e0]
        by_cases h0 : 0 ≤ x3
        · have hx : ∃ n, n ≤ 60 ∧ x3 = nI n := by
            rcases or_in x3 61 (by omega) with e | ⟨n, n1, n2⟩
            · rcases e with e | e
              · have a1 := Int32.lt_iff_toInt_lt.mp e
                have a2 := Int32.le_iff_toInt_le.mp h0
                omega
              · have a1 := Int32.le_iff_toInt_le.mp e
                have a2 := Int32.le_iff_toInt_le.mp h60
                rw [nI_toInt (by omega)] at a1
                rw [show (60 : Int32).toInt = 60 by decide] at a2
                omega
            · exact ⟨n, by omega, n2⟩
          obtain ⟨n, n1, rfl⟩ := hx
          obtain ⟨ui', f1, f2, f3⟩ := becomeLoop (x1 := nI s) (x2 := nI n) FU 0 ui (by omega) (by unfold FU; omega)
          obtain ⟨it', g1, g2, g3⟩ := tapeLoop (so := so) (le := le) (x2 := nI s) (x3 := nI n) hk FU 0 it (by omega) (by unfold FU; omega)
          have f1' : fX6_become FU us uz ui (nI s) (nI n) = some (nI s, nI n, ui') := f1
          rw [if_pos h0, if_pos h0, gd_t hb6, gd_t hb6, if_pos (nI_0le (by omega)), gd_t hb6, f1']
          refine ⟨_, _, _, _, _, _, _, rfl, g1, ⟨upd_s, upd_s, ⟨n, n1, rfl, Or.inr ⟨s, by omega, rfl⟩⟩, fun i hi => ?_⟩, TO_zero g3⟩
          rw [f2 i (Nat.zero_le _) hi, g2 i (Nat.zero_le _) hi]
        · rw [if_neg h0, if_neg h0]
          exact ⟨_, _, _, _, _, _, _, rfl, rfl, h, TO_refl⟩
      · rw [if_neg h60, if_neg h60]
        exact ⟨_, _, _, _, _, _, _, rfl, rfl, h, TO_refl⟩
    · have e1 : fX8_isIn x2 (-1) (nI 4) = some 0 := by
        unfold fX8_isIn at c1 ⊢
        by_cases q1 : x2 < -1
        · rw [if_pos q1]
        · rw [if_neg q1]
          by_cases q2 : x2 < 0
          · have a1 := mt Int32.lt_iff_toInt_lt.mpr q1
            have a2 := Int32.lt_iff_toInt_lt.mp q2
            rw [show (-1 : Int32).toInt = -1 by decide] at a1
            rw [show (0 : Int32).toInt = 0 by decide] at a2
            exact absurd (Int32.toInt_inj.mp (by rw [show (-1 : Int32).toInt = -1 by decide]; omega)) em
          · rw [if_neg q2] at c1; exact c1
      rw [b1, bd1_s, i0, e1, bd1_s, i0]
      exact ⟨_, _, _, _, _, _, _, rfl, rfl, h, TO_refl⟩
theorem item_n {zarr : Nat → Option Nat} {us uz : Int32} {ui it : AL} {so le : AI} {x1 : Int32} (x2 : Int32) (x3 : Int64) (h : x1 < 0 ∨ nI 6 ≤ x1) : fX7_item zarr us uz ui x1 x2 x3 = some (-1, ui) ∧ fX8_item so le it x1 x2 x3 = some (-1, it) := by
  unfold fX7_item fX8_item
  rw [(isTape_n h).1, (isTape_n h).2]
  exact ⟨rfl, rfl⟩
theorem read_n {zarr : Nat → Option Nat} {uz : Int32} {ui it : AL} {le : AI} {x1 : Int32} (x2 : Int32) (h : x1 < 0 ∨ nI 6 ≤ x1) : ∃ r, fX7_read zarr uz ui x1 x2 = some r ∧ fX8_read le it x1 x2 = some r := by
  unfold fX7_read fX8_read
  rw [(isTape_n h).1, (isTape_n h).2]
  exact ⟨_, rfl, rfl⟩
theorem read_y {zarr : Nat → Option Nat} {us uz : Int32} {ui it : AL} {so le : AI} {k : Nat} (x2 : Int32) (hk : k < 6) (h : TP k us uz ui so le it) : ∃ r, fX7_read zarr uz ui (nI k) x2 = some r ∧ fX8_read le it (nI k) x2 = some r := by
  have hb6 : inb (nI k) 6 := inb_n hk (by decide)
  obtain ⟨h1, h2, ⟨n, n1, rfl, h3⟩, h4⟩ := h
  unfold fX7_read fX8_read
  rw [(isTape_y hk).1, (isTape_y hk).2, bd1_s, bd1_s, i1, i1]
  simp only [gd_t hb6, nI_clamp (show k < 2 ^ 31 by omega), h2]
  rcases isIn_pred x2 n (by omega) with ⟨i, j1, rfl, b1, c1⟩ | ⟨b1, c1⟩
  · rw [b1, c1, bd1_s, bd1_s, i1, i1, gd_t (inb_n (by omega) (by decide)), i60, gd_t (inb_n (by omega) (by decide)), nI_clamp (by omega), nI_clamp (by omega), h4 i (by omega)]
    exact ⟨_, rfl, rfl⟩
  · rw [b1, c1, bd1_s, bd1_s, i0, i0]; exact ⟨_, rfl, rfl⟩
theorem item_y {zarr : Nat → Option Nat} {us uz : Int32} {ui it : AL} {so le : AI} {k : Nat} (x2 : Int32) (x3 : Int64) (hk : k < 6) (h : TP k us uz ui so le it) : ∃ r ui' it', fX7_item zarr us uz ui (nI k) x2 x3 = some (r, ui') ∧ fX8_item so le it (nI k) x2 x3 = some (r, it') ∧ TP k us uz ui' so le it' ∧ TO k so le it so le it' := by
  have hb6 : inb (nI k) 6 := inb_n hk (by decide)
  have h' := h
  obtain ⟨h1, h2, ⟨n, n1, rfl, h3⟩, h4⟩ := h
  have hz := srt_neg h3
  unfold fX7_item fX8_item
  rw [(isTape_y hk).1, (isTape_y hk).2, bd1_s, bd1_s, i1, i1]
  simp only [gd_t hb6, nI_clamp (show k < 2 ^ 31 by omega), h1, h2]
  by_cases em : us = -1
  · rw [if_pos em, if_neg (fun z => (hz.2.mp z) em)]
    exact ⟨_, _, _, rfl, rfl, h', TO_refl⟩
  rw [if_neg em, if_pos (hz.2.mpr em)]
  rcases isIn_pred x2 n (by omega) with ⟨i, j1, rfl, b1, c1⟩ | ⟨b1, c1⟩
  rotate_left
  · rw [b1, c1, bd1_s, bd1_s, i0, i0]; exact ⟨_, _, _, rfl, rfl, h', TO_refl⟩
  have hx : inb (60 * nI k + nI i) 360 := by rw [i60]; exact inb_n (by omega) (by decide)
  have hM : ∀ y : Int64, TP k us (nI n) (vp_updL ui i y) so le (vp_updL it (60 * k + i) y) ∧ TO k so le it so le (vp_updL it (60 * k + i) y) := by
    intro y
    refine ⟨⟨h1, h2, ⟨n, n1, rfl, h3⟩, fun j hj => ?_⟩, fun j hj => ⟨rfl, rfl, fun z hz => updL_n (by omega)⟩⟩
    by_cases e : j = i
    · subst e; rw [updL_s, updL_s]
    · rw [updL_n e, updL_n (by omega)]; exact h4 j hj
  rw [b1, c1, bd1_s, bd1_s, i1, i1]
  simp only [gd_t hx]
  simp only [i60, nI_clamp (show 60 * k + i < 2 ^ 31 by omega)]
  unfold fX7_asItem
  have hb : inb (nI i) 60 := inb_n (by omega) (by decide)
  have hc : us = 0 ∨ us = 1 ∨ us = 2 ∨ us = 3 ∨ us = 4 := by
    rcases h3 with ⟨e, -⟩ | ⟨s, s1, e⟩
    · exact absurd e em
    · rcases (show s = 0 ∨ s = 1 ∨ s = 2 ∨ s = 3 ∨ s = 4 by omega) with rfl | rfl | rfl | rfl | rfl
      · exact Or.inl e
      · exact Or.inr (Or.inl e)
      · exact Or.inr (Or.inr (Or.inl e))
      · exact Or.inr (Or.inr (Or.inr (Or.inl e)))
      · exact Or.inr (Or.inr (Or.inr (Or.inr e)))
  rcases hc with e | e | e | e | e
  · rw [if_pos e, if_pos e, bd1_s, gd_t hb, nI_clamp (by omega)]
    exact ⟨_, _, _, rfl, rfl, hM _⟩
  · rw [if_neg (by rw [e]; decide), if_pos e, if_neg (by rw [e]; decide), if_pos e, bd1_s, gd_t hb, nI_clamp (by omega)]
    exact ⟨_, _, _, rfl, rfl, hM _⟩
  · rw [if_neg (by rw [e]; decide), if_neg (by rw [e]; decide), if_pos e, if_neg (by rw [e]; decide), if_neg (by rw [e]; decide), if_pos e, bd1_s, gd_t hb, nI_clamp (by omega)]
    exact ⟨_, _, _, rfl, rfl, hM _⟩
  · rw [if_neg (by rw [e]; decide), if_neg (by rw [e]; decide), if_neg (by rw [e]; decide), if_neg (by rw [e]; decide), if_neg (by rw [e]; decide), if_neg (by rw [e]; decide), if_neg (by rw [e]; decide), if_pos e, bd1_s, gd_t hb, nI_clamp (by omega)]
    exact ⟨_, _, _, rfl, rfl, hM _⟩
  · have e0 : ¬ us = 0 := by rw [e]; decide
    have e1 : ¬ us = 1 := by rw [e]; decide
    have e2 : ¬ us = 2 := by rw [e]; decide
    have e3 : ¬ us = 3 := by rw [e]; decide
    simp only [if_neg e0, if_neg e1, if_neg e2, if_neg e3, if_pos e]
    by_cases e5 : lg_cmp x3 0 = 0
    · rw [if_pos e5, if_pos e5, bd1_s, gd_t hb, nI_clamp (by omega)]
      exact ⟨_, _, _, rfl, rfl, hM _⟩
    · rw [if_neg e5, if_neg e5, bd1_s, gd_t hb, nI_clamp (by omega)]
      exact ⟨_, _, _, rfl, rfl, hM _⟩
/-! moving from tape to tape -/
theorem room_or (n : Nat) (x y : Int32) (hn : n ≤ 60) (hy : ¬ y < 0) : (∃ a b, x = nI a ∧ y = nI b ∧ a + b ≤ n ∧ fX6_hasRoom (nI n) x y = some 1 ∧ ¬ x < 0 ∧ ¬ (nI n - x < y)) ∨ (fX6_hasRoom (nI n) x y = some 0 ∧ (x < 0 ∨ nI n - x < y)) := by
  unfold fX6_hasRoom
  have z0 : (0 : Int32).toInt = 0 := by decide
  by_cases hx : x < 0
  · rw [if_pos hx]; exact Or.inr ⟨rfl, Or.inl hx⟩
  · rw [if_neg hx]
    have x0 : 0 ≤ x.toInt := by have := mt Int32.lt_iff_toInt_lt.mpr hx; omega
    have y0 : 0 ≤ y.toInt := by have := mt Int32.lt_iff_toInt_lt.mpr hy; omega
    have x1 := x.toInt_lt
    have y1 := y.toInt_lt
    have sy : (nI n - y).toInt = n - y.toInt := by
      rw [Int32.toInt_sub, nI_toInt (by omega)]
      exact Int.bmod_eq_of_le_mul_two (by omega) (by omega)
    have sx : (nI n - x).toInt = n - x.toInt := by
      rw [Int32.toInt_sub, nI_toInt (by omega)]
      exact Int.bmod_eq_of_le_mul_two (by omega) (by omega)
    by_cases h : nI n - y < x
    · rw [if_pos h]
      refine Or.inr ⟨rfl, Or.inr (Int32.lt_iff_toInt_lt.mpr ?_)⟩
      have := Int32.lt_iff_toInt_lt.mp h
      omega
    · rw [if_neg h]
      have h2 := mt Int32.lt_iff_toInt_lt.mpr h
      have ex : x = nI x.toInt.toNat := Int32.toInt_inj.mp (by rw [nI_toInt (by omega)]; omega)
      have ey : y = nI y.toInt.toNat := Int32.toInt_inj.mp (by rw [nI_toInt (by omega)]; omega)
      exact Or.inl ⟨_, _, ex, ey, by omega, rfl, hx, fun z => by have := Int32.lt_iff_toInt_lt.mp z; omega⟩
theorem takeLoop {it : AL} {k m i j n : Nat} (hk : k < 6) (hn : i + n ≤ 60) : ∀ (w t : Nat) (mo : AL), t ≤ n → n - t < w → (∀ z, z < t → mo z = it (60 * k + i + z)) → ∃ mo', (∀ z, z < n → mo' z = it (60 * k + i + z)) ∧ LX8_shift_102 FU it (nI k) (nI i) (nI m) (nI j) (nI n) w (nI t) mo = LX8_shift_139 (nI m) (nI j) (nI n) mo' FU 0 it := by
  intro w
  induction w with
  | zero => intro t mo _ h; omega
  | succ w ih =>
    intro t mo ht hw hd
    rw [LX8_shift_102]
    by_cases e : t = n
    · subst e
      rw [if_pos (nI_le (Nat.le_refl _) (by omega))]
      exact ⟨mo, hd, rfl⟩
    · rw [if_neg (nle_nI (by omega) (by omega)), i60, nI_add, gd_t (inb_n (by omega) (by decide)), gd_t (inb_n (by omega) (by decide)), nI_1, nI_clamp (by omega), nI_clamp (by omega)]
      exact ih (t + 1) _ (by omega) (by omega) (fun z hz => by
        by_cases e2 : z = t
        · subst e2; rw [updL_s]
        · rw [updL_n e2]; exact hd z (by omega))
theorem giveLoop {mo : AL} {m j n : Nat} (hm : m < 6) (hn : j + n ≤ 60) : ∀ (w t : Nat) (it : AL), t ≤ n → n - t < w → ∃ it', LX8_shift_139 (nI m) (nI j) (nI n) mo w (nI t) it = some (nI n, it', mo) ∧ (∀ z, t ≤ z → z < n → it' (60 * m + j + z) = mo z) ∧ ∀ z, (z < 60 * m + j + t ∨ 60 * m + j + n ≤ z) → it' z = it z := by
  intro w
  induction w with
  | zero => intro t it _ h; omega
  | succ w ih =>
    intro t it ht hw
    rw [LX8_shift_139]
    by_cases e : t = n
    · subst e
      rw [if_pos (nI_le (Nat.le_refl _) (by omega))]
      exact ⟨it, rfl, fun z h1 h2 => by omega, fun _ _ => rfl⟩
    · rw [if_neg (nle_nI (by omega) (by omega)), i60, nI_add, gd_t (inb_n (by omega) (by decide)), gd_t (inb_n (by omega) (by decide)), nI_1, nI_clamp (by omega), nI_clamp (by omega)]
      obtain ⟨it', g1, g2, g3⟩ := ih (t + 1) (vp_updL it (60 * m + j + t) (mo t)) (by omega) (by omega)
      refine ⟨it', g1, fun z h1 h2 => ?_, fun z hz => ?_⟩
      · by_cases e2 : z = t
        · subst e2; rw [g3 _ (by omega), updL_s]
        · exact g2 z (by omega) h2
      · rw [g3 z (by omega), updL_n (by omega)]
theorem shift_n {zarr : Nat → Option Nat} {us uz vs vz : Int32} {ui vi it mo : AL} {so le : AI} {x1 x3 : Int32} (x2 x4 x5 : Int32) (h : (x1 < 0 ∨ nI 6 ≤ x1) ∨ (x3 < 0 ∨ nI 6 ≤ x3)) : fX7_shift zarr us uz ui vs vz vi x1 x2 x3 x4 x5 = some (-1, vi) ∧ fX8_shift FU so le it mo x1 x2 x3 x4 x5 = some (-1, it, mo) := by
  unfold fX7_shift fX8_shift
  rcases or_in x1 6 (by omega) with e | ⟨k, k1, rfl⟩
  · rw [(isTape_n e).1, (isTape_n e).2]; exact ⟨rfl, rfl⟩
  · rcases or_in x3 6 (by omega) with e | ⟨m, m1, rfl⟩
    · rw [(isTape_n e).1, (isTape_n e).2, (isTape_y k1).1, (isTape_y k1).2]; exact ⟨rfl, rfl⟩
    · exfalso
      rcases h with (h | h) | (h | h)
      · exact nnI_lt0 (by omega) h
      · exact nle_nI k1 (by omega) h
      · exact nnI_lt0 (by omega) h
      · exact nle_nI m1 (by omega) h
/-- what the model does, where both are tapes -/
theorem shift_m {us uz vs vz : Int32} {ui vi it mo : AL} {so le : AI} {k m : Nat} (x2 x4 x5 : Int32) (hk : k < 6) (hm : m < 6) (hu : TP k us uz ui so le it) (hv : TP m vs vz vi so le it) :
    (∃ r mo', fX8_shift FU so le it mo (nI k) x2 (nI m) x4 x5 = some (r, it, mo') ∧ ((us = -1 ∧ r = -11) ∨ (¬ us = -1 ∧ vs = -1 ∧ r = -11) ∨ (¬ us = -1 ∧ ¬ vs = -1 ∧ ¬ us = vs ∧ r = -12) ∨ (¬ us = -1 ∧ ¬ vs = -1 ∧ us = vs ∧ x5 < 0 ∧ r = -13) ∨ (¬ us = -1 ∧ ¬ vs = -1 ∧ us = vs ∧ ¬ x5 < 0 ∧ fX6_hasRoom uz x2 x5 = some 0 ∧ r = -13) ∨ (¬ us = -1 ∧ ¬ vs = -1 ∧ us = vs ∧ ¬ x5 < 0 ∧ fX6_hasRoom uz x2 x5 = some 1 ∧ fX6_hasRoom vz x4 x5 = some 0 ∧ r = -13))) ∨
    ∃ it' mo' i j n, ¬ us = -1 ∧ ¬ vs = -1 ∧ us = vs ∧ ¬ x5 < 0 ∧ fX6_hasRoom uz x2 x5 = some 1 ∧ fX6_hasRoom vz x4 x5 = some 1 ∧ x2 = nI i ∧ x4 = nI j ∧ x5 = nI n ∧ i + n ≤ 60 ∧ j + n ≤ 60 ∧ fX8_shift FU so le it mo (nI k) x2 (nI m) x4 x5 = some (nI n, it', mo') ∧ (∀ z, z < n → it' (60 * m + j + z) = it (60 * k + i + z)) ∧ ∀ z, (z < 60 * m + j ∨ 60 * m + j + n ≤ z) → it' z = it z := by
  have hb6 : inb (nI k) 6 := inb_n hk (by decide)
  have hm6 : inb (nI m) 6 := inb_n hm (by decide)
  obtain ⟨h1, h2, ⟨n, n1, rfl, h3⟩, h4⟩ := hu
  obtain ⟨g1, g2, ⟨n2, n21, rfl, g3⟩, g4⟩ := hv
  have hz := srt_neg h3
  have gz := srt_neg g3
  unfold fX8_shift
  rw [(isTape_y hk).2, (isTape_y hm).2, bd1_s, i1, bd1_s, i1]
  simp only [gd_t hb6, gd_t hm6, nI_clamp (show k < 2 ^ 31 by omega), nI_clamp (show m < 2 ^ 31 by omega), h1, h2, g1, g2]
  by_cases eu : us = -1
  · rw [if_pos (hz.1.mpr eu)]
    exact Or.inl ⟨_, _, rfl, Or.inl ⟨eu, rfl⟩⟩
  rw [if_neg (fun z => eu (hz.1.mp z))]
  by_cases ev : vs = -1
  · rw [if_neg (fun z => (gz.2.mp z) ev)]
    exact Or.inl ⟨_, _, rfl, Or.inr (Or.inl ⟨eu, ev, rfl⟩)⟩
  rw [if_pos (gz.2.mpr ev)]
  by_cases es : us = vs
  rotate_left
  · rw [if_neg es]
    exact Or.inl ⟨_, _, rfl, Or.inr (Or.inr (Or.inl ⟨eu, ev, es, rfl⟩))⟩
  rw [if_pos es]
  by_cases e5 : x5 < 0
  · rw [if_pos e5]
    exact Or.inl ⟨_, _, rfl, Or.inr (Or.inr (Or.inr (Or.inl ⟨eu, ev, es, e5, rfl⟩)))⟩
  rw [if_neg e5]
  rcases room_or n x2 x5 n1 e5 with ⟨i, c, rfl, rfl, b3, b4, b5, b6⟩ | ⟨b1, b2⟩
  rotate_left
  · have : (if x2 < 0 then some ((-13 : Int32), it, mo) else if x4 < 0 then some (-13, it, mo) else if nI n - x2 < x5 then some (-13, it, mo) else if x5 ≤ nI n2 - x4 then LX8_shift_102 FU it (nI k) x2 (nI m) x4 x5 FU 0 mo else some (-13, it, mo)) = some (-13, it, mo) := by
      by_cases c1 : x2 < 0
      · rw [if_pos c1]
      · rw [if_neg c1]
        by_cases c2 : x4 < 0
        · rw [if_pos c2]
        · rw [if_neg c2, if_pos (b2.elim (fun z => absurd z c1) id)]
    rw [this]
    exact Or.inl ⟨_, _, rfl, Or.inr (Or.inr (Or.inr (Or.inr (Or.inl ⟨eu, ev, es, e5, b1, rfl⟩))))⟩
  rw [if_neg b5]
  rcases room_or n2 x4 (nI c) n21 e5 with ⟨j, c', rfl, d2, d3, d4, d5, d6⟩ | ⟨d1, d2⟩
  rotate_left
  · have : (if x4 < 0 then some ((-13 : Int32), it, mo) else if nI n - nI i < nI c then some (-13, it, mo) else if nI c ≤ nI n2 - x4 then LX8_shift_102 FU it (nI k) (nI i) (nI m) x4 (nI c) FU 0 mo else some (-13, it, mo)) = some (-13, it, mo) := by
      by_cases c1 : x4 < 0
      · rw [if_pos c1]
      · rw [if_neg c1, if_neg b6, if_neg]
        rcases d2 with d2 | d2
        · exact absurd d2 c1
        · exact Int32.not_le.mpr d2
    rw [this]
    exact Or.inl ⟨_, _, rfl, Or.inr (Or.inr (Or.inr (Or.inr (Or.inr ⟨eu, ev, es, e5, b4, d1, rfl⟩))))⟩
  rw [if_neg d5, if_neg b6, if_pos (Int32.not_lt.mp d6)]
  have ec : c = c' := nI_inj (by omega) (by omega) d2
  subst ec
  obtain ⟨mo', t1, t2⟩ := takeLoop (it := it) (m := m) (j := j) hk (show i + c ≤ 60 by omega) FU 0 mo (by omega) (by unfold FU; omega) (fun z hz => by omega)
  obtain ⟨it', u1, u2, u3⟩ := giveLoop (mo := mo') hm (show j + c ≤ 60 by omega) FU 0 it (by omega) (by unfold FU; omega)
  exact Or.inr ⟨it', mo', i, j, c, eu, ev, es, e5, b4, d4, rfl, rfl, rfl, by omega, by omega, t2.trans u1, fun z hz => (u2 z (Nat.zero_le _) hz).trans (t1 z hz), fun z hz => u3 z (by omega)⟩
theorem gd_room {α : Type} {i j n : Nat} {k : Option α} (h1 : i + n ≤ 60) (h2 : j + n ≤ 60) : gd (¬ nI i < 0 ∧ ¬ nI j < 0 ∧ ¬ nI n < 0 ∧ (nI i).toNatClampNeg + (nI n).toNatClampNeg ≤ 60 ∧ (nI j).toNatClampNeg + (nI n).toNatClampNeg ≤ 60) k = k := by
  apply gd_t
  rw [nI_clamp (by omega), nI_clamp (by omega), nI_clamp (by omega)]
  exact ⟨nnI_lt0 (by omega), nnI_lt0 (by omega), nnI_lt0 (by omega), h1, h2⟩
theorem cpyL_in {f g : AL} {sp dp n j : Nat} (h : dp ≤ j) (h2 : j < dp + n) : va_cpy f g sp dp n j = f (sp + (j - dp)) := pk_cpy_in h h2
theorem cpyL_out {f g : AL} {sp dp n j : Nat} (h : j < dp ∨ dp + n ≤ j) : va_cpy f g sp dp n j = g j := pk_cpy_out h
theorem shift_y {zarr : Nat → Option Nat} {us uz vs vz : Int32} {ui vi it mo : AL} {so le : AI} {k m : Nat} (x2 x4 x5 : Int32) (hk : k < 6) (hm : m < 6) (hu : TP k us uz ui so le it) (hv : TP m vs vz vi so le it) :
    ∃ r vi' it' mo', fX7_shift zarr us uz ui vs vz vi (nI k) x2 (nI m) x4 x5 = some (r, vi') ∧ fX8_shift FU so le it mo (nI k) x2 (nI m) x4 x5 = some (r, it', mo') ∧ TP m vs vz vi' so le it' ∧ TO m so le it so le it' := by
  have hb6 : inb (nI k) 6 := inb_n hk (by decide)
  have hm6 : inb (nI m) 6 := inb_n hm (by decide)
  unfold fX7_shift
  rw [(isTape_y hk).1, (isTape_y hm).1, bd1_s, i1, bd1_s, i1, gd_t hb6, gd_t hm6]
  rcases shift_m (mo := mo) x2 x4 x5 hk hm hu hv with ⟨r, mo', e, h⟩ | ⟨it', mo', i, j, n, q1, q2, q3, q4, q5, q6, rfl, rfl, rfl, q7, q8, e, q9, q10⟩
  · refine ⟨r, vi, it, mo', ?_, e, hv, TO_refl⟩
    rcases h with ⟨q1, rfl⟩ | ⟨q1, q2, rfl⟩ | ⟨q1, q2, q3, rfl⟩ | ⟨q1, q2, q3, q4, rfl⟩ | ⟨q1, q2, q3, q4, q5, rfl⟩ | ⟨q1, q2, q3, q4, q5, q6, rfl⟩
    · rw [if_pos q1]
    · rw [if_neg q1, if_pos q2]
    · rw [if_neg q1, if_neg q2, if_neg q3]
    · rw [if_neg q1, if_neg q2, if_pos q3, if_pos q4]
    · rw [if_neg q1, if_neg q2, if_pos q3, if_neg q4, q5, bd1_s, i0]
    · rw [if_neg q1, if_neg q2, if_pos q3, if_neg q4, q5, bd1_s, i1, q6, bd1_s, i0]
  · rw [if_neg q1, if_neg q2, if_pos q3, if_neg q4, q5, bd1_s, i1, q6, bd1_s, i1, gd_room q7 q8, nI_clamp (by omega), nI_clamp (by omega), nI_clamp (by omega)]
    refine ⟨_, _, _, _, rfl, e, ⟨hv.1, hv.2.1, hv.2.2.1, fun z hz => ?_⟩, fun w hw => ⟨rfl, rfl, fun z hz => q10 _ (by omega)⟩⟩
    by_cases c : j ≤ z ∧ z < j + n
    · rw [cpyL_in c.1 c.2, hu.2.2.2 _ (by omega)]
      have := q9 (z - j) (by omega)
      rw [show 60 * m + j + (z - j) = 60 * m + z by omega] at this
      rw [this]
      congr 1; omega
    · rw [cpyL_out (by omega), hv.2.2.2 z hz, q10 _ (by omega)]
theorem shift_same {zarr : Nat → Option Nat} {us uz : Int32} {ui it mo : AL} {so le : AI} {k : Nat} (x2 x4 x5 : Int32) (hk : k < 6) (hu : TP k us uz ui so le it) :
    ∃ r ui' it' mo', fX7_shiftB zarr us uz ui (nI k) x2 (nI k) x4 x5 = some (r, ui') ∧ fX8_shift FU so le it mo (nI k) x2 (nI k) x4 x5 = some (r, it', mo') ∧ TP k us uz ui' so le it' ∧ TO k so le it so le it' := by
  have hb6 : inb (nI k) 6 := inb_n hk (by decide)
  unfold fX7_shiftB
  rw [(isTape_y hk).1, bd1_s, i1, bd1_s, i1, gd_t hb6, gd_t hb6]
  rcases shift_m (mo := mo) x2 x4 x5 hk hk hu hu with ⟨r, mo', e, h⟩ | ⟨it', mo', i, j, n, q1, q2, q3, q4, q5, q6, rfl, rfl, rfl, q7, q8, e, q9, q10⟩
  · refine ⟨r, ui, it, mo', ?_, e, hu, TO_refl⟩
    rcases h with ⟨q1, rfl⟩ | ⟨q1, q2, rfl⟩ | ⟨q1, q2, q3, rfl⟩ | ⟨q1, q2, q3, q4, rfl⟩ | ⟨q1, q2, q3, q4, q5, rfl⟩ | ⟨q1, q2, q3, q4, q5, q6, rfl⟩
    · rw [if_pos q1]
    · rw [if_neg q1, if_pos q2]
    · rw [if_neg q1, if_neg q2, if_neg q3]
    · rw [if_neg q1, if_neg q2, if_pos q3, if_pos q4]
    · rw [if_neg q1, if_neg q2, if_pos q3, if_neg q4, q5, bd1_s, i0]
    · rw [if_neg q1, if_neg q2, if_pos q3, if_neg q4, q5, bd1_s, i1, q6, bd1_s, i0]
  · rw [if_neg q1, if_neg q2, if_pos q3, if_neg q4, q5, bd1_s, i1, q6, bd1_s, i1, gd_room q7 q8, nI_clamp (by omega), nI_clamp (by omega), nI_clamp (by omega)]
    refine ⟨_, _, _, _, rfl, e, ⟨hu.1, hu.2.1, hu.2.2.1, fun z hz => ?_⟩, fun w hw => ⟨rfl, rfl, fun z hz => q10 _ (by omega)⟩⟩
    by_cases c : j ≤ z ∧ z < j + n
    · rw [cpyL_in c.1 c.2, hu.2.2.2 _ (by omega)]
      have := q9 (z - j) (by omega)
      rw [show 60 * k + j + (z - j) = 60 * k + z by omega] at this
      rw [this]
      congr 1; omega
    · rw [cpyL_out (by omega), hu.2.2.2 z hz, q10 _ (by omega)]
/-! judging -/
theorem judgeLoop {P Lf k n : Nat} {kind v rows len : AI} {q : Q5} {now le : AI} {ui it : AL} {x2 : Int32} (hP : P ≤ 6) (hk : k < 6) (hn : n ≤ 60) (hle : le k = nI n) (hu : ∀ i, i < 60 → ui i = it (60 * k + i)) (h : RM P Lf kind v rows len q now) : ∀ (w t : Nat), t ≤ P → P - t < w → ∃ r, LX7_judged_2 (nI P) q.1 (nI n) ui x2 w (nI t) = some r ∧ LX8_judge_23 now le it (nI k) x2 w (nI t) = some r := by
  have hb6 : inb (nI k) 6 := inb_n hk (by decide)
  intro w
  induction w with
  | zero => intro t _ h; omega
  | succ w ih =>
    intro t ht hw
    rw [LX7_judged_2, LX8_judge_23, h.1]
    by_cases e : t = P
    · subst e
      rw [if_pos (nI_le (Nat.le_refl _) (by omega)), if_pos (nI_le (Nat.le_refl _) (by omega))]
      exact ⟨_, rfl, rfl⟩
    rw [if_neg (nle_nI (by omega) (by omega)), if_neg (nle_nI (by omega) (by omega))]
    by_cases hx : x2 < 0
    · rw [if_pos hx, if_pos hx]; exact ⟨_, rfl, rfl⟩
    rw [if_neg hx, if_neg hx, gd_t hb6, nI_clamp (show k < 2 ^ 31 by omega), hle]
    have z0 : (0 : Int32).toInt = 0 := by decide
    have x0 : 0 ≤ x2.toInt := by have := mt Int32.lt_iff_toInt_lt.mpr hx; omega
    have sx : (nI n - nI t).toInt = n - t := by
      rw [Int32.toInt_sub, nI_toInt (by omega), nI_toInt (by omega)]
      exact Int.bmod_eq_of_le_mul_two (by omega) (by omega)
    have hi : (lg_cmp (x2.toInt64 + (nI t).toInt64) ((nI n).toInt64) < 0) ↔ x2 < nI n - nI t := by
      rw [lg_cmp_lt, Int64.lt_iff_toInt_lt, lg_i2l_add, Int32.lt_iff_toInt_lt, sx, Jvm.Kit.i64_of_i32, nI_toInt (by omega), nI_toInt (by omega)]
      omega
    by_cases hc : x2 < nI n - nI t
    · have hc2 := Int32.lt_iff_toInt_lt.mp hc
      rw [sx] at hc2
      have ex : x2 = nI x2.toInt.toNat := Int32.toInt_inj.mp (by rw [nI_toInt (by omega)]; omega)
      obtain ⟨m, hm⟩ : ∃ m, x2.toInt.toNat = m := ⟨_, rfl⟩
      rw [hm] at ex
      have hmn : m + t < n := by omega
      rw [if_pos (hi.mpr hc), if_pos hc, lg_l2i_add, lg_l2i_i2l, lg_l2i_i2l, ex, nI_add, i60, gd_t (inb_n (by omega) (by decide)), gd_t (inb_n (by omega) (by decide)), gd_t (inb_n (by omega) (by decide)), spot_m (by omega), bd1_s, nI_clamp (by omega), nI_clamp (by omega), nI_clamp (by omega), hu _ (by omega), (h.2.2.2.2.1 t (by omega)).2.2.1]
      by_cases hd : lg_cmp (it (60 * k + (m + t))) (q.1 t).toInt64 = 0
      · rw [if_pos hd, if_pos hd, nI_1, ← ex]; exact ih (t + 1) (by omega) (by omega)
      · rw [if_neg hd, if_neg hd]; exact ⟨_, rfl, rfl⟩
    · rw [if_neg (fun z => hc (hi.mp z)), if_neg hc]; exact ⟨_, rfl, rfl⟩
theorem judge_n {P : Nat} {pl now so le : AI} {zarr : Nat → Option Nat} {us uz : Int32} {ui it : AL} {x1 : Int32} (x2 : Int32) (h : x1 < 0 ∨ nI 6 ≤ x1) : fX7_judge FU (nI P) pl zarr us uz ui x1 x2 = some (-1) ∧ fX8_judge FU now so le it x1 x2 = some (-1) := by
  unfold fX7_judge fX8_judge
  rw [(isTape_n h).1, (isTape_n h).2]
  exact ⟨rfl, rfl⟩
theorem judge_y {P Lf S k : Nat} {kind v rows len : AI} {q : Q5} {now so le : AI} {zarr : Nat → Option Nat} {us uz : Int32} {ui it : AL} (x2 : Int32) (hk : k < 6) (H : HR P Lf S kind v rows len q now) (h : TP k us uz ui so le it) : ∃ r, fX7_judge FU (nI P) q.1 zarr us uz ui (nI k) x2 = some r ∧ fX8_judge FU now so le it (nI k) x2 = some r := by
  have hb6 : inb (nI k) 6 := inb_n hk (by decide)
  obtain ⟨h1, h2, ⟨n, n1, rfl, h3⟩, h4⟩ := h
  have hP := H.1.1
  obtain ⟨r, e1, e2⟩ := judgeLoop (x2 := x2) H.1.1 hk n1 h2 h4 H.2.2.2 FU 0 (by omega) (by unfold FU; omega)
  unfold fX7_judge fX8_judge fX7_judged
  rw [(isTape_y hk).1, (isTape_y hk).2, bd1_s, bd1_s, i1, i1, gd_t hb6, gd_t hb6, nI_clamp (by omega), h1]
  have e1' : LX7_judged_2 (nI P) q.1 (nI n) ui x2 FU 0 = some r := e1
  have e2' : LX8_judge_23 now le it (nI k) x2 FU 0 = some r := e2
  rw [e1', e2', bd1_s]
  rcases h3 with ⟨e, -⟩ | ⟨s, s1, rfl⟩
  · rw [if_pos e, if_pos (by rw [e]; decide)]; exact ⟨_, rfl, rfl⟩
  · rw [if_neg (nI_m1 (by omega))]
    by_cases c : s = 0
    · subst c
      rw [if_pos (show nI 0 = 0 from rfl), if_pos (show nI 0 ≤ 0 by decide)]; exact ⟨_, rfl, rfl⟩
    · rw [if_neg (show ¬ nI s = 0 from nI_ne (b := 0) (by omega) (by omega) c), if_neg (show ¬ nI s ≤ 0 from nle_nI (b := 0) (by omega) (by omega))]; exact ⟨_, rfl, rfl⟩
