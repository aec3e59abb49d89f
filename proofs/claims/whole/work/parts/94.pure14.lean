theorem pOk_mono {P P' Lf : Nat} {f s : AI} (hP : P ≤ P') (h : pOk P Lf f s) : pOk P' Lf f s := by
  intro l hl
  rcases h l hl with z | ⟨a, b, z1, z2, z3⟩
  · exact Or.inl z
  · exact Or.inr ⟨a, b, by omega, by omega, z3⟩
theorem same58_refl {now : AI} : Same58 now now := fun _ _ => rfl
theorem pOk_give {P Lf a b k : Nat} {f s : AI} (h : pOk P Lf f s) (ha : a < P) (hb : b < P) : pOk P Lf (upd f k (nI a)) (upd s k (nI b)) := by
  intro l hl
  by_cases e : l = k
  · subst e; rw [upd_s, upd_s]; exact Or.inr ⟨a, b, ha, hb, rfl, rfl⟩
  · rw [upd_n e, upd_n e]; exact h l hl
theorem leaf_2 {P Lf S : Nat} {kind v rows len : AI} {q : Q5} {now : AI} (x1 : Int32) (H : HR P Lf S kind v rows len q now) :
    ∃ r Lf' len' f' s' now', fX7_leaf (nI Lf) len q.2.1 q.2.2.1 x1 = some (r, nI Lf', len', f', s') ∧ fX8_leaf now x1 = some (r, now') ∧ Lf ≤ Lf' ∧ HR P Lf' S kind v rows len' (q.1, f', s', q.2.2.2) now' ∧ Same58 now now' := by
  obtain ⟨hk, hl, hq, h⟩ := H
  have hP := hk.1
  have hL := hl.1
  unfold fX7_leaf fX8_leaf
  rcases or_in x1 41 (by omega) with e | ⟨k, k1, rfl⟩
  · have e1 : fX8_isIn x1 1 40 = some 0 := by
      unfold fX8_isIn
      by_cases c : x1 < 1
      · rw [if_pos c]
      · rw [if_neg c, if_pos]
        rw [show (40 : Int32) = nI 40 from rfl, nI_lt_succ (by omega)]
        refine e.elim (fun z => absurd ?_ c) id
        have a1 := Int32.lt_iff_toInt_lt.mp z
        rw [Int32.lt_iff_toInt_lt]
        have z0 : (0 : Int32).toInt = 0 := by decide
        have z1 : (1 : Int32).toInt = 1 := by decide
        omega
    rw [e1, bd1_s, i0]
    by_cases c : x1 < 1
    · rw [if_pos c]
      exact ⟨_, _, _, _, _, _, rfl, rfl, Nat.le_refl _, ⟨hk, hl, hq, h⟩, same58_refl⟩
    · have c2 : ¬ x1 ≤ 40 := by
        intro z
        have a1 := Int32.le_iff_toInt_le.mp z
        have a2 := mt Int32.lt_iff_toInt_lt.mpr c
        have z0 : (0 : Int32).toInt = 0 := by decide
        have z1 : (1 : Int32).toInt = 1 := by decide
        have z4 : (40 : Int32).toInt = 40 := by decide
        rcases e with e | e
        · have := Int32.lt_iff_toInt_lt.mp e; omega
        · have := Int32.le_iff_toInt_le.mp e
          rw [nI_toInt (by omega)] at this
          omega
      rw [if_neg c, if_neg c2]
      exact ⟨_, _, _, _, _, _, rfl, rfl, Nat.le_refl _, ⟨hk, hl, hq, h⟩, same58_refl⟩
  · by_cases c : k = 0
    · subst c
      rw [if_pos (show nI 0 < 1 by decide), show fX8_isIn (nI 0) 1 40 = some 0 from rfl, bd1_s, i0]
      exact ⟨_, _, _, _, _, _, rfl, rfl, Nat.le_refl _, ⟨hk, hl, hq, h⟩, same58_refl⟩
    · have c1 : ¬ nI k < 1 := by rw [show (1 : Int32) = nI 1 from rfl, nI_ltI (by omega) (by omega)]; omega
      have c2 : nI k ≤ 40 := nI_le (b := 40) (by omega) (by omega)
      have e1 : fX8_isIn (nI k) 1 40 = some 1 := by
        unfold fX8_isIn
        rw [if_neg c1, if_neg (by rw [show (40 : Int32) = nI 40 from rfl, nI_ltI (by omega) (by omega)]; omega)]
      rw [if_neg c1, if_pos c2, e1, bd1_s, i1, h.2.1]
      by_cases e : Lf = 4
      · subst e
        rw [if_neg (by decide), if_pos (show nI 4 = 4 from rfl)]
        exact ⟨_, _, _, _, _, _, rfl, rfl, Nat.le_refl _, ⟨hk, hl, hq, h⟩, same58_refl⟩
      · have hb : inb (nI Lf) 4 := inb_n (by omega) (by decide)
        have e4 : ¬ nI Lf = 4 := nI_ne (b := 4) (by omega) (by omega) e
        rw [if_pos (show nI Lf < 4 from (nI_ltI (b := 4) (by omega) (by omega)).mpr (by omega)), if_neg e4, i42', gd_t (inb_n (by omega) (by decide)), holds_m (by omega), bd1_s]
        unfold fX2_addLeaf fX2_letGo fX2_give
        rw [gd_t hb, gd_t hb, gd_t hb, bd2_s, bd2_s, bd5_s, nI_clamp (by omega), nI_clamp (by omega), nI_1, nI_pred]
        obtain ⟨h1, h2, h3, h4, h5, h6⟩ := h
        have hx : upd (upd (upd now (42 + 3 * Lf) (nI k)) (43 + 3 * Lf) (-1)) (44 + 3 * Lf) (-1) 55 = nI Lf := by rw [upd_n (by omega), upd_n (by omega), upd_n (by omega)]; exact h2
        rw [hx, nI_1]
        have zlo : ∀ i, i ≠ 55 → (i < 42 + 3 * Lf ∨ 45 + 3 * Lf ≤ i) → (upd (upd (upd (upd now (42 + 3 * Lf) (nI k)) (43 + 3 * Lf) (-1)) (44 + 3 * Lf) (-1)) 55 (nI (Lf + 1))) i = now i := by
          intro i j1 j2
          rw [upd_n j1, upd_n (by omega), upd_n (by omega), upd_n (by omega)]
        refine ⟨_, _, _, _, _, _, rfl, rfl, Nat.le_succ _, ⟨hk, ⟨by omega, fun l hl2 => ?_⟩, ⟨fun l hl2 => ?_, hq.2.1, hq.2.2⟩, by rw [zlo 54 (by omega) (by omega)]; exact h1, upd_s, by rw [zlo 56 (by omega) (by omega)]; exact h3, by rw [zlo 57 (by omega) (by omega)]; exact h4, fun i hi => ?_, fun l hl2 => ?_⟩, fun i hi => zlo i (by omega) (by omega)⟩
        · by_cases e2 : l = Lf
          · subst e2; rw [upd_s]; exact ⟨k, by omega, by omega, rfl⟩
          · rw [upd_n e2]; exact hl.2 l (by omega)
        · show (upd q.2.1 Lf (-5) l = -5 ∧ upd q.2.2.1 Lf (-5) l = -5) ∨ _
          by_cases e2 : l = Lf
          · subst e2; rw [upd_s, upd_s]; exact Or.inl ⟨rfl, rfl⟩
          · rcases hq.1 l (by omega) with z | ⟨a, b, z1, z2, z3, z4⟩
            · rw [upd_n e2, upd_n e2]; exact Or.inl z
            · refine Or.inr ⟨a, b, z1, z2, ?_, ?_⟩
              · show upd q.2.1 Lf (-5) l = nI a
                rw [upd_n e2]; exact z3
              · show upd q.2.2.1 Lf (-5) l = nI b
                rw [upd_n e2]; exact z4
        · obtain ⟨a1, a2, a3, a4⟩ := h5 i hi
          exact ⟨by rw [zlo _ (by omega) (by omega)]; exact a1, by rw [zlo _ (by omega) (by omega)]; exact a2, by rw [zlo _ (by omega) (by omega)]; exact a3, fun k hk => by rw [zlo _ (by omega) (by omega)]; exact a4 k hk⟩
        · by_cases e2 : l = Lf
          · subst e2
            refine ⟨?_, ?_, ?_⟩
            · rw [upd_n (by omega), upd_n (by omega), upd_n (by omega), upd_s, upd_s]
            · show _ = enc (upd q.2.1 l (-5) l)
              rw [upd_n (by omega), upd_n (by omega), upd_s, upd_s]; rfl
            · show _ = enc (upd q.2.2.1 l (-5) l)
              rw [upd_n (by omega), upd_s, upd_s]; rfl
          · obtain ⟨a1, a2, a3⟩ := h6 l (by omega)
            refine ⟨by rw [zlo _ (by omega) (by omega), upd_n e2]; exact a1, ?_, ?_⟩
            · show _ = enc (upd q.2.1 Lf (-5) l)
              rw [zlo _ (by omega) (by omega), upd_n e2]; exact a2
            · show _ = enc (upd q.2.2.1 Lf (-5) l)
              rw [zlo _ (by omega) (by omega), upd_n e2]; exact a3
theorem gap_2 {P Lf S : Nat} {kind v rows len : AI} {q : Q5} {now : AI} (x1 : Int32) (H : HR P Lf S kind v rows len q now) :
    ∃ r, fX7_gap q.1 (nI Lf) len q.2.1 q.2.2.1 x1 = some r ∧ fX8_gap now x1 = some r := by
  obtain ⟨hk, hl, hq, h⟩ := H
  have hP := hk.1
  have hL := hl.1
  unfold fX7_gap fX8_gap
  rcases leaf_or x1 hL h.2.1 with ⟨k, k1, rfl, b1, c1⟩ | ⟨b1, c1⟩
  · rw [b1, c1, bd1_s, bd1_s, i1, i1, isHeld_c (by omega), isHeldR_m hP hL h hq.1 k1, bd1_s, bd1_s]
    by_cases e : q.2.1 k = -5
    · rw [if_pos e, i0, i0]; exact ⟨_, rfl, rfl⟩
    · obtain ⟨a, b, ha, hb, h1, h2⟩ := pOk_first hq.1 k1 e
      rw [if_neg e, i1, i1, gapOf_c (by omega) (by omega) (by omega) h1 h2, gapOf_m hP hL h k1 ha hb h1 h2]
      exact ⟨_, rfl, rfl⟩
  · rw [b1, c1, bd1_s, bd1_s, i0, i0]; exact ⟨_, rfl, rfl⟩
theorem hold_2 {P Lf S : Nat} {kind v rows len : AI} {q : Q5} {now : AI} (x1 x2 x3 : Int32) (H : HR P Lf S kind v rows len q now) :
    ∃ r f' s' now', fX7_hold (nI P) q.1 (nI Lf) len q.2.1 q.2.2.1 x1 x2 x3 = some (r, f', s') ∧ fX8_hold now x1 x2 x3 = some (r, now') ∧ HR P Lf S kind v rows len (q.1, f', s', q.2.2.2) now' ∧ Same58 now now' := by
  have H' := H
  obtain ⟨hk, hl, hq, h⟩ := H
  have hP := hk.1
  have hL := hl.1
  unfold fX7_hold fX8_hold
  rcases leaf_or x1 hL h.2.1 with ⟨k, k1, rfl, b1, c1⟩ | ⟨b1, c1⟩
  rotate_left
  · rw [b1, c1, bd1_s, bd1_s, i0, i0]; exact ⟨_, _, _, _, rfl, rfl, H', same58_refl⟩
  rw [b1, c1, bd1_s, bd1_s, i1, i1]
  rcases person_or x2 hP h.1 with ⟨a, a1, rfl, b2, c2⟩ | ⟨b2, c2⟩
  rotate_left
  · rw [b2, c2, bd1_s, bd1_s, i0, i0]; exact ⟨_, _, _, _, rfl, rfl, H', same58_refl⟩
  rw [b2, c2, bd1_s, bd1_s, i1, i1]
  rcases person_or x3 hP h.1 with ⟨b, b1', rfl, b3, c3⟩ | ⟨b3, c3⟩
  rotate_left
  · rw [b3, c3, bd1_s, bd1_s, i0, i0]; exact ⟨_, _, _, _, rfl, rfl, H', same58_refl⟩
  rw [b3, c3, bd1_s, bd1_s, i1, i1]
  by_cases e : nI a = nI b
  · rw [if_pos e, if_pos e]; exact ⟨_, _, _, _, rfl, rfl, H', same58_refl⟩
  · have r1 := RM_hold (k := k) (f := nI a) (s := nI b) (f' := nI a) (s' := nI b) hP hL h k1 (enc_n (by omega)).symm (enc_n (by omega)).symm
    have ho := pOk_give (k := k) hq.1 a1 b1'
    have hb4 : inb (nI k) 4 := inb_n (by omega) (by decide)
    rw [if_neg e, if_neg e, holds_m (by omega), bd1_s, isTaut_m (q := (q.1, upd q.2.1 k (nI a), upd q.2.2.1 k (nI b), q.2.2.2)) hP hL r1 ho k1, bd1_s]
    unfold fX2_give
    rw [gd_t hb4, gd_t hb4, bd2_s, nI_clamp (by omega), isTaut_c k1 hL (pOk_mono hP ho), bd1_s]
    have H2 : HR P Lf S kind v rows len (q.1, upd q.2.1 k (nI a), upd q.2.2.1 k (nI b), q.2.2.2) (upd (upd now (43 + 3 * k) (nI a)) (44 + 3 * k) (nI b)) := ⟨hk, hl, ⟨ho, hq.2.1, hq.2.2⟩, r1⟩
    have H3 : Same58 now (upd (upd now (43 + 3 * k) (nI a)) (44 + 3 * k) (nI b)) := fun i hi => by rw [upd_n (by omega), upd_n (by omega)]
    show ∃ r f' s' now', (if (if upd q.2.1 k (nI a) k = -5 then (0 : Int32) else if pGap q.1 (upd q.2.1 k (nI a)) (upd q.2.2.1 k (nI b)) len k ≤ 0 then 0 else 1) = 0 then _ else _) = _ ∧ _
    by_cases e2 : (if upd q.2.1 k (nI a) k = -5 then (0 : Int32) else if pGap q.1 (upd q.2.1 k (nI a)) (upd q.2.2.1 k (nI b)) len k ≤ 0 then 0 else 1) = 0
    · rw [if_pos e2, if_pos e2]; exact ⟨_, _, _, _, rfl, rfl, H2, H3⟩
    · rw [if_neg e2, if_neg e2]; exact ⟨_, _, _, _, rfl, rfl, H2, H3⟩
theorem free_2 {P Lf S : Nat} {kind v rows len : AI} {q : Q5} {now : AI} (x1 : Int32) (H : HR P Lf S kind v rows len q now) :
    ∃ r f' s' now', fX7_free (nI Lf) q.2.1 q.2.2.1 x1 = some (r, f', s') ∧ fX8_free now x1 = some (r, now') ∧ HR P Lf S kind v rows len (q.1, f', s', q.2.2.2) now' ∧ Same58 now now' := by
  have H' := H
  obtain ⟨hk, hl, hq, h⟩ := H
  have hP := hk.1
  have hL := hl.1
  unfold fX7_free fX8_free
  rcases leaf_or x1 hL h.2.1 with ⟨k, k1, rfl, b1, c1⟩ | ⟨b1, c1⟩
  rotate_left
  · rw [b1, c1, bd1_s, bd1_s, i0, i0]; exact ⟨_, _, _, _, rfl, rfl, H', same58_refl⟩
  rw [b1, c1, bd1_s, bd1_s, i1, i1, isHeld_c (by omega), isHeldR_m hP hL h hq.1 k1, bd1_s, bd1_s]
  by_cases e : q.2.1 k = -5
  · rw [if_pos e, i0, i0]; exact ⟨_, _, _, _, rfl, rfl, H', same58_refl⟩
  · obtain ⟨a, b, ha, hb, h1, h2⟩ := pOk_first hq.1 k1 e
    have hb4 : inb (nI k) 4 := inb_n (by omega) (by decide)
    have r1 := RM_hold (k := k) (f := -5) (s := -5) (f' := -1) (s' := -1) hP hL h k1 rfl rfl
    rw [if_neg e, i1, i1, holder2_m (by omega), bd1_s, holds_m (by omega), bd1_s, (h.2.2.2.2.2 k k1).2.2, h2, enc_n (by omega), gd_t hb4]
    unfold fX2_letGo fX2_give
    rw [gd_t hb4, gd_t hb4, bd2_s, bd2_s, nI_clamp (by omega), h2]
    exact ⟨_, _, _, _, rfl, rfl, ⟨hk, hl, ⟨pOk_let hq.1 k, hq.2.1, hq.2.2⟩, r1⟩, fun i hi => by rw [upd_n (by omega), upd_n (by omega)]⟩
theorem walk_2 {P Lf S : Nat} {kind v rows len : AI} {q : Q5} {now : AI} (x1 x2 : Int32) (H : HR P Lf S kind v rows len q now) :
    ∃ r p' now', fX7_walk (nI P) q.1 x1 x2 = some (r, p') ∧ fX8_walk now x1 x2 = some (r, now') ∧ HR P Lf S kind v rows len (p', q.2) now' ∧ Same58 now now' := by
  have H' := H
  obtain ⟨hk, hl, hq, h⟩ := H
  have hP := hk.1
  have hL := hl.1
  unfold fX7_walk fX8_walk
  rw [show (99 : Int32) = nI 99 from rfl]
  rcases person_or x1 hP h.1 with ⟨k, k1, rfl, b1, c1⟩ | ⟨b1, c1⟩
  rotate_left
  · rw [b1, c1, bd1_s, bd1_s, i0, i0]; exact ⟨_, _, _, rfl, rfl, H', same58_refl⟩
  rw [b1, c1, bd1_s, bd1_s, i1, i1]
  rcases within_or x2 99 (by omega) with ⟨a, a1, rfl, b2, c2⟩ | ⟨b2, c2⟩
  rotate_left
  · rw [b2, c2, bd1_s, bd1_s, i0, i0]; exact ⟨_, _, _, rfl, rfl, H', same58_refl⟩
  have hb4 : inb (nI k) 6 := inb_n (by omega) (by decide)
  rw [b2, c2, bd1_s, bd1_s, i1, i1, gd_t hb4, gd_t hb4, changeS_m (by omega), bd2_s, nI_clamp (by omega), (h.2.2.2.2.1 k k1).2.2.1]
  refine ⟨_, _, _, rfl, rfl, ⟨hk, hl, ⟨hq.1, fun i hi => ?_, hq.2.2⟩, RM_place hP h k1⟩, fun i hi => by rw [upd_n (by omega)]⟩
  show bnd (upd q.1 k (nI a) i) 100
  by_cases e2 : i = k
  · subst e2; rw [upd_s]; exact ⟨a, a1, rfl⟩
  · rw [upd_n e2]; exact hq.2.1 i hi
theorem row_2 {P Lf S : Nat} {kind v rows len : AI} {q : Q5} {now : AI} (x1 x2 x3 : Int32) (H : HR P Lf S kind v rows len q now) :
    ∃ r w' now', fX7_row (nI P) kind rows x1 x2 x3 = some (r, w') ∧ fX8_row now x1 x2 x3 = some (r, now') ∧ HR P Lf S kind v w' len q now' ∧ Same58 now now' := by
  have H' := H
  obtain ⟨hk, hl, hq, h⟩ := H
  have hP := hk.1
  have hL := hl.1
  unfold fX7_row fX8_row
  rw [show fX7_isWithin x2 3 = fX7_isWithin x2 (nI 3) from rfl, show fX8_isIn x2 0 3 = fX8_isIn x2 0 (nI 3) from rfl, show (9 : Int32) = nI 9 from rfl]
  rcases person_or x1 hP h.1 with ⟨k, k1, rfl, b1, c1⟩ | ⟨b1, c1⟩
  rotate_left
  · rw [b1, c1, bd1_s, bd1_s, i0, i0]; exact ⟨_, _, _, rfl, rfl, H', same58_refl⟩
  rw [b1, c1, bd1_s, bd1_s, i1, i1]
  rcases within_or x2 3 (by omega) with ⟨a, a1, rfl, b2, c2⟩ | ⟨b2, c2⟩
  rotate_left
  · rw [b2, c2, bd1_s, bd1_s, i0, i0]; exact ⟨_, _, _, rfl, rfl, H', same58_refl⟩
  rw [b2, c2, bd1_s, bd1_s, i1, i1]
  rcases within_or x3 9 (by omega) with ⟨b, b1', rfl, b3, c3⟩ | ⟨b3, c3⟩
  rotate_left
  · rw [b3, c3, bd1_s, bd1_s, i0, i0]; exact ⟨_, _, _, rfl, rfl, H', same58_refl⟩
  have hb6 : inb (nI k) 6 := inb_n (by omega) (by decide)
  obtain ⟨g1, g2, g3, g4⟩ := h.2.2.2.2.1 k k1
  have n0 : fX8_number now (nI k) 0 = some (kind k) := by have z : fX8_number now (nI k) 0 = some (now (7 * k + 0)) := number_m (k := 0) (by omega); rw [z, Nat.add_zero, g1]
  rw [b3, c3, bd1_s, bd1_s, i1, i1, gd_t hb6, nI_clamp (by omega), n0, bd1_s]
  by_cases e : kind k = 6
  · have e1 : nI k * 4 + nI a = nI (4 * k + a) := by rw [show (4 : Int32) = nI 4 from rfl, pk_mul, nI_add, Nat.mul_comm]
    have hb24 : inb (nI (4 * k + a)) 24 := inb_n (by omega) (by decide)
    have c4 : fX8_change now (nI k) (3 + nI a) (nI b) = some (now (7 * k + (3 + a)), upd now (7 * k + (3 + a)) (nI b)) := by
      rw [show (3 : Int32) = nI 3 from rfl, nI_add]; exact change_m (by omega)
    rw [if_pos e, if_pos e, e1, gd_t hb24, gd_t hb24, c4, bd2_s, nI_clamp (by omega), ← g4 a (by omega), Nat.add_assoc]
    obtain ⟨h1, h2, h3, h4, h5, h6⟩ := h
    refine ⟨_, _, _, rfl, rfl, ⟨⟨hk.1, hk.2.1, fun j hj hj2 => ?_⟩, hl, hq, by rw [upd_n (by omega)]; exact h1, by rw [upd_n (by omega)]; exact h2, by rw [upd_n (by omega)]; exact h3, by rw [upd_n (by omega)]; exact h4, fun i hi => ?_, fun l hl2 => ?_⟩, fun i hi => by rw [upd_n (by omega)]⟩
    · rw [upd_n (by omega)]; exact hk.2.2 j hj hj2
    · obtain ⟨y1, y2, y3, y4⟩ := h5 i hi
      refine ⟨by rw [upd_n (by omega)]; exact y1, by rw [upd_n (by omega)]; exact y2, by rw [upd_n (by omega)]; exact y3, fun z hz => ?_⟩
      by_cases e2 : i = k ∧ z = a
      · obtain ⟨rfl, rfl⟩ := e2
        rw [show 7 * i + 3 + z = 7 * i + (3 + z) by omega, upd_s, upd_s]
      · rw [upd_n (by omega), upd_n (by omega)]; exact y4 z hz
    · obtain ⟨y1, y2, y3⟩ := h6 l hl2
      exact ⟨by rw [upd_n (by omega)]; exact y1, by rw [upd_n (by omega)]; exact y2, by rw [upd_n (by omega)]; exact y3⟩
  · rw [if_neg e, if_neg e]; exact ⟨_, _, _, rfl, rfl, H', same58_refl⟩
