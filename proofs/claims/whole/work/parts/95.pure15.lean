/-! ===== what is told by hand ===== -/
def NR (P Lf : Nat) (sc : Int32) (sl ss st : AI) (pc : Int32) (pw po : AI) (bc : Int32) (bp bl : AI) (now : AI) : Prop :=
  (∃ a : Nat, a ≤ 5 ∧ sc = nI a ∧ now 59 = nI a ∧ ∀ i, i < a → bnd (sl i) Lf ∧ bnd (ss i) 13 ∧ bnd (st i) 2 ∧ now (60 + 3 * i) = sl i ∧ now (60 + 3 * i + 1) = ss i ∧ now (60 + 3 * i + 2) = st i) ∧
  (∃ b : Nat, b ≤ 10 ∧ pc = nI b ∧ now 75 = nI b ∧ ∀ i, i < b → now (76 + 2 * i) = pw i ∧ now (77 + 2 * i) = po i ∧ (pw i = 0 ∨ ((pw i = 1 ∨ pw i = 2) ∧ bnd (po i) Lf) ∨ (pw i = 3 ∧ bnd (po i) P))) ∧
  ∃ c : Nat, c ≤ 8 ∧ bc = nI c ∧ now 96 = nI c ∧ ∀ i, i < c → bnd (bp i) P ∧ now (97 + 2 * i) = bp i ∧ now (98 + 2 * i) = bl i
theorem bnd_mono {x : Int32} {a b : Nat} (h : a ≤ b) (hx : bnd x a) : bnd x b := by
  obtain ⟨k, k1, k2⟩ := hx
  exact ⟨k, by omega, k2⟩
theorem NR_mono {P P' Lf Lf' : Nat} {sc pc bc : Int32} {sl ss st pw po bp bl now : AI} (hP : P ≤ P') (hL : Lf ≤ Lf') (h : NR P Lf sc sl ss st pc pw po bc bp bl now) : NR P' Lf' sc sl ss st pc pw po bc bp bl now := by
  obtain ⟨⟨a, a1, a2, a3, a4⟩, ⟨b, b1, b2, b3, b4⟩, c, c1, c2, c3, c4⟩ := h
  refine ⟨⟨a, a1, a2, a3, fun i hi => ?_⟩, ⟨b, b1, b2, b3, fun i hi => ?_⟩, c, c1, c2, c3, fun i hi => ?_⟩
  · obtain ⟨z1, z2⟩ := a4 i hi
    exact ⟨bnd_mono hL z1, z2⟩
  · obtain ⟨z1, z2, z3⟩ := b4 i hi
    refine ⟨z1, z2, ?_⟩
    rcases z3 with z | ⟨z, y⟩ | ⟨z, y⟩
    · exact Or.inl z
    · exact Or.inr (Or.inl ⟨z, bnd_mono hL y⟩)
    · exact Or.inr (Or.inr ⟨z, bnd_mono hP y⟩)
  · obtain ⟨z1, z2⟩ := c4 i hi
    exact ⟨bnd_mono hP z1, z2⟩
theorem NR_same {P Lf : Nat} {sc pc bc : Int32} {sl ss st pw po bp bl now now' : AI} (hs : Same58 now now') (h : NR P Lf sc sl ss st pc pw po bc bp bl now) : NR P Lf sc sl ss st pc pw po bc bp bl now' := by
  obtain ⟨⟨a, a1, a2, a3, a4⟩, ⟨b, b1, b2, b3, b4⟩, c, c1, c2, c3, c4⟩ := h
  refine ⟨⟨a, a1, a2, (hs 59 (by omega)).trans a3, fun i hi => ?_⟩, ⟨b, b1, b2, (hs 75 (by omega)).trans b3, fun i hi => ?_⟩, c, c1, c2, (hs 96 (by omega)).trans c3, fun i hi => ?_⟩
  · obtain ⟨z1, z2, z3, z4, z5, z6⟩ := a4 i hi
    exact ⟨z1, z2, z3, (hs _ (by omega)).trans z4, (hs _ (by omega)).trans z5, (hs _ (by omega)).trans z6⟩
  · obtain ⟨z1, z2, z3⟩ := b4 i hi
    exact ⟨(hs _ (by omega)).trans z1, (hs _ (by omega)).trans z2, z3⟩
  · obtain ⟨z1, z2, z3⟩ := c4 i hi
    exact ⟨z1, (hs _ (by omega)).trans z2, (hs _ (by omega)).trans z3⟩
/-- only cells from 59 on change -/
def Lo59 (now now' : AI) : Prop := ∀ i, i < 59 → now' i = now i
theorem RM_lo {P Lf : Nat} {kind v rows len : AI} {q : Q5} {now now' : AI} (hP : P ≤ 6) (hL : Lf ≤ 4) (hs : Lo59 now now') (h : RM P Lf kind v rows len q now) : RM P Lf kind v rows len q now' := by
  obtain ⟨h1, h2, h3, h4, h5, h6⟩ := h
  refine ⟨(hs _ (by omega)).trans h1, (hs _ (by omega)).trans h2, (hs _ (by omega)).trans h3, (hs _ (by omega)).trans h4, fun i hi => ?_, fun l hl => ?_⟩
  · obtain ⟨y1, y2, y3, y4⟩ := h5 i hi
    exact ⟨(hs _ (by omega)).trans y1, (hs _ (by omega)).trans y2, (hs _ (by omega)).trans y3, fun k hk => (hs _ (by omega)).trans (y4 k hk)⟩
  · obtain ⟨y1, y2, y3⟩ := h6 l hl
    exact ⟨(hs _ (by omega)).trans y1, (hs _ (by omega)).trans y2, (hs _ (by omega)).trans y3⟩
theorem HR_lo {P Lf S : Nat} {kind v rows len : AI} {q : Q5} {now now' : AI} (hs : Lo59 now now') (h : HR P Lf S kind v rows len q now) : HR P Lf S kind v rows len q now' := ⟨h.1, h.2.1, h.2.2.1, RM_lo h.1.1 h.2.1.1 hs h.2.2.2⟩
theorem nar_bool {x : Int32} (h : x = 0 ∨ x = 1) : vp_nar .boolean x = x := by
  rcases h with rfl | rfl <;> decide
theorem see_2 {P Lf : Nat} {sc pc bc : Int32} {sl ss st pw po bp bl now : AI} (x1 x2 x3 : Int32) (hx3 : x3 = 0 ∨ x3 = 1) (hL : Lf ≤ 4) (h55 : now 55 = nI Lf) (H : NR P Lf sc sl ss st pc pw po bc bp bl now) :
    ∃ r sc' sl' ss' st' now', fX7_see (nI Lf) sc sl ss st x1 x2 x3 = some (r, sc', sl', ss', st') ∧ fX8_see now x1 x2 x3 = some (r, now') ∧ NR P Lf sc' sl' ss' st' pc pw po bc bp bl now' ∧ Lo59 now now' := by
  have H' := H
  obtain ⟨⟨a, a1, rfl, a3, a4⟩, ⟨b, b1, b2, b3, b4⟩, c, c1, c2, c3, c4⟩ := H
  unfold fX7_see fX8_see
  by_cases e : x1 = -1
  · rw [if_pos e, if_pos e]
    refine ⟨_, _, _, _, _, _, rfl, rfl, ⟨⟨0, by omega, rfl, upd_s, fun i hi => by omega⟩, ⟨b, b1, b2, by rw [upd_n (by omega)]; exact b3, fun i hi => ?_⟩, c, c1, c2, by rw [upd_n (by omega)]; exact c3, fun i hi => ?_⟩, fun i hi => upd_n (by omega)⟩
    · rw [upd_n (by omega), upd_n (by omega)]; exact b4 i hi
    · rw [upd_n (by omega), upd_n (by omega)]; exact c4 i hi
  rw [if_neg e, if_neg e, show (12 : Int32) = nI 12 from rfl]
  rcases leaf_or x1 hL h55 with ⟨k, k1, rfl, d1, d2⟩ | ⟨d1, d2⟩
  rotate_left
  · rw [d1, d2, bd1_s, bd1_s, i0, i0]; exact ⟨_, _, _, _, _, _, rfl, rfl, H', fun _ _ => rfl⟩
  rw [d1, d2, bd1_s, bd1_s, i1, i1]
  rcases within_or x2 12 (by omega) with ⟨n, n1, rfl, d3, d4⟩ | ⟨d3, d4⟩
  rotate_left
  · rw [d3, d4, bd1_s, bd1_s, i0, i0]; exact ⟨_, _, _, _, _, _, rfl, rfl, H', fun _ _ => rfl⟩
  rw [d3, d4, bd1_s, bd1_s, i1, i1, a3]
  by_cases e5 : a = 5
  · subst e5
    rw [if_neg (by decide), if_pos (show nI 5 = 5 from rfl)]
    exact ⟨_, _, _, _, _, _, rfl, rfl, H', fun _ _ => rfl⟩
  · have ea : 60 + 3 * nI a = nI (60 + 3 * a) := by rw [show (3 : Int32) = nI 3 from rfl, show (60 : Int32) = nI 60 from rfl, pk_mul, nI_add]
    have ea1 : nI (60 + 3 * a) + 2 = nI (60 + 3 * a + 2) := by rw [show (2 : Int32) = nI 2 from rfl, nI_add]
    have hb5 : inb (nI a) 5 := inb_n (by omega) (by decide)
    rw [if_pos (show nI a < 5 from (nI_ltI (b := 5) (by omega) (by omega)).mpr (by omega)), if_neg (show ¬ nI a = 5 from nI_ne (b := 5) (by omega) (by omega) e5), ea, gd_t (inb_n (by omega) (by decide)), nI_1, ea1, gd_t (inb_n (by omega) (by decide))]
    unfold fX5_addSeen
    rw [gd_t hb5, gd_t hb5, gd_t hb5, bd5_s, nI_clamp (show a < 2 ^ 31 by omega), nI_1, nar_bool hx3]
    have hM : ∀ y : Int32, y = x3 → NR P Lf (nI (a + 1)) (upd sl a (nI k)) (upd ss a (nI n)) (upd st a x3) pc pw po bc bp bl (upd (upd (upd (upd now (60 + 3 * a) (nI k)) (60 + 3 * a + 1) (nI n)) (60 + 3 * a + 2) y) 59 (nI (a + 1))) := by
      rintro y rfl
      refine ⟨⟨a + 1, by omega, rfl, upd_s, fun i hi => ?_⟩, ⟨b, b1, b2, by rw [upd_n (by omega), upd_n (by omega), upd_n (by omega), upd_n (by omega)]; exact b3, fun i hi => ?_⟩, c, c1, c2, by rw [upd_n (by omega), upd_n (by omega), upd_n (by omega), upd_n (by omega)]; exact c3, fun i hi => ?_⟩
      · by_cases e2 : i = a
        · subst e2
          refine ⟨by rw [upd_s]; exact ⟨k, k1, rfl⟩, by rw [upd_s]; exact ⟨n, n1, rfl⟩, ?_, ?_, ?_, ?_⟩
          · rw [upd_s]; exact hx3.elim (fun z => ⟨0, by omega, z⟩) (fun z => ⟨1, by omega, z⟩)
          · rw [upd_n (by omega), upd_n (by omega), upd_n (by omega), upd_s, upd_s]
          · rw [upd_n (by omega), upd_n (by omega), upd_s, upd_s]
          · rw [upd_n (by omega), upd_s, upd_s]
        · rw [upd_n e2, upd_n e2, upd_n e2]
          obtain ⟨z1, z2, z3, z4, z5, z6⟩ := a4 i (by omega)
          refine ⟨z1, z2, z3, ?_, ?_, ?_⟩
          · rw [upd_n (by omega), upd_n (by omega), upd_n (by omega), upd_n (by omega)]; exact z4
          · rw [upd_n (by omega), upd_n (by omega), upd_n (by omega), upd_n (by omega)]; exact z5
          · rw [upd_n (by omega), upd_n (by omega), upd_n (by omega), upd_n (by omega)]; exact z6
      · rw [upd_n (by omega), upd_n (by omega), upd_n (by omega), upd_n (by omega), upd_n (by omega), upd_n (by omega), upd_n (by omega), upd_n (by omega)]; exact b4 i hi
      · rw [upd_n (by omega), upd_n (by omega), upd_n (by omega), upd_n (by omega), upd_n (by omega), upd_n (by omega), upd_n (by omega), upd_n (by omega)]; exact c4 i hi
    have h59 : ∀ y : Int32, upd (upd (upd now (60 + 3 * a) (nI k)) (60 + 3 * a + 1) (nI n)) (60 + 3 * a + 2) y 59 = nI a := by
      intro y
      rw [upd_n (by omega), upd_n (by omega), upd_n (by omega)]; exact a3
    have hlo : ∀ y : Int32, Lo59 now (upd (upd (upd (upd now (60 + 3 * a) (nI k)) (60 + 3 * a + 1) (nI n)) (60 + 3 * a + 2) y) 59 (nI (a + 1))) := fun y i hi => by
      rw [upd_n (by omega), upd_n (by omega), upd_n (by omega), upd_n (by omega)]
    rcases hx3 with e3 | e3
    · rw [if_pos e3, gd_t (inb_n (by omega) (by decide)), nI_clamp (by omega), nI_clamp (by omega), nI_clamp (by omega), h59, nI_1, upd_s]
      exact ⟨_, _, _, _, _, _, rfl, rfl, hM 0 e3.symm, hlo _⟩
    · rw [if_neg (by rw [e3]; decide), gd_t (inb_n (by omega) (by decide)), nI_clamp (by omega), nI_clamp (by omega), nI_clamp (by omega), h59, nI_1, upd_s]
      exact ⟨_, _, _, _, _, _, rfl, rfl, hM 1 e3.symm, hlo _⟩
theorem book_2 {P Lf : Nat} {sc pc bc : Int32} {sl ss st pw po bp bl now : AI} (x1 x2 : Int32) (hP : P ≤ 6) (h54 : now 54 = nI P) (H : NR P Lf sc sl ss st pc pw po bc bp bl now) :
    ∃ r bc' bp' bl' now', fX7_book (nI P) bc bp bl x1 x2 = some (r, bc', bp', bl') ∧ fX8_book now x1 x2 = some (r, now') ∧ NR P Lf sc sl ss st pc pw po bc' bp' bl' now' ∧ Lo59 now now' := by
  have H' := H
  obtain ⟨⟨a, a1, a2, a3, a4⟩, ⟨b, b1, b2, b3, b4⟩, c, c1, rfl, c3, c4⟩ := H
  unfold fX7_book fX8_book
  by_cases e : x1 = -1
  · rw [if_pos e, if_pos e]
    refine ⟨_, _, _, _, _, rfl, rfl, ⟨⟨a, a1, a2, by rw [upd_n (by omega)]; exact a3, fun i hi => ?_⟩, ⟨b, b1, b2, by rw [upd_n (by omega)]; exact b3, fun i hi => ?_⟩, 0, by omega, rfl, upd_s, fun i hi => by omega⟩, fun i hi => upd_n (by omega)⟩
    · rw [upd_n (by omega), upd_n (by omega), upd_n (by omega)]; exact a4 i hi
    · rw [upd_n (by omega), upd_n (by omega)]; exact b4 i hi
  rw [if_neg e, if_neg e, show (99 : Int32) = nI 99 from rfl]
  rcases person_or x1 hP h54 with ⟨k, k1, rfl, d1, d2⟩ | ⟨d1, d2⟩
  rotate_left
  · rw [d1, d2, bd1_s, bd1_s, i0, i0]; exact ⟨_, _, _, _, _, rfl, rfl, H', fun _ _ => rfl⟩
  rw [d1, d2, bd1_s, bd1_s, i1, i1]
  rcases within_or x2 99 (by omega) with ⟨n, n1, rfl, d3, d4⟩ | ⟨d3, d4⟩
  rotate_left
  · rw [d3, d4, bd1_s, bd1_s, i0, i0]; exact ⟨_, _, _, _, _, rfl, rfl, H', fun _ _ => rfl⟩
  rw [d3, d4, bd1_s, bd1_s, i1, i1, c3]
  by_cases e5 : c = 8
  · subst e5
    rw [if_neg (by decide), if_pos (show nI 8 = 8 from rfl)]
    exact ⟨_, _, _, _, _, rfl, rfl, H', fun _ _ => rfl⟩
  · have ea : 97 + 2 * nI c = nI (97 + 2 * c) := by rw [show (2 : Int32) = nI 2 from rfl, show (97 : Int32) = nI 97 from rfl, pk_mul, nI_add]
    have ea1 : 98 + 2 * nI c = nI (98 + 2 * c) := by rw [show (2 : Int32) = nI 2 from rfl, show (98 : Int32) = nI 98 from rfl, pk_mul, nI_add]
    have hb5 : inb (nI c) 8 := inb_n (by omega) (by decide)
    have u1 : upd now (97 + 2 * c) (nI k) 96 = nI c := by rw [upd_n (by omega)]; exact c3
    have u2 : upd (upd now (97 + 2 * c) (nI k)) (98 + 2 * c) (nI n) 96 = nI c := by rw [upd_n (by omega)]; exact u1
    rw [if_pos (show nI c < 8 from (nI_ltI (b := 8) (by omega) (by omega)).mpr (by omega)), if_neg (show ¬ nI c = 8 from nI_ne (b := 8) (by omega) (by omega) e5), ea, gd_t (inb_n (by omega) (by decide))]
    simp only [nI_clamp (show 97 + 2 * c < 2 ^ 31 by omega), u1, ea1, nI_clamp (show 98 + 2 * c < 2 ^ 31 by omega), u2, nI_1, upd_s]
    rw [gd_t (inb_n (by omega) (by decide))]
    unfold fX5_addBook
    rw [gd_t hb5, gd_t hb5, bd4_s, nI_clamp (show c < 2 ^ 31 by omega), nI_1]
    refine ⟨_, _, _, _, _, rfl, rfl, ⟨⟨a, a1, a2, by rw [upd_n (by omega), upd_n (by omega), upd_n (by omega)]; exact a3, fun i hi => ?_⟩, ⟨b, b1, b2, by rw [upd_n (by omega), upd_n (by omega), upd_n (by omega)]; exact b3, fun i hi => ?_⟩, c + 1, by omega, rfl, upd_s, fun i hi => ?_⟩, fun i hi => by rw [upd_n (by omega), upd_n (by omega), upd_n (by omega)]⟩
    · rw [upd_n (by omega), upd_n (by omega), upd_n (by omega), upd_n (by omega), upd_n (by omega), upd_n (by omega), upd_n (by omega), upd_n (by omega), upd_n (by omega)]; exact a4 i hi
    · rw [upd_n (by omega), upd_n (by omega), upd_n (by omega), upd_n (by omega), upd_n (by omega), upd_n (by omega)]; exact b4 i hi
    · by_cases e2 : i = c
      · subst e2
        exact ⟨by rw [upd_s]; exact ⟨k, k1, rfl⟩, by rw [upd_n (by omega), upd_n (by omega), upd_s, upd_s], by rw [upd_n (by omega), upd_s, upd_s]⟩
      · rw [upd_n e2, upd_n e2, upd_n (by omega), upd_n (by omega), upd_n (by omega), upd_n (by omega), upd_n (by omega), upd_n (by omega)]; exact c4 i (by omega)
theorem isPlanRow_c {P Lf : Nat} {x1 x2 : Int32} : fX7_isPlanRow (nI P) (nI Lf) x1 x2 = if x1 = 0 then some 1 else if x1 = 1 ∨ x1 = 2 then fX2_isLeaf (nI Lf) x2 else if x1 = 3 then fX2_isPerson (nI P) x2 else some 0 := by
  have hl : bd1 (fX2_isLeaf (nI Lf) x2) (fun r39 => gd (r39 = 0 ∨ r39 = 1) (some r39)) = fX2_isLeaf (nI Lf) x2 := by
    unfold fX2_isLeaf
    repeat' split
    all_goals rfl
  have hp : bd1 (fX2_isPerson (nI P) x2) (fun r39 => gd (r39 = 0 ∨ r39 = 1) (some r39)) = fX2_isPerson (nI P) x2 := by
    unfold fX2_isPerson
    repeat' split
    all_goals rfl
  unfold fX7_isPlanRow
  rw [hl, hp]
  by_cases e0 : x1 = 0
  · rw [if_pos e0, if_pos e0]
  rw [if_neg e0, if_neg e0]
  by_cases e1 : x1 = 1
  · rw [if_pos e1, if_pos (Or.inl e1)]
  rw [if_neg e1]
  by_cases e2 : x1 = 2
  · rw [if_pos e2, if_pos (Or.inr e2)]
  rw [if_neg e2, if_neg (show ¬ (x1 = 1 ∨ x1 = 2) from fun z => z.elim e1 e2)]
noncomputable def planT (now : AI) (x1 x2 : Int32) : Option (Int32 × AI) := if now 75 = 10 then some (-4, now) else gd (inb (76 + 2 * now 75) 113) (gd (inb (77 + 2 * upd now (76 + 2 * now 75).toNatClampNeg x1 75) 113) (some (upd (upd (upd now (76 + 2 * now 75).toNatClampNeg x1) (77 + 2 * upd now (76 + 2 * now 75).toNatClampNeg x1 75).toNatClampNeg x2) 75 (upd (upd now (76 + 2 * now 75).toNatClampNeg x1) (77 + 2 * upd now (76 + 2 * now 75).toNatClampNeg x1 75).toNatClampNeg x2 75 + 1) 75, upd (upd (upd now (76 + 2 * now 75).toNatClampNeg x1) (77 + 2 * upd now (76 + 2 * now 75).toNatClampNeg x1 75).toNatClampNeg x2) 75 (upd (upd now (76 + 2 * now 75).toNatClampNeg x1) (77 + 2 * upd now (76 + 2 * now 75).toNatClampNeg x1 75).toNatClampNeg x2 75 + 1))))
theorem plan_e {now : AI} {x1 x2 : Int32} : fX8_plan now x1 x2 = if x1 = -1 then some (0, upd now 75 0) else if x1 = 0 then planT now x1 x2 else if x1 = 1 ∨ x1 = 2 then bd1 (fX8_isLeaf now x2) (fun r => if r = 0 then some (-1, now) else planT now x1 x2) else if x1 = 3 then bd1 (fX8_isOne now x2) (fun r => if r = 0 then some (-1, now) else planT now x1 x2) else some (-1, now) := by
  unfold fX8_plan planT
  by_cases em : x1 = -1
  · rw [if_pos em, if_pos em]
  rw [if_neg em, if_neg em]
  by_cases e0 : x1 = 0
  · rw [if_pos e0, if_pos e0]
  rw [if_neg e0, if_neg e0]
  by_cases e1 : x1 = 1
  · have e3 : ¬ x1 = 3 := by rw [e1]; decide
    rw [if_pos e1, if_pos (Or.inl e1)]
    simp only [if_neg e3]
  rw [if_neg e1]
  by_cases e2 : x1 = 2
  · have e3 : ¬ x1 = 3 := by rw [e2]; decide
    rw [if_pos e2, if_pos (Or.inr e2)]
    simp only [if_neg e3]
  rw [if_neg e2, if_neg (show ¬ (x1 = 1 ∨ x1 = 2) from fun z => z.elim e1 e2)]
theorem plan_2 {P Lf : Nat} {sc pc bc : Int32} {sl ss st pw po bp bl now : AI} (x1 x2 : Int32) (hP : P ≤ 6) (hL : Lf ≤ 4) (h54 : now 54 = nI P) (h55 : now 55 = nI Lf) (H : NR P Lf sc sl ss st pc pw po bc bp bl now) :
    ∃ r pc' pw' po' now', fX7_plan (nI P) (nI Lf) pc pw po x1 x2 = some (r, pc', pw', po') ∧ fX8_plan now x1 x2 = some (r, now') ∧ NR P Lf sc sl ss st pc' pw' po' bc bp bl now' ∧ Lo59 now now' := by
  have H' := H
  obtain ⟨⟨a, a1, a2, a3, a4⟩, ⟨b, b1, rfl, b3, b4⟩, c, c1, c2, c3, c4⟩ := H
  rw [plan_e]
  unfold fX7_plan
  rw [isPlanRow_c]
  by_cases e : x1 = -1
  · rw [if_pos e, if_pos e]
    refine ⟨_, _, _, _, _, rfl, rfl, ⟨⟨a, a1, a2, by rw [upd_n (by omega)]; exact a3, fun i hi => ?_⟩, ⟨0, by omega, rfl, upd_s, fun i hi => by omega⟩, c, c1, c2, by rw [upd_n (by omega)]; exact c3, fun i hi => ?_⟩, fun i hi => upd_n (by omega)⟩
    · rw [upd_n (by omega), upd_n (by omega), upd_n (by omega)]; exact a4 i hi
    · rw [upd_n (by omega), upd_n (by omega)]; exact c4 i hi
  rw [if_neg e, if_neg e]
  have hT : (x1 = 0 ∨ ((x1 = 1 ∨ x1 = 2) ∧ bnd x2 Lf) ∨ (x1 = 3 ∧ bnd x2 P)) → ∃ r pc' pw' po' now', (if nI b < 10 then bd4 (fX5_addPlan (nI b) pw po x1 x2) (fun r47 nplanCount_47 nplanWhat_47 nplanOf_47 => some (r47, nplanCount_47, nplanWhat_47, nplanOf_47)) else some (-4, nI b, pw, po)) = some (r, pc', pw', po') ∧ planT now x1 x2 = some (r, now') ∧ NR P Lf sc sl ss st pc' pw' po' bc bp bl now' ∧ Lo59 now now' := by
    intro hrow
    unfold planT
    rw [b3]
    by_cases e5 : b = 10
    · subst e5
      rw [if_neg (by decide), if_pos (show nI 10 = 10 from rfl)]
      exact ⟨_, _, _, _, _, rfl, rfl, H', fun _ _ => rfl⟩
    · have ea : 76 + 2 * nI b = nI (76 + 2 * b) := by rw [show (2 : Int32) = nI 2 from rfl, show (76 : Int32) = nI 76 from rfl, pk_mul, nI_add]
      have ea1 : 77 + 2 * nI b = nI (77 + 2 * b) := by rw [show (2 : Int32) = nI 2 from rfl, show (77 : Int32) = nI 77 from rfl, pk_mul, nI_add]
      have hb5 : inb (nI b) 10 := inb_n (by omega) (by decide)
      have u1 : upd now (76 + 2 * b) x1 75 = nI b := by rw [upd_n (by omega)]; exact b3
      have u2 : upd (upd now (76 + 2 * b) x1) (77 + 2 * b) x2 75 = nI b := by rw [upd_n (by omega)]; exact u1
      rw [if_pos (show nI b < 10 from (nI_ltI (b := 10) (by omega) (by omega)).mpr (by omega)), if_neg (show ¬ nI b = 10 from nI_ne (b := 10) (by omega) (by omega) e5), ea, gd_t (inb_n (by omega) (by decide))]
      simp only [nI_clamp (show 76 + 2 * b < 2 ^ 31 by omega), u1, ea1, nI_clamp (show 77 + 2 * b < 2 ^ 31 by omega), u2, nI_1, upd_s]
      rw [gd_t (inb_n (by omega) (by decide))]
      unfold fX5_addPlan
      rw [gd_t hb5, gd_t hb5, bd4_s, nI_clamp (show b < 2 ^ 31 by omega), nI_1]
      refine ⟨_, _, _, _, _, rfl, rfl, ⟨⟨a, a1, a2, by rw [upd_n (by omega), upd_n (by omega), upd_n (by omega)]; exact a3, fun i hi => ?_⟩, ⟨b + 1, by omega, rfl, upd_s, fun i hi => ?_⟩, c, c1, c2, by rw [upd_n (by omega), upd_n (by omega), upd_n (by omega)]; exact c3, fun i hi => ?_⟩, fun i hi => by rw [upd_n (by omega), upd_n (by omega), upd_n (by omega)]⟩
      · rw [upd_n (by omega), upd_n (by omega), upd_n (by omega), upd_n (by omega), upd_n (by omega), upd_n (by omega), upd_n (by omega), upd_n (by omega), upd_n (by omega)]; exact a4 i hi
      · by_cases e2 : i = b
        · subst e2
          refine ⟨by rw [upd_n (by omega), upd_n (by omega), upd_s, upd_s], by rw [upd_n (by omega), upd_s, upd_s], ?_⟩
          rw [upd_s, upd_s]; exact hrow
        · rw [upd_n e2, upd_n e2, upd_n (by omega), upd_n (by omega), upd_n (by omega), upd_n (by omega), upd_n (by omega), upd_n (by omega)]; exact b4 i (by omega)
      · rw [upd_n (by omega), upd_n (by omega), upd_n (by omega), upd_n (by omega), upd_n (by omega), upd_n (by omega)]; exact c4 i hi
  by_cases e0 : x1 = 0
  · rw [if_pos e0, if_pos e0, bd1_s, i1]
    exact hT (Or.inl e0)
  rw [if_neg e0, if_neg e0]
  by_cases e12 : x1 = 1 ∨ x1 = 2
  · rw [if_pos e12, if_pos e12]
    rcases leaf_or x2 hL h55 with ⟨k, k1, rfl, d1, d2⟩ | ⟨d1, d2⟩
    · rw [d1, d2, bd1_s, bd1_s, i1, i1]
      exact hT (Or.inr (Or.inl ⟨e12, k, k1, rfl⟩))
    · rw [d1, d2, bd1_s, bd1_s, i0, i0]; exact ⟨_, _, _, _, _, rfl, rfl, H', fun _ _ => rfl⟩
  rw [if_neg e12, if_neg e12]
  by_cases e3 : x1 = 3
  · rw [if_pos e3, if_pos e3]
    rcases person_or x2 hP h54 with ⟨k, k1, rfl, d1, d2⟩ | ⟨d1, d2⟩
    · rw [d1, d2, bd1_s, bd1_s, i1, i1]
      exact hT (Or.inr (Or.inr ⟨e3, k, k1, rfl⟩))
    · rw [d1, d2, bd1_s, bd1_s, i0, i0]; exact ⟨_, _, _, _, _, rfl, rfl, H', fun _ _ => rfl⟩
  rw [if_neg e3, if_neg e3, bd1_s, i0]
  exact ⟨_, _, _, _, _, rfl, rfl, H', fun _ _ => rfl⟩
theorem lookedLoop {P Lf : Nat} {kind v rows len bp bl : AI} {q : Q5} {now : AI} {c : Nat} (hP : P ≤ 6) (hc : c ≤ 8) (h : RM P Lf kind v rows len q now) (h96 : now 96 = nI c) (h4 : ∀ i, i < c → bnd (bp i) P ∧ now (97 + 2 * i) = bp i ∧ now (98 + 2 * i) = bl i) : ∀ (n i : Nat), i ≤ c → c - i < n → ∃ r, LX5_firstOtherwise_2 (nI c) bp bl q.1 n (nI i) = some r ∧ LX8_looked_2 now n (nI i) = some r := by
  intro n
  induction n with
  | zero => intro i _ h; omega
  | succ n ih =>
    intro i hi hn
    rw [LX5_firstOtherwise_2, LX8_looked_2, h96]
    by_cases e : i = c
    · subst e
      rw [if_pos (nI_le (Nat.le_refl _) (by omega)), if_pos (nI_le (Nat.le_refl _) (by omega))]
      exact ⟨_, rfl, rfl⟩
    · obtain ⟨⟨k, k1, k2⟩, g2, g3⟩ := h4 i (by omega)
      have ea : 97 + 2 * nI i = nI (97 + 2 * i) := by rw [show (2 : Int32) = nI 2 from rfl, show (97 : Int32) = nI 97 from rfl, pk_mul, nI_add]
      have ea1 : 98 + 2 * nI i = nI (98 + 2 * i) := by rw [show (2 : Int32) = nI 2 from rfl, show (98 : Int32) = nI 98 from rfl, pk_mul, nI_add]
      have hb8 : inb (nI i) 8 := inb_n (by omega) (by decide)
      have hk6 : inb (bp (nI i).toNatClampNeg) 6 := inb_p (by rw [nI_clamp (by omega)]; exact k2) (by omega) (by decide)
      have hq := (h.2.2.2.2.1 k k1).2.2.1
      rw [if_neg (nle_nI (by omega) (by omega)), if_neg (nle_nI (by omega) (by omega)), gd_t hb8, gd_t hk6, gd_t hb8, ea, ea1, gd_t (inb_n (by omega) (by decide)), nI_clamp (by omega), nI_clamp (by omega), k2, g2, k2, spot_m (by omega), bd1_s, gd_t (inb_n (by omega) (by decide)), nI_clamp (by omega), nI_clamp (by omega), g3, hq, nI_1]
      by_cases e2 : q.1 k = bl i
      · rw [if_pos e2, if_pos e2]; exact ih (i + 1) (by omega) (by omega)
      · rw [if_neg e2, if_neg e2]; exact ⟨_, rfl, rfl⟩
theorem looked_2 {P Lf S : Nat} {kind v rows len sl ss st pw po bp bl : AI} {sc pc bc : Int32} {q : Q5} {now : AI} (H : HR P Lf S kind v rows len q now) (N : NR P Lf sc sl ss st pc pw po bc bp bl now) : ∃ r, fX7_looked FU q.1 bc bp bl = some r ∧ fX8_looked FU now = some r := by
  obtain ⟨-, -, c, c1, rfl, c3, c4⟩ := N
  obtain ⟨r, r1, r2⟩ := lookedLoop H.1.1 c1 H.2.2.2 c3 c4 FU 0 (by omega) (by unfold FU; omega)
  refine ⟨r, ?_, r2⟩
  unfold fX7_looked fX5_firstOtherwise
  rw [show LX5_firstOtherwise_2 (nI c) bp bl q.1 FU 0 = some r from r1, bd1_s]
