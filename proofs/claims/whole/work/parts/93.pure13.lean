/-! ===== calls that change the hall by hand ===== -/
def HR (P Lf S : Nat) (kind v rows len : AI) (q : Q5) (now : AI) : Prop := Kk P kind v rows ∧ Ln Lf len ∧ Qk P Lf S q ∧ RM P Lf kind v rows len q now
theorem i1 {α : Type} {a b : α} : (if (1 : Int32) = 0 then a else b) = b := if_neg (by decide)
theorem i0 {α : Type} {a b : α} : (if (0 : Int32) = 0 then a else b) = a := if_pos rfl
theorem lt_pred {x : Int32} {P : Nat} (hP : P < 2 ^ 30) (h : ¬ x < 0) : nI P - 1 < x ↔ nI P ≤ x := by
  have z0 : (0 : Int32).toInt = 0 := by decide
  have h0 : 0 ≤ x.toInt := by
    have := mt Int32.lt_iff_toInt_lt.mpr h
    omega
  rw [Int32.lt_iff_toInt_lt, Int32.le_iff_toInt_le, nI_toInt (by omega)]
  rcases Nat.eq_zero_or_pos P with e | e
  · subst e
    have : (nI 0 - 1 : Int32).toInt = -1 := by decide
    rw [this]; omega
  · rw [minus_1 e, nI_toInt (by omega)]; omega
theorem isPerson_y {P k : Nat} (hP : P ≤ 6) (hk : k < P) : fX2_isPerson (nI P) (nI k) = some 1 := by
  unfold fX2_isPerson
  rw [if_neg (nnI_lt0 (by omega)), if_neg (nle_nI hk (by omega))]
theorem isPerson_n {P : Nat} {x : Int32} (h : x < 0 ∨ nI P ≤ x) : fX2_isPerson (nI P) x = some 0 := by
  unfold fX2_isPerson
  by_cases h0 : x < 0
  · rw [if_pos h0]
  · rw [if_neg h0, if_pos (h.elim (fun z => absurd z h0) id)]
theorem isIn_y {n : Nat} {N : Int32} {k : Nat} (hN : N = nI n) (hn : n < 2 ^ 30) (hk : k ≤ n) : fX8_isIn (nI k) 0 N = some 1 := by
  unfold fX8_isIn
  rw [if_neg (nnI_lt0 (by omega)), if_neg (by rw [hN, nI_ltI (by omega) (by omega)]; omega)]
theorem isOne_y {P k : Nat} {now : AI} (h : now 54 = nI P) (hP : P ≤ 6) (hk : k < P) : fX8_isOne now (nI k) = some 1 := by
  unfold fX8_isOne
  rw [h, isIn_y (minus_1 (by omega)) (by omega) (by omega), bd1_s, gd_t (Or.inr rfl)]
theorem isOne_n {P : Nat} {x : Int32} {now : AI} (hx : now 54 = nI P) (hP : P ≤ 6) (h : x < 0 ∨ nI P ≤ x) : fX8_isOne now x = some 0 := by
  unfold fX8_isOne fX8_isIn
  rw [hx]
  by_cases h0 : x < 0
  · rw [if_pos h0, bd1_s, gd_t (Or.inl rfl)]
  · rw [if_neg h0, if_pos ((lt_pred (by omega) h0).mpr (h.elim (fun z => absurd z h0) id)), bd1_s, gd_t (Or.inl rfl)]
theorem isLeaf_y {P k : Nat} (hP : P ≤ 4) (hk : k < P) : fX2_isLeaf (nI P) (nI k) = some 1 := by
  unfold fX2_isLeaf
  rw [if_neg (nnI_lt0 (by omega)), if_neg (nle_nI hk (by omega))]
theorem isLeaf_n {P : Nat} {x : Int32} (h : x < 0 ∨ nI P ≤ x) : fX2_isLeaf (nI P) x = some 0 := by
  unfold fX2_isLeaf
  by_cases h0 : x < 0
  · rw [if_pos h0]
  · rw [if_neg h0, if_pos (h.elim (fun z => absurd z h0) id)]
theorem isLeafM_y {P k : Nat} {now : AI} (h : now 55 = nI P) (hP : P ≤ 4) (hk : k < P) : fX8_isLeaf now (nI k) = some 1 := by
  unfold fX8_isLeaf
  rw [h, isIn_y (minus_1 (by omega)) (by omega) (by omega), bd1_s, gd_t (Or.inr rfl)]
theorem isLeafM_n {P : Nat} {x : Int32} {now : AI} (hx : now 55 = nI P) (hP : P ≤ 4) (h : x < 0 ∨ nI P ≤ x) : fX8_isLeaf now x = some 0 := by
  unfold fX8_isLeaf fX8_isIn
  rw [hx]
  by_cases h0 : x < 0
  · rw [if_pos h0, bd1_s, gd_t (Or.inl rfl)]
  · rw [if_neg h0, if_pos ((lt_pred (by omega) h0).mpr (h.elim (fun z => absurd z h0) id)), bd1_s, gd_t (Or.inl rfl)]
theorem or_in (x : Int32) (n : Nat) (hn : n < 2 ^ 31) : (x < 0 ∨ nI n ≤ x) ∨ ∃ k, k < n ∧ x = nI k := by
  rcases in_or x n hn with h | h | h
  · exact Or.inl (Or.inl h)
  · exact Or.inl (Or.inr h)
  · exact Or.inr h
theorem person_or (x : Int32) {P : Nat} {now : AI} (hP : P ≤ 6) (h : now 54 = nI P) : (∃ k, k < P ∧ x = nI k ∧ fX2_isPerson (nI P) x = some 1 ∧ fX8_isOne now x = some 1) ∨ (fX2_isPerson (nI P) x = some 0 ∧ fX8_isOne now x = some 0) := by
  rcases or_in x P (by omega) with e | ⟨k, k1, rfl⟩
  · exact Or.inr ⟨isPerson_n e, isOne_n h hP e⟩
  · exact Or.inl ⟨k, k1, rfl, isPerson_y hP k1, isOne_y h hP k1⟩
theorem leaf_or (x : Int32) {P : Nat} {now : AI} (hP : P ≤ 4) (h : now 55 = nI P) : (∃ k, k < P ∧ x = nI k ∧ fX2_isLeaf (nI P) x = some 1 ∧ fX8_isLeaf now x = some 1) ∨ (fX2_isLeaf (nI P) x = some 0 ∧ fX8_isLeaf now x = some 0) := by
  rcases or_in x P (by omega) with e | ⟨k, k1, rfl⟩
  · exact Or.inr ⟨isLeaf_n e, isLeafM_n h hP e⟩
  · exact Or.inl ⟨k, k1, rfl, isLeaf_y hP k1, isLeafM_y h hP k1⟩
theorem nI_lt_succ {x : Int32} {n : Nat} (hn : n < 2 ^ 30) : nI n < x ↔ nI (n + 1) ≤ x := by
  rw [Int32.lt_iff_toInt_lt, Int32.le_iff_toInt_le, nI_toInt (by omega), nI_toInt (by omega)]
  omega
/-- within 0 .. n, for both -/
theorem within_or (x : Int32) (n : Nat) (hn : n < 2 ^ 30) : (∃ k, k < n + 1 ∧ x = nI k ∧ fX7_isWithin x (nI n) = some 1 ∧ fX8_isIn x 0 (nI n) = some 1) ∨ (fX7_isWithin x (nI n) = some 0 ∧ fX8_isIn x 0 (nI n) = some 0) := by
  rcases or_in x (n + 1) (by omega) with e | ⟨k, k1, rfl⟩
  · refine Or.inr ⟨?_, ?_⟩
    · unfold fX7_isWithin
      by_cases h0 : x < 0
      · rw [if_pos h0]
      · rw [if_neg h0, if_pos ((nI_lt_succ hn).mpr (e.elim (fun z => absurd z h0) id))]
    · unfold fX8_isIn
      by_cases h0 : x < 0
      · rw [if_pos h0]
      · rw [if_neg h0, if_pos ((nI_lt_succ hn).mpr (e.elim (fun z => absurd z h0) id))]
  · refine Or.inl ⟨k, k1, rfl, ?_, isIn_y rfl hn (by omega)⟩
    unfold fX7_isWithin
    rw [if_neg (nnI_lt0 (by omega)), if_neg (by rw [nI_ltI (by omega) (by omega)]; omega)]
theorem nI_ne {a b : Nat} (ha : a < 2 ^ 31) (hb : b < 2 ^ 31) (h : a ≠ b) : ¬ nI a = nI b := fun z => h (nI_inj ha hb z)
/-- the model's new person: all is 0 first -/
def zr (P j : Nat) (nw : AI) : AI := fun i => if 7 * P + j ≤ i ∧ i < 7 * P + 7 then 0 else nw i
theorem oneLoop {P : Nat} {now : AI} {x1 x2 x3 : Int32} (hP : P < 6) (h : now 54 = nI P) : ∀ (n j : Nat) (nw : AI), nw 54 = nI P → j ≤ 7 → 7 - j < n → LX8_one_57 now x1 x2 x3 n (nI j) nw = some (nI P, upd (upd (upd (upd (zr P j nw) (7 * P) x1) (7 * P + 1) x2) (7 * P + 2) x3) 54 (nI (P + 1))) := by
  intro n
  induction n with
  | zero => intro j nw _ _ h; omega
  | succ n ih =>
    intro j nw hnw hj hn
    rw [LX8_one_57, h]
    by_cases e : j = 7
    · subst e
      have c0 : fX8_change nw (nI P) 0 x1 = some (nw (7 * P + 0), upd nw (7 * P + 0) x1) := change_m (k := 0) (by omega)
      rw [if_pos (by decide), c0, bd2_s]
      have c1 : fX8_change (upd nw (7 * P + 0) x1) (nI P) 1 x2 = some (upd nw (7 * P + 0) x1 (7 * P + 1), upd (upd nw (7 * P + 0) x1) (7 * P + 1) x2) := change_m (k := 1) (by omega)
      rw [c1, bd2_s]
      have c2 : fX8_change (upd (upd nw (7 * P + 0) x1) (7 * P + 1) x2) (nI P) 2 x3 = some (upd (upd nw (7 * P + 0) x1) (7 * P + 1) x2 (7 * P + 2), upd (upd (upd nw (7 * P + 0) x1) (7 * P + 1) x2) (7 * P + 2) x3) := change_m (k := 2) (by omega)
      rw [c2, bd2_s]
      have z : zr P 7 nw = nw := by funext i; unfold zr; rw [if_neg (by omega)]
      rw [z, upd_n (show (54 : Nat) ≠ 7 * P + 2 by omega), upd_n (show (54 : Nat) ≠ 7 * P + 1 by omega), upd_n (show (54 : Nat) ≠ 7 * P + 0 by omega), hnw, nI_1, Nat.add_zero]
    · have h7 : ¬ (7 : Int32) ≤ nI j := nle_nI (a := 7) (by omega) (by omega)
      rw [if_neg h7, change_m (by omega), bd2_s, nI_1, ih (j + 1) _ (by rw [upd_n (by omega)]; exact hnw) (by omega) (by omega)]
      congr 1
      have z : zr P (j + 1) (upd nw (7 * P + j) 0) = zr P j nw := by
        funext i
        unfold zr upd
        by_cases e1 : i = 7 * P + j
        · rw [if_neg (by omega), if_pos e1, if_pos (by omega)]
        · by_cases e2 : 7 * P + j ≤ i ∧ i < 7 * P + 7
          · rw [if_pos (by omega), if_pos e2]
          · rw [if_neg (by omega), if_neg e1, if_neg e2]
      rw [z]
theorem one_2 {P Lf S : Nat} {kind v rows len : AI} {q : Q5} {now : AI} (x1 x2 x3 : Int32) (H : HR P Lf S kind v rows len q now) :
    ∃ r P' kind' v' pl' now', fX7_one (nI P) kind v q.1 x1 x2 x3 = some (r, nI P', kind', v', pl') ∧ fX8_one FU now x1 x2 x3 = some (r, now') ∧ P ≤ P' ∧ HR P' Lf S kind' v' rows len (pl', q.2) now' ∧ Same58 now now' := by
  obtain ⟨hk, hl, hq, h⟩ := H
  obtain ⟨hP, hk2, hk3⟩ := hk
  unfold fX7_one fX8_one
  rcases within_or x1 6 (by omega) with ⟨k1, a1, rfl, b1, c1⟩ | ⟨b1, c1⟩
  rotate_left
  · rw [show (6 : Int32) = nI 6 from rfl, b1, c1, bd1_s, bd1_s, i0, i0]
    exact ⟨_, _, _, _, _, _, rfl, rfl, Nat.le_refl _, ⟨⟨hP, hk2, hk3⟩, hl, hq, h⟩, fun _ _ => rfl⟩
  rcases within_or x2 9 (by omega) with ⟨k2, a2, rfl, b2, c2⟩ | ⟨b2, c2⟩
  rotate_left
  · rw [show (6 : Int32) = nI 6 from rfl, show (9 : Int32) = nI 9 from rfl, b1, c1, bd1_s, bd1_s, i1, i1, b2, c2, bd1_s, bd1_s, i0, i0]
    exact ⟨_, _, _, _, _, _, rfl, rfl, Nat.le_refl _, ⟨⟨hP, hk2, hk3⟩, hl, hq, h⟩, fun _ _ => rfl⟩
  rcases within_or x3 99 (by omega) with ⟨k3, a3, rfl, b3, c3⟩ | ⟨b3, c3⟩
  rotate_left
  · rw [show (6 : Int32) = nI 6 from rfl, show (9 : Int32) = nI 9 from rfl, show (99 : Int32) = nI 99 from rfl, b1, c1, bd1_s, bd1_s, i1, i1, b2, c2, bd1_s, bd1_s, i1, i1, b3, c3, bd1_s, bd1_s, i0, i0]
    exact ⟨_, _, _, _, _, _, rfl, rfl, Nat.le_refl _, ⟨⟨hP, hk2, hk3⟩, hl, hq, h⟩, fun _ _ => rfl⟩
  rw [show (6 : Int32) = nI 6 from rfl, show (9 : Int32) = nI 9 from rfl, show (99 : Int32) = nI 99 from rfl, b1, c1, bd1_s, bd1_s, i1, i1, b2, c2, bd1_s, bd1_s, i1, i1, b3, c3, bd1_s, bd1_s, i1, i1, h.1]
  by_cases e : P = 6
  · subst e
    rw [if_neg (by decide), if_pos rfl]
    exact ⟨_, _, _, _, _, _, rfl, rfl, Nat.le_refl _, ⟨⟨hP, hk2, hk3⟩, hl, hq, h⟩, fun _ _ => rfl⟩
  · have h54 := h.1
    have hb : inb (nI P) 6 := inb_n (by omega) (by decide)
    rw [if_pos ((nI_ltI (by omega) (by omega)).mpr (by omega)), if_neg (nI_ne (by omega) (by omega) e)]
    have hloop : LX8_one_57 now (nI k1) (nI k2) (nI k3) FU 0 now = _ := oneLoop (by omega) h54 FU 0 now h54 (by omega) (by unfold FU; omega)
    rw [hloop]
    unfold fX2_addPerson
    rw [gd_t hb, gd_t hb, gd_t hb, bd5_s, nI_clamp (by omega), nI_1, nI_pred]
    refine ⟨_, _, _, _, _, _, rfl, rfl, Nat.le_succ _, ⟨⟨by omega, fun i hi => ?_, fun j hj hj2 => hk3 j (by omega) hj2⟩, hl, ⟨fun l hl2 => ?_, fun i hi => ?_, hq.2.2⟩, ?_⟩, fun i hi => ?_⟩
    · by_cases e2 : i = P
      · subst e2; rw [upd_s, upd_s]; exact ⟨⟨k1, a1, rfl⟩, k2, a2, rfl⟩
      · rw [upd_n e2, upd_n e2]; exact hk2 i (by omega)
    · rcases hq.1 l hl2 with z | ⟨a, b, z1, z2, z3⟩
      · exact Or.inl z
      · exact Or.inr ⟨a, b, by omega, by omega, z3⟩
    · show bnd (upd q.1 P (nI k3) i) 100
      by_cases e2 : i = P
      · subst e2; rw [upd_s]; exact ⟨k3, a3, rfl⟩
      · rw [upd_n e2]; exact hq.2.1 i (by omega)
    · obtain ⟨h1, h2, h3, h4, h5, h6⟩ := h
      have zlo : ∀ i, i ≠ 54 → (i < 7 * P ∨ 7 * P + 7 ≤ i) → (upd (upd (upd (upd (zr P 0 now) (7 * P) (nI k1)) (7 * P + 1) (nI k2)) (7 * P + 2) (nI k3)) 54 (nI (P + 1))) i = now i := by
        intro i i1 i2
        rw [upd_n i1, upd_n (by omega), upd_n (by omega), upd_n (by omega)]
        unfold zr
        rw [if_neg (by omega)]
      refine ⟨upd_s, by rw [zlo 55 (by omega) (by omega)]; exact h2, by rw [zlo 56 (by omega) (by omega)]; exact h3, by rw [zlo 57 (by omega) (by omega)]; exact h4, fun i hi => ?_, fun l hl2 => ?_⟩
      · by_cases e2 : i = P
        · subst e2
          refine ⟨?_, ?_, ?_, fun k hk => ?_⟩
          · rw [upd_n (by omega), upd_n (by omega), upd_n (by omega), upd_s, upd_s]
          · rw [upd_n (by omega), upd_n (by omega), upd_s, upd_s]
          · show _ = upd q.1 i (nI k3) i
            rw [upd_n (by omega), upd_s, upd_s]
          · rw [upd_n (by omega), upd_n (by omega), upd_n (by omega), upd_n (by omega), hk3 (4 * i + k) (by omega) (by omega)]
            unfold zr
            rw [if_pos (by omega)]
        · obtain ⟨a1, a2, a3, a4⟩ := h5 i (by omega)
          refine ⟨by rw [zlo _ (by omega) (by omega), upd_n e2]; exact a1, by rw [zlo _ (by omega) (by omega), upd_n e2]; exact a2, ?_, fun k hk => by rw [zlo _ (by omega) (by omega)]; exact a4 k hk⟩
          show _ = upd q.1 P (nI k3) i
          rw [zlo _ (by omega) (by omega), upd_n e2]; exact a3
      · have := hl.1
        obtain ⟨a1, a2, a3⟩ := h6 l hl2
        exact ⟨by rw [zlo _ (by omega) (by omega)]; exact a1, by rw [zlo _ (by omega) (by omega)]; exact a2, by rw [zlo _ (by omega) (by omega)]; exact a3⟩
    · rw [upd_n (by omega), upd_n (by omega), upd_n (by omega), upd_n (by omega)]
      unfold zr
      rw [if_neg (by omega)]
