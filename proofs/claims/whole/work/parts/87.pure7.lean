/-! ===== the parser: a test, a part, all, any ===== -/
def POk (B : Nat) (c : AI → AI → AI → Nat → Option Nat → Option (Int32 × Int32 × AI × AI × AI × Int32)) (m : AI → Option (Int32 × Int32 × Int32 × Int32)) (d Lz a : Nat) : Prop :=
  (∃ (a' : Nat) (cs : List CD), a < a' ∧ a' ≤ Lz ∧ cs.length ≤ a' - a ∧ okC cs ∧ (∀ S L N z lib, z ≤ a → c S L N z lib = some (1, nI a', aS S z cs, aL L z cs, aN N z cs, nI (z + cs.length))) ∧ ∀ Nm, ∃ b, b < 2 ∧ m Nm = some (nI b, nI a', 1, nI d) ∧ ∀ s t, t < B → evL Nm cs (s, nI t) = (s, nI (2 * t + b))) ∨
  ∃ a' : Nat, a' ≤ Lz ∧ (∀ S L N z lib, z ≤ a → ∃ S' L' N' z', c S L N z lib = some (0, nI a', S', L', N', z')) ∧ ∀ Nm, ∃ r : Int32, (r = 0 ∨ r = 1) ∧ m Nm = some (r, nI a', 0, nI d)
theorem isA_uni {T : AI} {Lz a : Nat} {c1 c2 : Int32} (h1 : isA T Lz a c1) (h2 : isA T Lz a c2) : c1 = c2 := h1.2.symm.trans h2.2
theorem testLoop {T rd lt Nm : AI} {Lz a κ : Nat} (hL : Lz ≤ 100) (ha : a ≤ Lz) (hr : ∀ j, j < Lz → rd j = T j) (h : ∀ j, j < 6 → (isA T Lz a (lt j) ↔ j = κ)) : ∀ (n l : Nat), l ≤ 6 → 6 - l < n → LX8_test_4 rd (nI Lz) (nI a) 1 Nm lt n (if κ < l then nI κ else -1) (nI l) = LX8_test_4 rd (nI Lz) (nI a) 1 Nm lt 1 (if κ < 6 then nI κ else -1) 6 := by
  intro n
  induction n with
  | zero => intro l _ h; omega
  | succ n ih =>
    intro l hl hn
    by_cases e : l = 6
    · subst e
      rw [LX8_test_4, LX8_test_4, if_pos (show (6 : Int32) ≤ nI 6 by decide), if_pos (show (6 : Int32) ≤ 6 by decide)]
    · have h6 : ¬ (6 : Int32) ≤ nI l := nle_nI (a := 6) (by omega) (by omega)
      rw [LX8_test_4, if_neg h6, gd_t (inb_n (by omega) (by decide)), nI_clamp (by omega), isAt_m hL ha hr, bd1_s]
      have hs := ih (l + 1) (by omega) (by omega)
      by_cases e2 : l = κ
      · rw [bi_t ((h l (by omega)).mpr e2), if_neg (by decide), nI_1, ← hs, if_pos (by omega), e2]
      · rw [bi_f (fun z => e2 ((h l (by omega)).mp z)), if_pos rfl, nI_1, ← hs]
        congr 1
        by_cases e3 : κ < l
        · rw [if_pos e3, if_pos (by omega)]
        · rw [if_neg e3, if_neg (by omega)]
theorem testM_n {T rd lt Nm : AI} {Lz a : Nat} (hL : Lz ≤ 100) (ha : a ≤ Lz) (hr : ∀ j, j < Lz → rd j = T j) (h : ∀ j, j < 6 → ¬ isA T Lz a (lt j)) : fX8_test FU rd (nI Lz) (nI a) 1 Nm lt = some (0, nI a, 0) := by
  have := testLoop (lt := lt) (Nm := Nm) (κ := 6) hL ha hr (fun j hj => ⟨fun z => absurd z (h j hj), fun z => by omega⟩) FU 0 (by omega) (by unfold FU; omega)
  rw [if_neg (by omega), if_neg (by omega)] at this
  unfold fX8_test
  refine this.trans ?_
  rw [LX8_test_4, if_pos (by decide), if_pos rfl]
noncomputable def cmpv (j : Nat) (x n : Int32) : Nat := if j = 0 then (if n ≤ x then 0 else 1) else if j = 1 then (if x = n then 1 else 0) else (if x ≤ n then 0 else 1)
theorem cmpv_0 {x n : Int32} : cmpv 0 x n = if n ≤ x then 0 else 1 := rfl
theorem cmpv_1 {x n : Int32} : cmpv 1 x n = if x = n then 1 else 0 := rfl
theorem cmpv_2 {x n : Int32} : cmpv 2 x n = if x ≤ n then 0 else 1 := rfl
theorem cmpv_b {j : Nat} {x n : Int32} : cmpv j x n < 2 := by
  unfold cmpv
  repeat' split
  all_goals omega
theorem ev1_test {Nm : AI} {s n : Int32} {t j k : Nat} (ht : t < 1024) (hj : j < 3) (hk : k < 6) : ev1 Nm (s, nI t) (nI j, nI k, n) = (s, nI (2 * t + cmpv j (Nm k) n)) := by
  rcases (show j = 0 ∨ j = 1 ∨ j = 2 by omega) with rfl | rfl | rfl
  · have e : ev1 Nm (s, nI t) (nI 0, nI k, n) = if n ≤ Nm (nI k).toNatClampNeg then (s, (nI t <<< (1 &&& 31)) ||| 0) else (s, (nI t <<< (1 &&& 31)) ||| 1) := rfl
    have e2 : cmpv 0 (Nm k) n = if n ≤ Nm k then 0 else 1 := if_pos rfl
    rw [e, e2, nI_clamp (by omega), tr_push0 t ht, tr_push1 t ht]
    split <;> rfl
  · have e : ev1 Nm (s, nI t) (nI 1, nI k, n) = if Nm (nI k).toNatClampNeg = n then (s, (nI t <<< (1 &&& 31)) ||| 1) else (s, (nI t <<< (1 &&& 31)) ||| 0) := rfl
    have e2 : cmpv 1 (Nm k) n = if Nm k = n then 1 else 0 := rfl
    rw [e, e2, nI_clamp (by omega), tr_push0 t ht, tr_push1 t ht]
    split <;> rfl
  · have e : ev1 Nm (s, nI t) (nI 2, nI k, n) = if Nm (nI k).toNatClampNeg ≤ n then (s, (nI t <<< (1 &&& 31)) ||| 0) else (s, (nI t <<< (1 &&& 31)) ||| 1) := rfl
    have e2 : cmpv 2 (Nm k) n = if Nm k ≤ n then 0 else 1 := rfl
    rw [e, e2, nI_clamp (by omega), tr_push0 t ht, tr_push1 t ht]
    split <;> rfl
theorem testM_y {T rd lt Nm : AI} {Lz a κ j : Nat} (hL : Lz ≤ 100) (hr : ∀ j, j < Lz → rd j = T j) (hlt : ∀ k, k < 6 → lt k = tx 6 k) (hκ : κ < 6) (h : isA T Lz a (tx 6 κ)) (hj : j < 3) (h2 : isA T Lz (a + 1) (tx 7 j)) :
    fX8_test FU rd (nI Lz) (nI a) 1 Nm lt = bd3 (fX8_number_ rd (nI Lz) (nI (a + 2)) 1) (fun r mat w => some (nI (cmpv j (Nm κ) r), mat, w)) := by
  have h1 := h.1
  have h3 := h2.1
  have := testLoop (lt := lt) (Nm := Nm) (κ := κ) hL (by omega : a ≤ Lz) hr (fun i hi => ⟨fun z => dis6 i hi κ hκ (by rw [hlt i hi] at z; exact isA_uni z h), fun z => by rw [z, hlt κ hκ]; exact h⟩) FU 0 (by omega) (by unfold FU; omega)
  rw [if_neg (by omega), if_pos hκ] at this
  unfold fX8_test
  refine this.trans ?_
  have hi : inb (nI κ) 6 := inb_n hκ (by decide)
  rw [LX8_test_4, if_pos (by decide), if_neg (nI_m1 (by omega)), nI_1, isAt_m hL (by omega) hr, bd1_s]
  rcases (show j = 0 ∨ j = 1 ∨ j = 2 by omega) with rfl | rfl | rfl
  · rw [bi_t (show isA T Lz (a + 1) 60 from h2), if_neg (by decide), takes_y hL (by omega) hr (show isA T Lz (a + 1) 60 from h2), bd2_s]
    congr 1
    funext r mat w
    rw [gd_t hi, nI_clamp (by omega)]
    rw [cmpv_0]
    split <;> rfl
  · have n60 : ¬ isA T Lz (a + 1) 60 := fun z => absurd (isA_uni z h2) (by decide)
    have n62 : ¬ isA T Lz (a + 1) 62 := fun z => absurd (isA_uni z h2) (by decide)
    rw [bi_f n60, if_pos rfl, isAt_m hL (by omega) hr, bd1_s, bi_f n62, if_pos rfl, takes_y hL (by omega) hr (show isA T Lz (a + 1) 61 from h2), bd2_s]
    congr 1
    funext r mat w
    rw [gd_t hi, nI_clamp (by omega)]
    rw [cmpv_1]
    split <;> rfl
  · have n60 : ¬ isA T Lz (a + 1) 60 := fun z => absurd (isA_uni z h2) (by decide)
    rw [bi_f n60, if_pos rfl, isAt_m hL (by omega) hr, bd1_s, bi_t (show isA T Lz (a + 1) 62 from h2), if_neg (by decide), takes_y hL (by omega) hr (show isA T Lz (a + 1) 62 from h2), bd2_s]
    congr 1
    funext r mat w
    rw [gd_t hi, nI_clamp (by omega)]
    rw [cmpv_2]
    split <;> rfl
theorem testM_x {T rd lt Nm : AI} {Lz a κ : Nat} (hL : Lz ≤ 100) (hr : ∀ j, j < Lz → rd j = T j) (hlt : ∀ k, k < 6 → lt k = tx 6 k) (hκ : κ < 6) (h : isA T Lz a (tx 6 κ)) (h2 : ∀ j, j < 3 → ¬ isA T Lz (a + 1) (tx 7 j)) :
    ∃ r : Int32, (r = 0 ∨ r = 1) ∧ fX8_test FU rd (nI Lz) (nI a) 1 Nm lt = some (r, nI (a + 1), 0) := by
  have h1 := h.1
  have := testLoop (lt := lt) (Nm := Nm) (κ := κ) hL (by omega : a ≤ Lz) hr (fun i hi => ⟨fun z => dis6 i hi κ hκ (by rw [hlt i hi] at z; exact isA_uni z h), fun z => by rw [z, hlt κ hκ]; exact h⟩) FU 0 (by omega) (by unfold FU; omega)
  rw [if_neg (by omega), if_pos hκ] at this
  rw [show fX8_test FU rd (nI Lz) (nI a) 1 Nm lt = _ from this]
  have hi : inb (nI κ) 6 := inb_n hκ (by decide)
  have n60 : ¬ isA T Lz (a + 1) 60 := h2 0 (by omega)
  have n61 : ¬ isA T Lz (a + 1) 61 := h2 1 (by omega)
  have n62 : ¬ isA T Lz (a + 1) 62 := h2 2 (by omega)
  rw [LX8_test_4, if_pos (by decide), if_neg (nI_m1 (by omega)), nI_1, isAt_m hL (by omega) hr, bd1_s, bi_f n60, if_pos rfl, isAt_m hL (by omega) hr, bd1_s, bi_f n62, if_pos rfl, takes_n hL (by omega) hr n61, bd2_s, number_md, bd3_s, gd_t hi]
  split
  · exact ⟨1, Or.inr rfl, rfl⟩
  · exact ⟨0, Or.inl rfl, rfl⟩
theorem b01 {b : Nat} (h : b < 2) : nI b = 0 ∨ nI b = 1 := by
  rcases (show b = 0 ∨ b = 1 by omega) with rfl | rfl
  · exact Or.inl rfl
  · exact Or.inr rfl
theorem test_ok {T rd lt : AI} {Lz a d : Nat} (hT : Txt T Lz) (ha : a ≤ Lz) (hr : ∀ j, j < Lz → rd j = T j) (hlt : ∀ k, k < 6 → lt k = tx 6 k) :
    POk 1024 (fun S L N z lib => bd6 (fX4_takesTest FU T (nI Lz) (nI a) lib S L N (nI z)) (fun r dat s l n z => gd (r = 0 ∨ r = 1) (some (r, dat, s, l, n, z)))) (fun Nm => bd3 (fX8_test FU rd (nI Lz) (nI a) 1 Nm lt) (fun r mat w => gd (r = 0 ∨ r = 1) (some (r, mat, w, nI d)))) d Lz a := by
  have hL := hT.1
  rcases one_or (T := T) (sb := tx 6) (Lz := Lz) (a := a) 6 with h | ⟨κ, hκ, h⟩
  · refine Or.inr ⟨a, ha, fun S L N z lib hz => ⟨S, L, N, nI z, ?_⟩, fun Nm => ⟨0, Or.inl rfl, ?_⟩⟩
    · show bd6 (fX4_takesTest FU T (nI Lz) (nI a) lib S L N (nI z)) _ = _
      unfold fX4_takesTest
      rw [oneOf_n hT ha ix6_n h, bd2_s, if_neg (by decide), bd6_s, gd_t (Or.inl rfl)]
    · show bd3 (fX8_test FU rd (nI Lz) (nI a) 1 Nm lt) _ = _
      rw [testM_n hL ha hr (fun j hj => by rw [hlt j hj]; exact h j hj), bd3_s, gd_t (Or.inl rfl)]
  have h1 := h.1
  rcases one_or (T := T) (sb := tx 7) (Lz := Lz) (a := a + 1) 3 with h2 | ⟨j, hj, h2⟩
  · refine Or.inr ⟨a + 1, by omega, fun S L N z lib hz => ⟨S, L, N, nI z, ?_⟩, fun Nm => ?_⟩
    · show bd6 (fX4_takesTest FU T (nI Lz) (nI a) lib S L N (nI z)) _ = _
      unfold fX4_takesTest
      rw [oneOf_y hL (ix6_y κ hκ) (by omega) h, bd2_s, if_pos (nI_0le (by omega)), oneOf_n hT (by omega) ix7_n h2, bd2_s, if_neg (by decide), bd6_s, gd_t (Or.inl rfl)]
    · obtain ⟨r, r1, r2⟩ := testM_x (Nm := Nm) hL hr hlt hκ h h2
      refine ⟨r, r1, ?_⟩
      show bd3 (fX8_test FU rd (nI Lz) (nI a) 1 Nm lt) _ = _
      rw [r2, bd3_s, gd_t r1]
  have h3 := h2.1
  rcases num_or (a := a + 2) hT with h4 | ⟨v, a', h4⟩
  · refine Or.inr ⟨a + 2, by omega, fun S L N z lib hz => ⟨S, L, N, nI z, ?_⟩, fun Nm => ⟨nI (cmpv j (Nm κ) 0), b01 cmpv_b, ?_⟩⟩
    · show bd6 (fX4_takesTest FU T (nI Lz) (nI a) lib S L N (nI z)) _ = _
      unfold fX4_takesTest
      rw [oneOf_y hL (ix6_y κ hκ) (by omega) h, bd2_s, if_pos (nI_0le (by omega)), oneOf_y hL (ix7_y j hj) (by omega) h2, bd2_s, if_pos (nI_0le (by omega)), number_cn hT (by omega) h4, bd2_s, if_neg (by decide), bd6_s, gd_t (Or.inl rfl)]
    · show bd3 (fX8_test FU rd (nI Lz) (nI a) 1 Nm lt) _ = _
      rw [testM_y hL hr hlt hκ h hj h2, number_mn hT (by omega) hr h4, bd3_s, bd3_s, gd_t (b01 cmpv_b)]
  · have h5 := numS_b h4
    refine Or.inl ⟨a', [(nI j, nI κ, nI v)], by omega, by omega, by show 1 ≤ _; omega, okC_one hκ, fun S L N z lib hz => ?_, fun Nm => ⟨cmpv j (Nm κ) (nI v), cmpv_b, ?_, fun s t ht => ?_⟩⟩
    · show bd6 (fX4_takesTest FU T (nI Lz) (nI a) lib S L N (nI z)) _ = _
      unfold fX4_takesTest
      rw [oneOf_y hL (ix6_y κ hκ) (by omega) h, bd2_s, if_pos (nI_0le (by omega)), oneOf_y hL (ix7_y j hj) (by omega) h2, bd2_s, if_pos (nI_0le (by omega)), number_cy hT h4, bd2_s, if_pos (nI_0le (by omega)), put_c (by omega), bd4_s, bd6_s, gd_t (Or.inr rfl)]
      rfl
    · show bd3 (fX8_test FU rd (nI Lz) (nI a) 1 Nm lt) _ = _
      rw [testM_y hL hr hlt hκ h hj h2, number_my hT hr h4, bd3_s, bd3_s, gd_t (b01 cmpv_b)]
    · show ev1 Nm (s, nI t) (nI j, nI κ, nI v) = _
      exact ev1_test ht hj hκ
