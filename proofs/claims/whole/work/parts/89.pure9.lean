/-! ===== the parser: a part, any ===== -/
theorem POk_mono {B B' : Nat} {c : AI → AI → AI → Nat → Option Nat → Option (Int32 × Int32 × AI × AI × AI × Int32)} {m : AI → Option (Int32 × Int32 × Int32 × Int32)} {d Lz a : Nat} (h : B ≤ B') (hp : POk B' c m d Lz a) : POk B c m d Lz a := by
  rcases hp with ⟨a', cs, f1, f2, f3, f4, f5, f6⟩ | h2
  · refine Or.inl ⟨a', cs, f1, f2, f3, f4, f5, fun Nm => ?_⟩
    obtain ⟨b, p1, p2, p3⟩ := f6 Nm
    exact ⟨b, p1, p2, fun s t ht => p3 s t (Nat.lt_of_lt_of_le ht h)⟩
  · exact Or.inr h2
theorem any_of_part {T rd lt : AI} {Lz d : Nat} {F : FT4} {G : FT8} (hL : Lz ≤ 100) (hd : d ≤ 4) (hr : ∀ j, j < Lz → rd j = T j)
    (hF : ∀ a, a ≤ Lz → POk (2 ^ (2 * d + 2)) (fun S L N z lib => F T (nI Lz) (nI a) lib S L N (nI z) (nI d)) (fun Nm => G rd (nI Lz) (nI a) 1 (nI d) Nm lt) d Lz a) (a : Nat) (ha : a ≤ Lz) :
    POk (2 ^ (2 * d)) (fun S L N z lib => fX4_takesAnyOf F FU T (nI Lz) (nI a) lib S L N (nI z) (nI d)) (fun Nm => fX8_any G FU rd (nI Lz) (nI a) 1 (nI d) Nm lt) d Lz a := by
  have h1 : 2 ^ (2 * d) ≤ 2 ^ 8 := Nat.pow_le_pow_right (by omega) (by omega)
  have h2 : 2 * (2 * 2 ^ (2 * d)) = 2 ^ (2 * d + 2) := by rw [Nat.pow_add]; omega
  exact any_ok0 hL (by omega) hr (all_ok hL (by omega) hr (by rw [h2]; exact hF)) a ha
theorem n4 {d : Nat} (h : d < 4) : nI d < 4 := (nI_ltI (b := 4) (by omega) (by omega)).mpr h
theorem n4' {d : Nat} (h : d < 4) : ¬ 4 ≤ nI d := nle_nI (a := 4) h (by omega)
theorem part_ok {T rd lt : AI} {Lz : Nat} (hT : Txt T Lz) (hr : ∀ j, j < Lz → rd j = T j) (hlt : ∀ k, k < 6 → lt k = tx 6 k) : ∀ (f d a : Nat), d ≤ 4 → 5 ≤ d + f → a ≤ Lz →
    POk (2 ^ (2 * d + 2)) (fun S L N z lib => fX4_takesPart FU f T (nI Lz) (nI a) lib S L N (nI z) (nI d)) (fun Nm => fX8_factor FU f rd (nI Lz) (nI a) 1 (nI d) Nm lt) d Lz a := by
  have hL := hT.1
  intro f
  induction f with
  | zero => intro d a _ h; omega
  | succ f ih =>
    intro d a hd hf ha
    have hB : 2 ^ (2 * d + 2) ≤ 1024 := show 2 ^ (2 * d + 2) ≤ 2 ^ 10 from Nat.pow_le_pow_right (by omega) (by omega)
    have hc : ∀ S L N z lib, fX4_takesPart FU (f + 1) T (nI Lz) (nI a) lib S L N (nI z) (nI d) = gX4_takesPart (fX4_takesPart FU f) FU T (nI Lz) (nI a) lib S L N (nI z) (nI d) := fun S L N z lib => rfl
    have hm : ∀ Nm, fX8_factor FU (f + 1) rd (nI Lz) (nI a) 1 (nI d) Nm lt = gX8_factor (fX8_factor FU f) FU rd (nI Lz) (nI a) 1 (nI d) Nm lt := fun Nm => rfl
    have htM : ∀ Nm, fX8_test FU rd (nI Lz) (nI a) 1 Nm lt = fX8_test FU rd (nI Lz) (nI a) 1 Nm lt := fun _ => rfl
    by_cases h : isA T Lz a 33 ∨ isA T Lz a 40
    · have h1 : a < Lz := h.elim (fun z => z.1) (fun z => z.1)
      have hno : ∀ j, j < 6 → ¬ isA T Lz a (lt j) := by
        intro j hj z
        rw [hlt j hj] at z
        have d33 : ∀ j, j < 6 → ¬ (33 : Int32) = tx 6 j := by decide +kernel
        have d40 : ∀ j, j < 6 → ¬ (40 : Int32) = tx 6 j := by decide +kernel
        exact h.elim (fun y => d33 j hj (isA_uni y z)) (fun y => d40 j hj (isA_uni y z))
      by_cases h4 : d < 4
      · by_cases h33 : isA T Lz a 33
        · have hcc : ∀ S L N z lib, gX4_takesPart (fX4_takesPart FU f) FU T (nI Lz) (nI a) lib S L N (nI z) (nI d) = bd6 (fX4_takesPart FU f T (nI Lz) (nI (a + 1)) lib S L N (nI z) (nI (d + 1))) (fun r dat s l n z => if r = 0 then some ((0 : Int32), dat, s, l, n, z) else bd4 (fX3_put s l n z 3 0 0) (fun s l n z => some ((1 : Int32), dat, s, l, n, z))) := by
            intro S L N z lib
            unfold gX4_takesPart
            rw [isAt_c hL ha, bd1_s, bi_t h33, if_neg (by decide), if_pos (n4 h4), bd1_s, if_neg (by decide), nI_1, nI_1]
          have hmm : ∀ Nm, gX8_factor (fX8_factor FU f) FU rd (nI Lz) (nI a) 1 (nI d) Nm lt = bd4 (fX8_factor FU f rd (nI Lz) (nI (a + 1)) 1 (nI (d + 1)) Nm lt) (fun r mat w wi => if r = 0 then some ((1 : Int32), mat, w, wi - 1) else some ((0 : Int32), mat, w, wi - 1)) := by
            intro Nm
            unfold gX8_factor
            rw [if_neg (n4' h4), isAt_m hL ha hr, bd1_s, bi_t h33, if_neg (by decide), nI_1, nI_1]
          rcases ih (d + 1) (a + 1) (by omega) (by omega) (by omega) with ⟨a1, c1, f1, f2, f3, f4, f5, f6⟩ | ⟨a1, f1, f2, f3⟩
          · dsimp only at f5 f6
            refine Or.inl ⟨a1, c1 ++ [(3, 0, 0)], by omega, f2, by rw [List.length_append]; show c1.length + 1 ≤ _; omega, okC_app f4 okC_0, fun S L N z lib hz => ?_, fun Nm => ?_⟩
            · dsimp only
              rw [hc, hcc, f5 S L N z lib (by omega), bd6_s, if_neg (by decide), put_c (by omega), bd4_s, aS_upd (y := 0) (w := 0), aL_upd (x := 3) (w := 0), aN_upd (x := 3) (y := 0), len_app1 (c := (3, 0, 0))]
            · obtain ⟨b, p1, p2, p3⟩ := f6 Nm
              refine ⟨1 - b, by omega, ?_, fun s t ht => ?_⟩
              · dsimp only
                rw [hm, hmm, p2, bd4_s, nI_pred]
                rcases (show b = 0 ∨ b = 1 by omega) with rfl | rfl <;> rfl
              · have ht2 : t < 2 ^ (2 * (d + 1) + 2) := Nat.lt_of_lt_of_le ht (Nat.pow_le_pow_right (by omega) (by omega))
                rw [evL_app, p3 s t ht2]
                show (s, nI (2 * t + b) ^^^ 1) = _
                rcases (show b = 0 ∨ b = 1 by omega) with rfl | rfl
                · rw [Nat.add_zero, (tr_not t (by omega)).1]
                · rw [(tr_not t (by omega)).2]; rfl
          · dsimp only at f2 f3
            refine Or.inr ⟨a1, f1, fun S L N z lib hz => ?_, fun Nm => ?_⟩
            · dsimp only
              obtain ⟨S', L', N', z', e5⟩ := f2 S L N z lib (by omega)
              exact ⟨S', L', N', z', by rw [hc, hcc, e5, bd6_s, if_pos rfl]⟩
            · dsimp only
              obtain ⟨r, p1, p2⟩ := f3 Nm
              rw [hm, hmm, p2, bd4_s, nI_pred]
              rcases p1 with rfl | rfl
              · exact ⟨1, Or.inr rfl, rfl⟩
              · exact ⟨0, Or.inl rfl, rfl⟩
        · have h40 : isA T Lz a 40 := h.elim (fun z => absurd z h33) id
          have hcc : ∀ S L N z lib, gX4_takesPart (fX4_takesPart FU f) FU T (nI Lz) (nI a) lib S L N (nI z) (nI d) = bd6 (fX4_takesAnyOf (fX4_takesPart FU f) FU T (nI Lz) (nI (a + 1)) lib S L N (nI z) (nI (d + 1))) (fun r dat s l n z => if r = 0 then some ((0 : Int32), dat, s, l, n, z) else bd2 (fX4_takesWord FU T (nI Lz) dat 1 (tx 5)) (fun r2 dat2 => if r2 = 0 then some ((0 : Int32), dat2, s, l, n, z) else some ((1 : Int32), dat2, s, l, n, z))) := by
            intro S L N z lib
            unfold gX4_takesPart
            rw [isAt_c hL ha, bd1_s, bi_f h33, if_pos rfl, isAt_c hL ha, bd1_s, bi_t h40, if_neg (by decide), if_pos (n4 h4), bd1_s, if_pos rfl, nI_1, nI_1]
          have hmm : ∀ Nm, gX8_factor (fX8_factor FU f) FU rd (nI Lz) (nI a) 1 (nI d) Nm lt = bd4 (fX8_any (fX8_factor FU f) FU rd (nI Lz) (nI (a + 1)) 1 (nI (d + 1)) Nm lt) (fun r mat w wi => bd2 (fX8_takes rd (nI Lz) mat w 41) (fun mat2 w2 => gd (r = 0 ∨ r = 1) (some (r, mat2, w2, wi - 1)))) := by
            intro Nm
            unfold gX8_factor
            rw [if_neg (n4' h4), isAt_m hL ha hr, bd1_s, bi_f h33, if_pos rfl, if_neg (n4' h4), isAt_m hL ha hr, bd1_s, bi_t h40, if_neg (by decide), nI_1, nI_1]
          rcases any_of_part hL (show d + 1 ≤ 4 by omega) hr (fun a ha => ih (d + 1) a (by omega) (by omega) ha) (a + 1) (by omega) with ⟨a1, c1, f1, f2, f3, f4, f5, f6⟩ | ⟨a1, f1, f2, f3⟩
          · dsimp only at f5 f6
            by_cases h41 : isA T Lz a1 41
            · have h42 := h41.1
              refine Or.inl ⟨a1 + 1, c1, by omega, by omega, by omega, f4, fun S L N z lib hz => ?_, fun Nm => ?_⟩
              · dsimp only
                rw [hc, hcc, f5 S L N z lib (by omega), bd6_s, if_neg (by decide), word1_y hL okS5 (show tx 5 0 = 41 from rfl) f2 h41, bd2_s, if_neg (by decide)]
              · obtain ⟨b, p1, p2, p3⟩ := f6 Nm
                refine ⟨b, p1, ?_, fun s t ht => p3 s t ht⟩
                dsimp only
                rw [hm, hmm, p2, bd4_s, takes_y hL f2 hr h41, bd2_s, gd_t (b01 p1), nI_pred]
            · refine Or.inr ⟨a1, f2, fun S L N z lib hz => ?_, fun Nm => ?_⟩
              · dsimp only
                rw [hc, hcc, f5 S L N z lib (by omega), bd6_s, if_neg (by decide), word1_n hL okS5 (show tx 5 0 = 41 from rfl) f2 h41, bd2_s, if_pos rfl]
                exact ⟨_, _, _, _, rfl⟩
              · obtain ⟨b, p1, p2, p3⟩ := f6 Nm
                refine ⟨nI b, b01 p1, ?_⟩
                dsimp only
                rw [hm, hmm, p2, bd4_s, takes_n hL f2 hr h41, bd2_s, gd_t (b01 p1), nI_pred]
          · dsimp only at f2 f3
            refine Or.inr ⟨a1, f1, fun S L N z lib hz => ?_, fun Nm => ?_⟩
            · dsimp only
              obtain ⟨S', L', N', z', e5⟩ := f2 S L N z lib (by omega)
              exact ⟨S', L', N', z', by rw [hc, hcc, e5, bd6_s, if_pos rfl]⟩
            · dsimp only
              obtain ⟨r, p1, p2⟩ := f3 Nm
              refine ⟨r, p1, ?_⟩
              rw [hm, hmm, p2, bd4_s, takes_d, bd2_s, gd_t p1, nI_pred]
      · have e4 : d = 4 := by omega
        subst e4
        refine Or.inr ⟨a, ha, fun S L N z lib hz => ⟨S, L, N, nI z, ?_⟩, fun Nm => ⟨0, Or.inl rfl, ?_⟩⟩
        · dsimp only
          rw [hc]
          unfold gX4_takesPart
          rw [isAt_c hL ha, bd1_s]
          by_cases h33 : isA T Lz a 33
          · rw [bi_t h33, if_neg (by decide), if_neg (by decide)]
          · have h40 : isA T Lz a 40 := h.elim (fun z => absurd z h33) id
            rw [bi_f h33, if_pos rfl, isAt_c hL ha, bd1_s, bi_t h40, if_neg (by decide), if_neg (by decide)]
        · dsimp only
          rw [hm]
          unfold gX8_factor
          rw [if_pos (by decide), if_pos (by decide), testM_n hL ha hr hno, bd3_s, gd_t (Or.inl rfl)]
    · have h33 : ¬ isA T Lz a 33 := fun z => h (Or.inl z)
      have h40 : ¬ isA T Lz a 40 := fun z => h (Or.inr z)
      have hcc : ∀ S L N z lib, fX4_takesPart FU (f + 1) T (nI Lz) (nI a) lib S L N (nI z) (nI d) = bd6 (fX4_takesTest FU T (nI Lz) (nI a) lib S L N (nI z)) (fun r dat s l n z => gd (r = 0 ∨ r = 1) (some (r, dat, s, l, n, z))) := by
        intro S L N z lib
        rw [hc]
        unfold gX4_takesPart
        rw [isAt_c hL ha, bd1_s, bi_f h33, if_pos rfl, isAt_c hL ha, bd1_s, bi_f h40, if_pos rfl]
      have hmm : ∀ Nm, fX8_factor FU (f + 1) rd (nI Lz) (nI a) 1 (nI d) Nm lt = bd3 (fX8_test FU rd (nI Lz) (nI a) 1 Nm lt) (fun r mat w => gd (r = 0 ∨ r = 1) (some (r, mat, w, nI d))) := by
        intro Nm
        rw [hm]
        unfold gX8_factor
        by_cases h4 : 4 ≤ nI d
        · rw [if_pos h4, if_pos h4]
        · rw [if_neg h4, isAt_m hL ha hr, bd1_s, bi_f h33, if_pos rfl, if_neg h4, isAt_m hL ha hr, bd1_s, bi_f h40, if_pos rfl]
      have ht := POk_mono hB (test_ok (d := d) hT ha hr hlt)
      unfold POk at ht ⊢
      simp only [hcc, hmm]
      exact ht
theorem any_top {T rd lt : AI} {Lz : Nat} (hT : Txt T Lz) (hr : ∀ j, j < Lz → rd j = T j) (hlt : ∀ k, k < 6 → lt k = tx 6 k) (a : Nat) (ha : a ≤ Lz) :
    POk 1 (fun S L N z lib => fX4_takesAnyOf (fX4_takesPart FU 6) FU T (nI Lz) (nI a) lib S L N (nI z) (nI 0)) (fun Nm => fX8_any (fX8_factor FU 6) FU rd (nI Lz) (nI a) 1 (nI 0) Nm lt) 0 Lz a := any_of_part (d := 0) hT.1 (by omega) hr (fun a ha => part_ok hT hr hlt 6 0 a (by omega) (by omega) ha) a ha
/-! after a fault -/
theorem testLoop_d {rd lt Nm : AI} {sz at_ : Int32} : ∀ (n l : Nat), l ≤ 6 → 6 - l < n → LX8_test_4 rd sz at_ 0 Nm lt n (-1) (nI l) = some (0, at_, 0) := by
  intro n
  induction n with
  | zero => intro l _ h; omega
  | succ n ih =>
    intro l hl hn
    rw [LX8_test_4]
    by_cases e : l = 6
    · subst e; rw [if_pos (by decide), if_pos rfl]
    · have h6 : ¬ (6 : Int32) ≤ nI l := nle_nI (a := 6) (by omega) (by omega)
      rw [if_neg h6, gd_t (inb_n (by omega) (by decide)), isAt_d, bd1_s, if_pos rfl, nI_1]
      exact ih (l + 1) (by omega) (by omega)
theorem test_d {rd lt Nm : AI} {sz at_ : Int32} : fX8_test FU rd sz at_ 0 Nm lt = some (0, at_, 0) := testLoop_d FU 0 (by omega) (by unfold FU; omega)
theorem factor_d {rd lt Nm : AI} {sz at_ w : Int32} {f : Nat} : fX8_factor FU (f + 1) rd sz at_ 0 w Nm lt = some (0, at_, 0, w) := by
  show gX8_factor (fX8_factor FU f) FU rd sz at_ 0 w Nm lt = _
  unfold gX8_factor
  by_cases h4 : 4 ≤ w
  · rw [if_pos h4, if_pos h4, test_d, bd3_s, gd_t (Or.inl rfl)]
  · rw [if_neg h4, isAt_d, bd1_s, if_pos rfl, if_neg h4, isAt_d, bd1_s, if_pos rfl, test_d, bd3_s, gd_t (Or.inl rfl)]
theorem any_d {rd lt Nm : AI} {sz at_ w : Int32} : fX8_any (fX8_factor FU 6) FU rd sz at_ 0 w Nm lt = some (0, at_, 0, w) := by
  have h1 : fX8_both (fX8_factor FU 6) FU rd sz at_ 0 w Nm lt = some (0, at_, 0, w) := by
    unfold fX8_both
    rw [factor_d, bd4_s, show LX8_both_5 (fX8_factor FU 6) rd sz Nm lt FU = LX8_both_5 (fX8_factor FU 6) rd sz Nm lt (999 + 1) from rfl, LX8_both_5, isAt_d, bd1_s, if_pos rfl, gd_t (Or.inl rfl)]
  unfold fX8_any
  rw [h1, bd4_s, show LX8_any_5 FU (fX8_factor FU 6) rd sz Nm lt FU = LX8_any_5 FU (fX8_factor FU 6) rd sz Nm lt (999 + 1) from rfl, LX8_any_5, isAt_d, bd1_s, if_pos rfl, gd_t (Or.inl rfl)]
