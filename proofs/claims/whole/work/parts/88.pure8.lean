/-! ===== the parser: chains of parts ===== -/
abbrev FT4 : Type := AI → Int32 → Int32 → Option Nat → AI → AI → AI → Int32 → Int32 → Option (Int32 × Int32 × AI × AI × AI × Int32)
abbrev FT8 : Type := AI → Int32 → Int32 → Int32 → Int32 → AI → AI → Option (Int32 × Int32 × Int32 × Int32)
theorem aS_app {c1 c2 : List CD} {f : AI} {z : Nat} : aS (aS f z c1) (z + c1.length) c2 = aS f z (c1 ++ c2) := app_app _ c1 c2 f z
theorem aL_app {c1 c2 : List CD} {f : AI} {z : Nat} : aL (aL f z c1) (z + c1.length) c2 = aL f z (c1 ++ c2) := app_app _ c1 c2 f z
theorem aN_app {c1 c2 : List CD} {f : AI} {z : Nat} : aN (aN f z c1) (z + c1.length) c2 = aN f z (c1 ++ c2) := app_app _ c1 c2 f z
theorem aS_upd {cs : List CD} {x y w : Int32} {f : AI} {z : Nat} : upd (aS f z cs) (z + cs.length) x = aS f z (cs ++ [(x, y, w)]) := app_upd (fun c => c.1) cs (x, y, w) f z
theorem aL_upd {cs : List CD} {x y w : Int32} {f : AI} {z : Nat} : upd (aL f z cs) (z + cs.length) y = aL f z (cs ++ [(x, y, w)]) := app_upd (fun c => c.2.1) cs (x, y, w) f z
theorem aN_upd {cs : List CD} {x y w : Int32} {f : AI} {z : Nat} : upd (aN f z cs) (z + cs.length) w = aN f z (cs ++ [(x, y, w)]) := app_upd (fun c => c.2.2) cs (x, y, w) f z
theorem len_app1 {c1 : List CD} {c : CD} {z : Nat} : z + c1.length + 1 = z + (c1 ++ [c]).length := by rw [List.length_append]; show _ = z + (c1.length + 1); omega
def cand (a b : Nat) : Nat := if a = 0 then 0 else if b = 0 then 0 else 1
def cor (a b : Nat) : Nat := if a = 0 then (if b = 0 then 0 else 1) else 1
theorem cand_b {a b : Nat} : cand a b < 2 := by
  unfold cand
  repeat' split
  all_goals omega
theorem cor_b {a b : Nat} : cor a b < 2 := by
  unfold cor
  repeat' split
  all_goals omega
theorem tr_both2 (t : Nat) (ht : t < 1024) (a : Nat) (ha : a < 2) (b : Nat) (hb : b < 2) : tB (nI (2 * (2 * t + a) + b)) = nI (2 * t + cand a b) := by
  rw [tr_both t ht a ha b hb]
  rcases (show a = 0 ∨ a = 1 by omega) with rfl | rfl <;> rcases (show b = 0 ∨ b = 1 by omega) with rfl | rfl <;> rfl
theorem tr_either2 (t : Nat) (ht : t < 1024) (a : Nat) (ha : a < 2) (b : Nat) (hb : b < 2) : tE (nI (2 * (2 * t + a) + b)) = nI (2 * t + cor a b) := by
  rw [tr_either t ht a ha b hb]
  rcases (show a = 0 ∨ a = 1 by omega) with rfl | rfl <;> rcases (show b = 0 ∨ b = 1 by omega) with rfl | rfl <;> rfl
theorem allLoop_ok {T rd lt : AI} {Lz B d : Nat} {F : FT4} {G : FT8} (hL : Lz ≤ 100) (hB : B ≤ 1024) (hr : ∀ j, j < Lz → rd j = T j)
    (hF : ∀ a, a ≤ Lz → POk (2 * B) (fun S L N z lib => F T (nI Lz) (nI a) lib S L N (nI z) (nI d)) (fun Nm => G rd (nI Lz) (nI a) 1 (nI d) Nm lt) d Lz a) :
    ∀ (n a i : Nat), i < a → a ≤ Lz → Lz - a < n →
    (∃ (a' : Nat) (cs : List CD), a ≤ a' ∧ a' ≤ Lz ∧ cs.length ≤ a' - a ∧ okC cs ∧ (∀ S L N z lib, z ≤ a → LX4_takesAllOf_12 F T (nI Lz) lib (nI d) n (nI i) (nI a) S L N (nI z) = some (1, nI a', aS S z cs, aL L z cs, aN N z cs, nI (z + cs.length))) ∧ ∀ Nm b, b < 2 → ∃ b', b' < 2 ∧ LX8_both_5 G rd (nI Lz) Nm lt n (nI b) (nI a) 1 (nI d) = some (nI b', nI a', 1, nI d) ∧ ∀ s t, t < B → evL Nm cs (s, nI (2 * t + b)) = (s, nI (2 * t + b'))) ∨
    ∃ a' : Nat, a' ≤ Lz ∧ (∀ S L N z lib, z ≤ a → ∃ S' L' N' z', LX4_takesAllOf_12 F T (nI Lz) lib (nI d) n (nI i) (nI a) S L N (nI z) = some (0, nI a', S', L', N', z')) ∧ ∀ Nm b, b < 2 → ∃ r : Int32, (r = 0 ∨ r = 1) ∧ LX8_both_5 G rd (nI Lz) Nm lt n (nI b) (nI a) 1 (nI d) = some (r, nI a', 0, nI d) := by
  intro n
  induction n with
  | zero => intro a i _ _ h; omega
  | succ n ih =>
    intro a i hi ha hn
    by_cases h : isA T Lz a 38
    · have h1 := h.1
      have hn1 : ∃ n', n = n' + 1 := ⟨n - 1, by omega⟩
      have h100 : ¬ (100 : Int32) ≤ nI i := nle_nI (a := 100) (by omega) (by omega)
      have hc : ∀ S L N z lib, LX4_takesAllOf_12 F T (nI Lz) lib (nI d) (n + 1) (nI i) (nI a) S L N (nI z) = bd6 (F T (nI Lz) (nI (a + 1)) lib S L N (nI z) (nI d)) (fun r dat s l n_ z => if r = 0 then some ((0 : Int32), dat, s, l, n_, z) else bd4 (fX3_put s l n_ z 4 0 0) (fun s l n_ z => LX4_takesAllOf_12 F T (nI Lz) lib (nI d) n (nI (i + 1)) dat s l n_ z)) := by
        intro S L N z lib
        rw [LX4_takesAllOf_12, if_neg h100, isAt_c hL ha, bd1_s, bi_t h, if_neg (by decide), nI_1, nI_1]
      have hm : ∀ Nm b, b < 2 → LX8_both_5 G rd (nI Lz) Nm lt (n + 1) (nI b) (nI a) 1 (nI d) = bd4 (G rd (nI Lz) (nI (a + 1)) 1 (nI d) Nm lt) (fun r mat w wi => if nI b = 0 then LX8_both_5 G rd (nI Lz) Nm lt n 0 mat w wi else (if r = 0 then LX8_both_5 G rd (nI Lz) Nm lt n 0 mat w wi else LX8_both_5 G rd (nI Lz) Nm lt n 1 mat w wi)) := by
        intro Nm b hb
        rw [LX8_both_5, isAt_m hL ha hr, bd1_s, bi_t h, if_neg (by decide), nI_1]
      rcases hF (a + 1) (by omega) with ⟨a1, c1, f1, f2, f3, f4, f5, f6⟩ | ⟨a1, f1, f2, f3⟩
      · dsimp only at f5 f6
        rcases ih a1 (i + 1) (by omega) f2 (by omega) with ⟨a2, c2, g1, g2, g3, g4, g5, g6⟩ | ⟨a2, g1, g2, g3⟩
        · refine Or.inl ⟨a2, (c1 ++ [(4, 0, 0)]) ++ c2, by omega, g2, ?_, okC_app (okC_app f4 okC_0) g4, fun S L N z lib hz => ?_, fun Nm b hb => ?_⟩
          · rw [List.length_append, List.length_append]; show c1.length + 1 + c2.length ≤ _; omega
          · have e5 := f5 S L N z lib (by omega)
            rw [hc, e5, bd6_s, if_neg (by decide), put_c (by omega), bd4_s]
            rw [aS_upd (y := 0) (w := 0), aL_upd (x := 4) (w := 0), aN_upd (x := 4) (y := 0), len_app1 (c := (4, 0, 0))]
            refine (g5 _ _ _ _ lib (by rw [List.length_append]; show z + (c1.length + 1) ≤ _; omega)).trans ?_
            rw [aS_app, aL_app, aN_app, List.length_append (as := c1 ++ _), Nat.add_assoc]
          · obtain ⟨b1, p1, p2, p3⟩ := f6 Nm
            obtain ⟨b2, q1, q2, q3⟩ := g6 Nm (cand b b1) (cand_b)
            refine ⟨b2, q1, ?_, fun s t ht => ?_⟩
            · rw [hm Nm b hb, p2, bd4_s]
              refine Eq.trans ?_ q2
              rcases (show b = 0 ∨ b = 1 by omega) with rfl | rfl <;> rcases (show b1 = 0 ∨ b1 = 1 by omega) with rfl | rfl <;> rfl
            · rw [evL_app, evL_app, p3 s (2 * t + b) (by omega)]
              have e7 : evL Nm [((4 : Int32), (0 : Int32), (0 : Int32))] (s, nI (2 * (2 * t + b) + b1)) = (s, tB (nI (2 * (2 * t + b) + b1))) := rfl
              rw [e7, tr_both2 t (by omega) b hb b1 p1]
              exact q3 s t ht
        · refine Or.inr ⟨a2, g1, fun S L N z lib hz => ?_, fun Nm b hb => ?_⟩
          · have e5 := f5 S L N z lib (by omega)
            rw [hc, e5, bd6_s, if_neg (by decide), put_c (by omega), bd4_s]
            exact g2 _ _ _ (z + c1.length + 1) lib (by omega)
          · obtain ⟨b1, p1, p2, p3⟩ := f6 Nm
            obtain ⟨r, q1, q2⟩ := g3 Nm (cand b b1) (cand_b)
            refine ⟨r, q1, ?_⟩
            rw [hm Nm b hb, p2, bd4_s]
            refine Eq.trans ?_ q2
            rcases (show b = 0 ∨ b = 1 by omega) with rfl | rfl <;> rcases (show b1 = 0 ∨ b1 = 1 by omega) with rfl | rfl <;> rfl
      · dsimp only at f2 f3
        refine Or.inr ⟨a1, f1, fun S L N z lib hz => ?_, fun Nm b hb => ?_⟩
        · obtain ⟨S', L', N', z', e5⟩ := f2 S L N z lib (by omega)
          rw [hc, e5, bd6_s, if_pos rfl]
          exact ⟨S', L', N', z', rfl⟩
        · obtain ⟨r, p1, p2⟩ := f3 Nm
          obtain ⟨n', rfl⟩ := hn1
          have hd : ∀ x : Int32, (x = 0 ∨ x = 1) → LX8_both_5 G rd (nI Lz) Nm lt (n' + 1) x (nI a1) 0 (nI d) = some (x, nI a1, 0, nI d) := by
            intro x hx
            rw [LX8_both_5, isAt_d, bd1_s, if_pos rfl, gd_t hx]
          rw [hm Nm b hb, p2, bd4_s]
          rw [hd 0 (Or.inl rfl), hd 1 (Or.inr rfl)]
          rcases b01 hb with e | e <;> rcases p1 with e2 | e2 <;> rw [e, e2]
          · exact ⟨_, Or.inl rfl, rfl⟩
          · exact ⟨_, Or.inl rfl, rfl⟩
          · exact ⟨_, Or.inl rfl, rfl⟩
          · exact ⟨_, Or.inr rfl, rfl⟩
    · refine Or.inl ⟨a, [], Nat.le_refl _, ha, Nat.zero_le _, (fun c hc => absurd hc (List.not_mem_nil)), fun S L N z lib hz => ?_, fun Nm b hb => ⟨b, hb, ?_, fun s t ht => rfl⟩⟩
      · rw [LX4_takesAllOf_12]
        split
        · rfl
        · rw [isAt_c hL ha, bd1_s, bi_f h, if_pos rfl]; rfl
      · rw [LX8_both_5, isAt_m hL ha hr, bd1_s, bi_f h, if_pos rfl, gd_t (b01 hb)]
theorem all_ok {T rd lt : AI} {Lz B d : Nat} {F : FT4} {G : FT8} (hL : Lz ≤ 100) (hB : B ≤ 1024) (hr : ∀ j, j < Lz → rd j = T j)
    (hF : ∀ a, a ≤ Lz → POk (2 * B) (fun S L N z lib => F T (nI Lz) (nI a) lib S L N (nI z) (nI d)) (fun Nm => G rd (nI Lz) (nI a) 1 (nI d) Nm lt) d Lz a) (a : Nat) (ha : a ≤ Lz) :
    POk B (fun S L N z lib => fX4_takesAllOf F FU T (nI Lz) (nI a) lib S L N (nI z) (nI d)) (fun Nm => fX8_both G FU rd (nI Lz) (nI a) 1 (nI d) Nm lt) d Lz a := by
  have hc : ∀ S L N z lib, fX4_takesAllOf F FU T (nI Lz) (nI a) lib S L N (nI z) (nI d) = bd6 (F T (nI Lz) (nI a) lib S L N (nI z) (nI d)) (fun r dat s l n_ z => if r = 0 then some ((0 : Int32), dat, s, l, n_, z) else LX4_takesAllOf_12 F T (nI Lz) lib (nI d) FU 0 dat s l n_ z) := fun S L N z lib => rfl
  have hm : ∀ Nm, fX8_both G FU rd (nI Lz) (nI a) 1 (nI d) Nm lt = bd4 (G rd (nI Lz) (nI a) 1 (nI d) Nm lt) (fun r mat w wi => LX8_both_5 G rd (nI Lz) Nm lt FU r mat w wi) := fun Nm => rfl
  rcases hF a ha with ⟨a1, c1, f1, f2, f3, f4, f5, f6⟩ | ⟨a1, f1, f2, f3⟩
  · dsimp only at f5 f6
    rcases allLoop_ok hL hB hr hF FU a1 0 (by omega) f2 (by unfold FU; omega) with ⟨a2, c2, g1, g2, g3, g4, g5, g6⟩ | ⟨a2, g1, g2, g3⟩
    · refine Or.inl ⟨a2, c1 ++ c2, by omega, g2, by rw [List.length_append]; omega, okC_app f4 g4, fun S L N z lib hz => ?_, fun Nm => ?_⟩
      · have e5 := f5 S L N z lib hz
        dsimp only
        rw [hc, e5, bd6_s, if_neg (by decide)]
        refine (g5 _ _ _ (z + c1.length) lib (by omega)).trans ?_
        rw [aS_app, aL_app, aN_app, List.length_append, Nat.add_assoc]
      · obtain ⟨b1, p1, p2, p3⟩ := f6 Nm
        obtain ⟨b2, q1, q2, q3⟩ := g6 Nm b1 p1
        refine ⟨b2, q1, ?_, fun s t ht => ?_⟩
        · dsimp only; rw [hm, p2, bd4_s]; exact q2
        · rw [evL_app, p3 s t (by omega)]; exact q3 s t ht
    · refine Or.inr ⟨a2, g1, fun S L N z lib hz => ?_, fun Nm => ?_⟩
      · have e5 := f5 S L N z lib hz
        dsimp only
        rw [hc, e5, bd6_s, if_neg (by decide)]
        exact g2 _ _ _ (z + c1.length) lib (by omega)
      · obtain ⟨b1, p1, p2, p3⟩ := f6 Nm
        obtain ⟨r, q1, q2⟩ := g3 Nm b1 p1
        exact ⟨r, q1, by dsimp only; rw [hm, p2, bd4_s]; exact q2⟩
  · dsimp only at f2 f3
    refine Or.inr ⟨a1, f1, fun S L N z lib hz => ?_, fun Nm => ?_⟩
    · obtain ⟨S', L', N', z', e5⟩ := f2 S L N z lib hz
      exact ⟨S', L', N', z', by dsimp only; rw [hc, e5, bd6_s, if_pos rfl]⟩
    · obtain ⟨r, p1, p2⟩ := f3 Nm
      refine ⟨r, p1, ?_⟩
      dsimp only
      rw [hm, p2, bd4_s, show FU = 999 + 1 from rfl, LX8_both_5, isAt_d, bd1_s, if_pos rfl, gd_t p1]
theorem anyLoop_ok {T rd lt : AI} {Lz B d : Nat} {F : FT4} {G : FT8} (hL : Lz ≤ 100) (hB : B ≤ 1024) (hr : ∀ j, j < Lz → rd j = T j)
    (hF : ∀ a, a ≤ Lz → POk (2 * B) (fun S L N z lib => fX4_takesAllOf F FU T (nI Lz) (nI a) lib S L N (nI z) (nI d)) (fun Nm => fX8_both G FU rd (nI Lz) (nI a) 1 (nI d) Nm lt) d Lz a) :
    ∀ (n a i : Nat), i < a → a ≤ Lz → Lz - a < n →
    (∃ (a' : Nat) (cs : List CD), a ≤ a' ∧ a' ≤ Lz ∧ cs.length ≤ a' - a ∧ okC cs ∧ (∀ S L N z lib, z ≤ a → LX4_takesAnyOf_12 FU F T (nI Lz) lib (nI d) n (nI i) (nI a) S L N (nI z) = some (1, nI a', aS S z cs, aL L z cs, aN N z cs, nI (z + cs.length))) ∧ ∀ Nm b, b < 2 → ∃ b', b' < 2 ∧ LX8_any_5 FU G rd (nI Lz) Nm lt n (nI b) (nI a) 1 (nI d) = some (nI b', nI a', 1, nI d) ∧ ∀ s t, t < B → evL Nm cs (s, nI (2 * t + b)) = (s, nI (2 * t + b'))) ∨
    ∃ a' : Nat, a' ≤ Lz ∧ (∀ S L N z lib, z ≤ a → ∃ S' L' N' z', LX4_takesAnyOf_12 FU F T (nI Lz) lib (nI d) n (nI i) (nI a) S L N (nI z) = some (0, nI a', S', L', N', z')) ∧ ∀ Nm b, b < 2 → ∃ r : Int32, (r = 0 ∨ r = 1) ∧ LX8_any_5 FU G rd (nI Lz) Nm lt n (nI b) (nI a) 1 (nI d) = some (r, nI a', 0, nI d) := by
  intro n
  induction n with
  | zero => intro a i _ _ h; omega
  | succ n ih =>
    intro a i hi ha hn
    by_cases h : isA T Lz a 124
    · have h1 := h.1
      have hn1 : ∃ n', n = n' + 1 := ⟨n - 1, by omega⟩
      have h100 : ¬ (100 : Int32) ≤ nI i := nle_nI (a := 100) (by omega) (by omega)
      have hc : ∀ S L N z lib, LX4_takesAnyOf_12 FU F T (nI Lz) lib (nI d) (n + 1) (nI i) (nI a) S L N (nI z) = bd6 (fX4_takesAllOf F FU T (nI Lz) (nI (a + 1)) lib S L N (nI z) (nI d)) (fun r dat s l n_ z => if r = 0 then some ((0 : Int32), dat, s, l, n_, z) else bd4 (fX3_put s l n_ z 5 0 0) (fun s l n_ z => LX4_takesAnyOf_12 FU F T (nI Lz) lib (nI d) n (nI (i + 1)) dat s l n_ z)) := by
        intro S L N z lib
        rw [LX4_takesAnyOf_12, if_neg h100, isAt_c hL ha, bd1_s, bi_t h, if_neg (by decide), nI_1, nI_1]
      have hm : ∀ Nm b, b < 2 → LX8_any_5 FU G rd (nI Lz) Nm lt (n + 1) (nI b) (nI a) 1 (nI d) = bd4 (fX8_both G FU rd (nI Lz) (nI (a + 1)) 1 (nI d) Nm lt) (fun r mat w wi => if nI b = 0 then (if r = 0 then LX8_any_5 FU G rd (nI Lz) Nm lt n 0 mat w wi else LX8_any_5 FU G rd (nI Lz) Nm lt n 1 mat w wi) else LX8_any_5 FU G rd (nI Lz) Nm lt n 1 mat w wi) := by
        intro Nm b hb
        rw [LX8_any_5, isAt_m hL ha hr, bd1_s, bi_t h, if_neg (by decide), nI_1]
      rcases hF (a + 1) (by omega) with ⟨a1, c1, f1, f2, f3, f4, f5, f6⟩ | ⟨a1, f1, f2, f3⟩
      · dsimp only at f5 f6
        rcases ih a1 (i + 1) (by omega) f2 (by omega) with ⟨a2, c2, g1, g2, g3, g4, g5, g6⟩ | ⟨a2, g1, g2, g3⟩
        · refine Or.inl ⟨a2, (c1 ++ [(5, 0, 0)]) ++ c2, by omega, g2, ?_, okC_app (okC_app f4 okC_0) g4, fun S L N z lib hz => ?_, fun Nm b hb => ?_⟩
          · rw [List.length_append, List.length_append]; show c1.length + 1 + c2.length ≤ _; omega
          · have e5 := f5 S L N z lib (by omega)
            rw [hc, e5, bd6_s, if_neg (by decide), put_c (by omega), bd4_s]
            rw [aS_upd (y := 0) (w := 0), aL_upd (x := 5) (w := 0), aN_upd (x := 5) (y := 0), len_app1 (c := (5, 0, 0))]
            refine (g5 _ _ _ _ lib (by rw [List.length_append]; show z + (c1.length + 1) ≤ _; omega)).trans ?_
            rw [aS_app, aL_app, aN_app, List.length_append (as := c1 ++ _), Nat.add_assoc]
          · obtain ⟨b1, p1, p2, p3⟩ := f6 Nm
            obtain ⟨b2, q1, q2, q3⟩ := g6 Nm (cor b b1) (cor_b)
            refine ⟨b2, q1, ?_, fun s t ht => ?_⟩
            · rw [hm Nm b hb, p2, bd4_s]
              refine Eq.trans ?_ q2
              rcases (show b = 0 ∨ b = 1 by omega) with rfl | rfl <;> rcases (show b1 = 0 ∨ b1 = 1 by omega) with rfl | rfl <;> rfl
            · rw [evL_app, evL_app, p3 s (2 * t + b) (by omega)]
              have e7 : evL Nm [((5 : Int32), (0 : Int32), (0 : Int32))] (s, nI (2 * (2 * t + b) + b1)) = (s, tE (nI (2 * (2 * t + b) + b1))) := rfl
              rw [e7, tr_either2 t (by omega) b hb b1 p1]
              exact q3 s t ht
        · refine Or.inr ⟨a2, g1, fun S L N z lib hz => ?_, fun Nm b hb => ?_⟩
          · have e5 := f5 S L N z lib (by omega)
            rw [hc, e5, bd6_s, if_neg (by decide), put_c (by omega), bd4_s]
            exact g2 _ _ _ (z + c1.length + 1) lib (by omega)
          · obtain ⟨b1, p1, p2, p3⟩ := f6 Nm
            obtain ⟨r, q1, q2⟩ := g3 Nm (cor b b1) (cor_b)
            refine ⟨r, q1, ?_⟩
            rw [hm Nm b hb, p2, bd4_s]
            refine Eq.trans ?_ q2
            rcases (show b = 0 ∨ b = 1 by omega) with rfl | rfl <;> rcases (show b1 = 0 ∨ b1 = 1 by omega) with rfl | rfl <;> rfl
      · dsimp only at f2 f3
        refine Or.inr ⟨a1, f1, fun S L N z lib hz => ?_, fun Nm b hb => ?_⟩
        · obtain ⟨S', L', N', z', e5⟩ := f2 S L N z lib (by omega)
          rw [hc, e5, bd6_s, if_pos rfl]
          exact ⟨S', L', N', z', rfl⟩
        · obtain ⟨r, p1, p2⟩ := f3 Nm
          obtain ⟨n', rfl⟩ := hn1
          have hd : ∀ x : Int32, (x = 0 ∨ x = 1) → LX8_any_5 FU G rd (nI Lz) Nm lt (n' + 1) x (nI a1) 0 (nI d) = some (x, nI a1, 0, nI d) := by
            intro x hx
            rw [LX8_any_5, isAt_d, bd1_s, if_pos rfl, gd_t hx]
          rw [hm Nm b hb, p2, bd4_s]
          rw [hd 0 (Or.inl rfl), hd 1 (Or.inr rfl)]
          rcases b01 hb with e | e <;> rcases p1 with e2 | e2 <;> rw [e, e2]
          · exact ⟨_, Or.inl rfl, rfl⟩
          · exact ⟨_, Or.inr rfl, rfl⟩
          · exact ⟨_, Or.inr rfl, rfl⟩
          · exact ⟨_, Or.inr rfl, rfl⟩
    · refine Or.inl ⟨a, [], Nat.le_refl _, ha, Nat.zero_le _, (fun c hc => absurd hc (List.not_mem_nil)), fun S L N z lib hz => ?_, fun Nm b hb => ⟨b, hb, ?_, fun s t ht => rfl⟩⟩
      · rw [LX4_takesAnyOf_12]
        split
        · rfl
        · rw [isAt_c hL ha, bd1_s, bi_f h, if_pos rfl]; rfl
      · rw [LX8_any_5, isAt_m hL ha hr, bd1_s, bi_f h, if_pos rfl, gd_t (b01 hb)]
theorem any_ok0 {T rd lt : AI} {Lz B d : Nat} {F : FT4} {G : FT8} (hL : Lz ≤ 100) (hB : B ≤ 1024) (hr : ∀ j, j < Lz → rd j = T j)
    (hF : ∀ a, a ≤ Lz → POk (2 * B) (fun S L N z lib => fX4_takesAllOf F FU T (nI Lz) (nI a) lib S L N (nI z) (nI d)) (fun Nm => fX8_both G FU rd (nI Lz) (nI a) 1 (nI d) Nm lt) d Lz a) (a : Nat) (ha : a ≤ Lz) :
    POk B (fun S L N z lib => fX4_takesAnyOf F FU T (nI Lz) (nI a) lib S L N (nI z) (nI d)) (fun Nm => fX8_any G FU rd (nI Lz) (nI a) 1 (nI d) Nm lt) d Lz a := by
  have hc : ∀ S L N z lib, fX4_takesAnyOf F FU T (nI Lz) (nI a) lib S L N (nI z) (nI d) = bd6 (fX4_takesAllOf F FU T (nI Lz) (nI a) lib S L N (nI z) (nI d)) (fun r dat s l n_ z => if r = 0 then some ((0 : Int32), dat, s, l, n_, z) else LX4_takesAnyOf_12 FU F T (nI Lz) lib (nI d) FU 0 dat s l n_ z) := fun S L N z lib => rfl
  have hm : ∀ Nm, fX8_any G FU rd (nI Lz) (nI a) 1 (nI d) Nm lt = bd4 (fX8_both G FU rd (nI Lz) (nI a) 1 (nI d) Nm lt) (fun r mat w wi => LX8_any_5 FU G rd (nI Lz) Nm lt FU r mat w wi) := fun Nm => rfl
  rcases hF a ha with ⟨a1, c1, f1, f2, f3, f4, f5, f6⟩ | ⟨a1, f1, f2, f3⟩
  · dsimp only at f5 f6
    rcases anyLoop_ok hL hB hr hF FU a1 0 (by omega) f2 (by unfold FU; omega) with ⟨a2, c2, g1, g2, g3, g4, g5, g6⟩ | ⟨a2, g1, g2, g3⟩
    · refine Or.inl ⟨a2, c1 ++ c2, by omega, g2, by rw [List.length_append]; omega, okC_app f4 g4, fun S L N z lib hz => ?_, fun Nm => ?_⟩
      · have e5 := f5 S L N z lib hz
        dsimp only
        rw [hc, e5, bd6_s, if_neg (by decide)]
        refine (g5 _ _ _ (z + c1.length) lib (by omega)).trans ?_
        rw [aS_app, aL_app, aN_app, List.length_append, Nat.add_assoc]
      · obtain ⟨b1, p1, p2, p3⟩ := f6 Nm
        obtain ⟨b2, q1, q2, q3⟩ := g6 Nm b1 p1
        refine ⟨b2, q1, ?_, fun s t ht => ?_⟩
        · dsimp only; rw [hm, p2, bd4_s]; exact q2
        · rw [evL_app, p3 s t (by omega)]; exact q3 s t ht
    · refine Or.inr ⟨a2, g1, fun S L N z lib hz => ?_, fun Nm => ?_⟩
      · have e5 := f5 S L N z lib hz
        dsimp only
        rw [hc, e5, bd6_s, if_neg (by decide)]
        exact g2 _ _ _ (z + c1.length) lib (by omega)
      · obtain ⟨b1, p1, p2, p3⟩ := f6 Nm
        obtain ⟨r, q1, q2⟩ := g3 Nm b1 p1
        exact ⟨r, q1, by dsimp only; rw [hm, p2, bd4_s]; exact q2⟩
  · dsimp only at f2 f3
    refine Or.inr ⟨a1, f1, fun S L N z lib hz => ?_, fun Nm => ?_⟩
    · obtain ⟨S', L', N', z', e5⟩ := f2 S L N z lib hz
      exact ⟨S', L', N', z', by dsimp only; rw [hc, e5, bd6_s, if_pos rfl]⟩
    · obtain ⟨r, p1, p2⟩ := f3 Nm
      refine ⟨r, p1, ?_⟩
      dsimp only
      rw [hm, p2, bd4_s, show FU = 999 + 1 from rfl, LX8_any_5, isAt_d, bd1_s, if_pos rfl, gd_t p1]
