/-! ===== the parser: tokens ===== -/
abbrev FU : Nat := 1000
/-- a text of Lz signs, each below 128 -/
def Txt (T : AI) (Lz : Nat) : Prop := Lz ≤ 100 ∧ ∀ j, j < Lz → ∃ c : Nat, c < 128 ∧ T j = nI c
def isA (T : AI) (Lz a : Nat) (c : Int32) : Prop := a < Lz ∧ T a = c
noncomputable def bi (p : Prop) : Int32 := by
  classical exact if p then 1 else 0
theorem bi_t {p : Prop} (h : p) : bi p = 1 := by unfold bi; exact if_pos h
theorem bi_f {p : Prop} (h : ¬ p) : bi p = 0 := by unfold bi; exact if_neg h
theorem bi_or (p : Prop) : bi p = 0 ∨ bi p = 1 := by
  by_cases h : p
  · exact Or.inr (bi_t h)
  · exact Or.inl (bi_f h)
theorem isAt_c {T : AI} {Lz a : Nat} {c : Int32} (hL : Lz ≤ 100) (ha : a ≤ Lz) : fX4_isAt T (nI Lz) (nI a) c = some (bi (isA T Lz a c)) := by
  unfold fX4_isAt
  by_cases e : a = Lz
  · subst e
    rw [if_pos (nI_le (Nat.le_refl _) (by omega)), bi_f (fun h => absurd h.1 (Nat.lt_irrefl _))]
  · rw [if_neg (nle_nI (by omega) (by omega)), gd_t (inb_n (by omega) (by decide)), nI_clamp (by omega)]
    by_cases h : T a = c
    · rw [if_pos h, bi_t ⟨by omega, h⟩]
    · rw [if_neg h, bi_f (fun z => h z.2)]
theorem isAt_m {T rd : AI} {Lz a : Nat} {c : Int32} (hL : Lz ≤ 100) (ha : a ≤ Lz) (hr : ∀ j, j < Lz → rd j = T j) : fX8_isAt rd (nI Lz) (nI a) 1 c = some (bi (isA T Lz a c)) := by
  unfold fX8_isAt
  rw [if_neg (by decide)]
  by_cases e : a = Lz
  · subst e
    rw [if_pos (nI_le (Nat.le_refl _) (by omega)), bi_f (fun h => absurd h.1 (Nat.lt_irrefl _))]
  · rw [if_neg (nle_nI (by omega) (by omega)), gd_t (inb_n (by omega) (by decide)), nI_clamp (by omega), hr a (by omega)]
    by_cases h : T a = c
    · rw [if_pos h, bi_t ⟨by omega, h⟩]
    · rw [if_neg h, bi_f (fun z => h z.2)]
theorem isAt_d {rd : AI} {sz at_ c : Int32} : fX8_isAt rd sz at_ 0 c = some 0 := by unfold fX8_isAt; rw [if_pos rfl]
theorem takes_d {rd : AI} {sz at_ c : Int32} : fX8_takes rd sz at_ 0 c = some (at_, 0) := by unfold fX8_takes; rw [isAt_d, bd1_s, if_pos rfl]
theorem takes_y {T rd : AI} {Lz a : Nat} {c : Int32} (hL : Lz ≤ 100) (ha : a ≤ Lz) (hr : ∀ j, j < Lz → rd j = T j) (h : isA T Lz a c) : fX8_takes rd (nI Lz) (nI a) 1 c = some (nI (a + 1), 1) := by
  unfold fX8_takes; rw [isAt_m hL ha hr, bd1_s, bi_t h, if_neg (by decide), nI_1]
theorem takes_n {T rd : AI} {Lz a : Nat} {c : Int32} (hL : Lz ≤ 100) (ha : a ≤ Lz) (hr : ∀ j, j < Lz → rd j = T j) (h : ¬ isA T Lz a c) : fX8_takes rd (nI Lz) (nI a) 1 c = some (nI a, 0) := by
  unfold fX8_takes; rw [isAt_m hL ha hr, bd1_s, bi_f h, if_pos rfl]
/-- a digit stands here -/
def isD (T : AI) (Lz a d : Nat) : Prop := a < Lz ∧ d < 10 ∧ T a = nI (48 + d)
def noD (T : AI) (Lz a : Nat) : Prop := ∀ d, ¬ isD T Lz a d
theorem nI_lt48 {c : Nat} (h : c < 128) : nI c < 48 ↔ c < 48 := by rw [show (48 : Int32) = nI 48 from rfl]; exact nI_ltI (by omega) (by omega)
theorem nI_lt57 {c : Nat} (h : c < 128) : 57 < nI c ↔ 57 < c := by rw [show (57 : Int32) = nI 57 from rfl]; exact nI_ltI (by omega) (by omega)
theorem dig_or {T : AI} {Lz a : Nat} (hT : Txt T Lz) : noD T Lz a ∨ ∃ d, isD T Lz a d := by
  by_cases h : ∃ d, isD T Lz a d
  · exact Or.inr h
  · exact Or.inl fun d hd => h ⟨d, hd⟩
theorem noD_at {T : AI} {Lz a c : Nat} (hn : noD T Lz a) (ha : a < Lz) (hc : T a = nI c) (h128 : c < 128) : c < 48 ∨ 57 < c := by
  rcases Nat.lt_or_ge c 48 with h | h
  · exact Or.inl h
  · rcases Nat.lt_or_ge 57 c with h2 | h2
    · exact Or.inr h2
    · exact absurd ⟨ha, by omega, by rw [hc]; congr 1; omega⟩ (hn (c - 48))
theorem isDigit_y {d : Nat} (h : d < 10) : fX4_isDigit (nI (48 + d)) = some 1 := by
  unfold fX4_isDigit
  rw [if_neg (by rw [nI_lt48 (by omega)]; omega), if_neg (by rw [nI_lt57 (by omega)]; omega)]
theorem isDigit_n {c : Nat} (h128 : c < 128) (h : c < 48 ∨ 57 < c) : fX4_isDigit (nI c) = some 0 := by
  unfold fX4_isDigit
  by_cases h1 : c < 48
  · rw [if_pos ((nI_lt48 h128).mpr h1)]
  · rw [if_neg (fun z => h1 ((nI_lt48 h128).mp z)), if_pos ((nI_lt57 h128).mpr (by omega))]
theorem isDigM_y {T rd : AI} {Lz a d : Nat} (hL : Lz ≤ 100) (hr : ∀ j, j < Lz → rd j = T j) (h : isD T Lz a d) : fX8_isDigit rd (nI Lz) (nI a) 1 = some 1 := by
  obtain ⟨h1, h2, h3⟩ := h
  unfold fX8_isDigit
  rw [if_neg (by decide), if_neg (nle_nI (by omega) (by omega)), gd_t (inb_n (by omega) (by decide)), gd_t (inb_n (by omega) (by decide)), nI_clamp (by omega), hr a h1, h3, if_neg (by rw [nI_lt48 (by omega)]; omega), if_neg (by rw [nI_lt57 (by omega)]; omega)]
theorem isDigM_n {T rd : AI} {Lz a : Nat} (hT : Txt T Lz) (ha : a ≤ Lz) (hr : ∀ j, j < Lz → rd j = T j) (h : noD T Lz a) : fX8_isDigit rd (nI Lz) (nI a) 1 = some 0 := by
  obtain ⟨hL, hc⟩ := hT
  unfold fX8_isDigit
  rw [if_neg (by decide)]
  by_cases e : a = Lz
  · subst e; rw [if_pos (nI_le (Nat.le_refl _) (by omega))]
  · obtain ⟨c, c1, c2⟩ := hc a (by omega)
    have hq := noD_at h (by omega) c2 c1
    rw [if_neg (nle_nI (by omega) (by omega)), gd_t (inb_n (by omega) (by decide)), gd_t (inb_n (by omega) (by decide)), nI_clamp (by omega), hr a (by omega), c2]
    by_cases h1 : c < 48
    · rw [if_pos ((nI_lt48 c1).mpr h1)]
    · rw [if_neg (fun z => h1 ((nI_lt48 c1).mp z)), if_pos ((nI_lt57 c1).mpr (by omega))]
/-- a number stands here: its value, where it ends -/
def numS (T : AI) (Lz a v a' : Nat) : Prop := (∃ d, isD T Lz a d ∧ noD T Lz (a + 1) ∧ v = d ∧ a' = a + 1) ∨ ∃ d e, isD T Lz a d ∧ isD T Lz (a + 1) e ∧ v = 10 * d + e ∧ a' = a + 2
theorem num_or {T : AI} {Lz a : Nat} (hT : Txt T Lz) : noD T Lz a ∨ ∃ v a', numS T Lz a v a' := by
  rcases dig_or (a := a) hT with h | ⟨d, hd⟩
  · exact Or.inl h
  · rcases dig_or (a := a + 1) hT with h2 | ⟨e, he⟩
    · exact Or.inr ⟨d, a + 1, Or.inl ⟨d, hd, h2, rfl, rfl⟩⟩
    · exact Or.inr ⟨10 * d + e, a + 2, Or.inr ⟨d, e, hd, he, rfl, rfl⟩⟩
theorem numS_b {T : AI} {Lz a v a' : Nat} (h : numS T Lz a v a') : v < 100 ∧ a < a' ∧ a' ≤ Lz := by
  rcases h with ⟨d, ⟨h1, h2, -⟩, -, rfl, rfl⟩ | ⟨d, e, ⟨h1, h2, -⟩, ⟨h3, h4, -⟩, rfl, rfl⟩
  · omega
  · omega
theorem numLoop_n {T : AI} {Lz a n : Nat} {l1 : Int32} {i : Nat} (hT : Txt T Lz) (ha : a ≤ Lz) (h : noD T Lz a) : LX4_takesNumber_4 T (nI Lz) (n + 1) l1 (nI i) (nI a) = some (l1, nI a) := by
  obtain ⟨hL, hc⟩ := hT
  rw [LX4_takesNumber_4]
  split
  · rfl
  · by_cases e : a = Lz
    · subst e; rw [if_pos (nI_le (Nat.le_refl _) (by omega))]
    · obtain ⟨c, c1, c2⟩ := hc a (by omega)
      rw [if_neg (nle_nI (by omega) (by omega)), gd_t (inb_n (by omega) (by decide)), gd_t (inb_n (by omega) (by decide)), nI_clamp (by omega), c2, isDigit_n c1 (noD_at h (by omega) c2 c1), bd1_s, if_pos rfl]
theorem numLoop_y {T : AI} {Lz a d n : Nat} {l1 : Int32} {i : Nat} (hL : Lz ≤ 100) (hi : i < 2) (h : isD T Lz a d) : LX4_takesNumber_4 T (nI Lz) (n + 1) l1 (nI i) (nI a) = LX4_takesNumber_4 T (nI Lz) n (jmax l1 0 * 10 + nI (48 + d) - 48) (nI (i + 1)) (nI (a + 1)) := by
  obtain ⟨h1, h2, h3⟩ := h
  have e2 : ¬ (2 : Int32) ≤ nI i := by rw [show (2 : Int32) = nI 2 from rfl]; exact nle_nI hi (by omega)
  rw [LX4_takesNumber_4, if_neg e2, if_neg (nle_nI (by omega) (by omega)), gd_t (inb_n (by omega) (by decide)), gd_t (inb_n (by omega) (by decide)), nI_clamp (by omega), h3, isDigit_y h2, bd1_s, if_neg (by decide), nI_1, nI_1]
theorem number_cn {T : AI} {Lz a : Nat} (hT : Txt T Lz) (ha : a ≤ Lz) (h : noD T Lz a) : fX4_takesNumber FU T (nI Lz) (nI a) = some (-1, nI a) := numLoop_n (i := 0) hT ha h
theorem val1 : ∀ d, d < 10 → jmax (-1) 0 * 10 + nI (48 + d) - 48 = nI d := by decide +kernel
theorem val2 : ∀ d, d < 10 → ∀ e, e < 10 → jmax (nI d) 0 * 10 + nI (48 + e) - 48 = nI (10 * d + e) := by decide +kernel
theorem val3 : ∀ d, d < 10 → nI (48 + d) - 48 = nI d := by decide +kernel
theorem val4 : ∀ d, d < 10 → ∀ e, e < 10 → 10 * (nI (48 + d) - 48) + nI (48 + e) - 48 = nI (10 * d + e) := by decide +kernel
theorem number_cy {T : AI} {Lz a v a' : Nat} (hT : Txt T Lz) (h : numS T Lz a v a') : fX4_takesNumber FU T (nI Lz) (nI a) = some (nI v, nI a') := by
  unfold fX4_takesNumber
  rw [show (0 : Int32) = nI 0 from rfl]
  rcases h with ⟨d, h1, h2, rfl, rfl⟩ | ⟨d, e, h1, h2, rfl, rfl⟩
  · rw [show FU = 998 + 1 + 1 from rfl, numLoop_y hT.1 (by omega) h1]
    rw [val1 v h1.2.1]
    exact numLoop_n hT (by have := h1.1; omega) h2
  · rw [show FU = 997 + 1 + 1 + 1 from rfl, numLoop_y hT.1 (by omega) h1, numLoop_y hT.1 (by omega) h2]
    rw [val1 d h1.2.1, val2 d h1.2.1 e h2.2.1, LX4_takesNumber_4, if_pos (by decide)]
theorem number_mn {T rd : AI} {Lz a : Nat} (hT : Txt T Lz) (ha : a ≤ Lz) (hr : ∀ j, j < Lz → rd j = T j) (h : noD T Lz a) : fX8_number_ rd (nI Lz) (nI a) 1 = some (0, nI a, 0) := by
  unfold fX8_number_; rw [isDigM_n hT ha hr h, bd1_s, if_pos rfl]
theorem number_md {rd : AI} {sz at_ : Int32} : fX8_number_ rd sz at_ 0 = some (0, at_, 0) := by
  unfold fX8_number_ fX8_isDigit; rw [if_pos rfl, bd1_s, if_pos rfl]
theorem number_my {T rd : AI} {Lz a v a' : Nat} (hT : Txt T Lz) (hr : ∀ j, j < Lz → rd j = T j) (h : numS T Lz a v a') : fX8_number_ rd (nI Lz) (nI a) 1 = some (nI v, nI a', 1) := by
  have hL := hT.1
  unfold fX8_number_
  rcases h with ⟨d, h1, h2, rfl, rfl⟩ | ⟨d, e, h1, h2, rfl, rfl⟩
  · have hz := h1.1
    rw [isDigM_y hT.1 hr h1, bd1_s, if_neg (by decide), gd_t (inb_n (by omega) (by decide)), nI_1, isDigM_n hT (by omega) hr h2, bd1_s, if_pos rfl, nI_clamp (by omega), hr a hz, h1.2.2, val3 v h1.2.1]
  · have hz := h1.1
    have hz2 := h2.1
    rw [isDigM_y hT.1 hr h1, bd1_s, if_neg (by decide), gd_t (inb_n (by omega) (by decide)), nI_1, isDigM_y hT.1 hr h2, bd1_s, if_neg (by decide), gd_t (inb_n (by omega) (by decide)), nI_clamp (by omega), nI_clamp (by omega), hr a hz, hr (a + 1) hz2, h1.2.2, h2.2.2, val4 d h1.2.1 e h2.2.1, nI_1]
