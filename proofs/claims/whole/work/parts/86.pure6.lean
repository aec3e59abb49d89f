/-! ===== the parser: words, letters, a test ===== -/
theorem nI_inj {a b : Nat} (ha : a < 2 ^ 31) (hb : b < 2 ^ 31) (h : nI a = nI b) : a = b := by
  have h1 := congrArg Int32.toInt h
  rw [nI_toInt ha, nI_toInt hb] at h1
  omega
theorem bd2_s {α β γ : Type} {a : α} {b : β} {k : α → β → Option γ} : bd2 (some (a, b)) k = k a b := rfl
theorem bd3_s {α β γ δ : Type} {a : α} {b : β} {c : γ} {k : α → β → γ → Option δ} : bd3 (some (a, b, c)) k = k a b c := rfl
theorem bd4_s {α β γ δ ε : Type} {a : α} {b : β} {c : γ} {d : δ} {k : α → β → γ → δ → Option ε} : bd4 (some (a, b, c, d)) k = k a b c d := rfl
theorem bd5_s {α β γ δ ε ζ : Type} {a : α} {b : β} {c : γ} {d : δ} {e : ε} {k : α → β → γ → δ → ε → Option ζ} : bd5 (some (a, b, c, d, e)) k = k a b c d e := rfl
theorem bd6_s {α β γ δ ε ζ η : Type} {a : α} {b : β} {c : γ} {d : δ} {e : ε} {f : ζ} {k : α → β → γ → δ → ε → ζ → Option η} : bd6 (some (a, b, c, d, e, f)) k = k a b c d e f := rfl
theorem bd7_s {α β γ δ ε ζ η θ : Type} {a : α} {b : β} {c : γ} {d : δ} {e : ε} {f : ζ} {g : η} {k : α → β → γ → δ → ε → ζ → η → Option θ} : bd7 (some (a, b, c, d, e, f, g)) k = k a b c d e f g := rfl
def okS (sb : AI) (n : Nat) : Prop := ∀ k, k < n → fJ0_charAt_5068e n sb (nI k) = some (sb k)
theorem len_j : ∀ n, n < 10 → fJ0_length_8abf5 n = some (nI n) := by decide +kernel
theorem okS1 : okS (tx 1) 5 := by unfold okS; decide +kernel
theorem okS2 : okS (tx 2) 5 := by unfold okS; decide +kernel
theorem okS3 : okS (tx 3) 3 := by unfold okS; decide +kernel
theorem okS0 : okS (tx 0) 1 := by unfold okS; decide +kernel
theorem okS4 : okS (tx 4) 1 := by unfold okS; decide +kernel
theorem okS5 : okS (tx 5) 1 := by unfold okS; decide +kernel
theorem wordLoop_y {T sb : AI} {Lz a n : Nat} (hL : Lz ≤ 100) (hn : n < 10) (ho : okS sb n) (h : ∀ k, k < n → isA T Lz (a + k) (sb k)) : ∀ (m k : Nat), k ≤ n → n - k < m → a + k ≤ Lz → LX4_takesWord_2 T (nI Lz) n sb m (nI k) (nI (a + k)) = some (1, nI (a + n)) := by
  intro m
  induction m with
  | zero => intro k _ h; omega
  | succ m ih =>
    intro k hk hm ha
    rw [LX4_takesWord_2, len_j n hn, bd1_s]
    by_cases e : k = n
    · subst e; rw [if_pos (nI_le (Nat.le_refl _) (by omega))]
    · have hh := h k (by omega)
      rw [if_neg (nle_nI (by omega) (by omega)), ho k (by omega), bd1_s, isAt_c hL ha, bd1_s, bi_t hh, if_neg (by decide), nI_1, nI_1]
      exact ih (k + 1) (by omega) (by omega) (by have := hh.1; omega)
theorem wordLoop_n {T sb : AI} {Lz a n j : Nat} (hL : Lz ≤ 100) (hn : n < 10) (ho : okS sb n) (hj : j < n) (h : ∀ k, k < j → isA T Lz (a + k) (sb k)) (hx : ¬ isA T Lz (a + j) (sb j)) : ∀ (m k : Nat), k ≤ j → j - k < m → a + k ≤ Lz → LX4_takesWord_2 T (nI Lz) n sb m (nI k) (nI (a + k)) = some (0, nI (a + j)) := by
  intro m
  induction m with
  | zero => intro k _ h; omega
  | succ m ih =>
    intro k hk hm ha
    rw [LX4_takesWord_2, len_j n hn, bd1_s, if_neg (nle_nI (by omega) (by omega)), ho k (by omega), bd1_s, isAt_c hL ha, bd1_s]
    by_cases e : k = j
    · subst e; rw [bi_f hx, if_pos rfl]
    · have hh := h k (by omega)
      rw [bi_t hh, if_neg (by decide), nI_1, nI_1]
      exact ih (k + 1) (by omega) (by omega) (by have := hh.1; omega)
theorem word_y {T sb : AI} {Lz a n : Nat} (hL : Lz ≤ 100) (hn : n < 10) (ho : okS sb n) (ha : a ≤ Lz) (h : ∀ k, k < n → isA T Lz (a + k) (sb k)) : fX4_takesWord FU T (nI Lz) (nI a) n sb = some (1, nI (a + n)) := wordLoop_y hL hn ho h FU 0 (by omega) (by unfold FU; omega) ha
theorem word_n {T sb : AI} {Lz a n j : Nat} (hL : Lz ≤ 100) (hn : n < 10) (ho : okS sb n) (ha : a ≤ Lz) (hj : j < n) (h : ∀ k, k < j → isA T Lz (a + k) (sb k)) (hx : ¬ isA T Lz (a + j) (sb j)) : fX4_takesWord FU T (nI Lz) (nI a) n sb = some (0, nI (a + j)) := wordLoop_n hL hn ho hj h hx FU 0 (by omega) (by unfold FU; omega) ha
theorem word_or {T sb : AI} {Lz a : Nat} : ∀ n, (∀ k, k < n → isA T Lz (a + k) (sb k)) ∨ ∃ j, j < n ∧ (∀ k, k < j → isA T Lz (a + k) (sb k)) ∧ ¬ isA T Lz (a + j) (sb j)
  | 0 => Or.inl fun k hk => by omega
  | n + 1 => by
    rcases word_or (T := T) (sb := sb) (Lz := Lz) (a := a) n with h | ⟨j, h1, h2, h3⟩
    · by_cases e : isA T Lz (a + n) (sb n)
      · refine Or.inl fun k hk => ?_
        by_cases e2 : k = n
        · subst e2; exact e
        · exact h k (by omega)
      · exact Or.inr ⟨n, by omega, h, e⟩
    · exact Or.inr ⟨j, by omega, h2, h3⟩
/-- one sign as a word -/
theorem word1_y {T sb : AI} {Lz a : Nat} {c : Int32} (hL : Lz ≤ 100) (ho : okS sb 1) (hc : sb 0 = c) (ha : a ≤ Lz) (h : isA T Lz a c) : fX4_takesWord FU T (nI Lz) (nI a) 1 sb = some (1, nI (a + 1)) := word_y hL (by omega) ho ha (fun k hk => by
  have e : k = 0 := by omega
  subst e; rw [hc]; exact h)
theorem word1_n {T sb : AI} {Lz a : Nat} {c : Int32} (hL : Lz ≤ 100) (ho : okS sb 1) (hc : sb 0 = c) (ha : a ≤ Lz) (h : ¬ isA T Lz a c) : fX4_takesWord FU T (nI Lz) (nI a) 1 sb = some (0, nI a) := word_n (j := 0) hL (by omega) ho ha (by omega) (fun k hk => by omega) (by rw [hc]; exact h)
/-- the letters and the compares -/
theorem ix6_y : ∀ k, k < 6 → fJ0_indexOf_0f7a4 FU 6 (tx 6) (tx 6 k) = some (nI k) := by decide +kernel
theorem ix6_n : ∀ c, c < 128 → (∀ k, k < 6 → ¬ nI c = tx 6 k) → fJ0_indexOf_0f7a4 FU 6 (tx 6) (nI c) = some (-1) := by decide +kernel
theorem ix7_y : ∀ k, k < 3 → fJ0_indexOf_0f7a4 FU 3 (tx 7) (tx 7 k) = some (nI k) := by decide +kernel
theorem ix7_n : ∀ c, c < 128 → (∀ k, k < 3 → ¬ nI c = tx 7 k) → fJ0_indexOf_0f7a4 FU 3 (tx 7) (nI c) = some (-1) := by decide +kernel
theorem dis6 : ∀ k, k < 6 → ∀ j, j < 6 → tx 6 k = tx 6 j → k = j := by decide +kernel
theorem dis7 : ∀ k, k < 3 → ∀ j, j < 3 → tx 7 k = tx 7 j → k = j := by decide +kernel
theorem nnI_lt0 {k : Nat} (h : k < 2 ^ 31) : ¬ nI k < 0 := by
  intro e
  have : nI k < nI 0 := e
  rw [nI_ltI h (by omega)] at this
  omega
theorem nI_0le {k : Nat} (h : k < 2 ^ 31) : (0 : Int32) ≤ nI k := by
  show nI 0 ≤ nI k
  rw [nI_leI (by omega) h]; omega
theorem one_or {T sb : AI} {Lz a : Nat} : ∀ n, (∀ k, k < n → ¬ isA T Lz a (sb k)) ∨ ∃ k, k < n ∧ isA T Lz a (sb k)
  | 0 => Or.inl fun k hk => by omega
  | n + 1 => by
    rcases one_or (T := T) (sb := sb) (Lz := Lz) (a := a) n with h | ⟨k, h1, h2⟩
    · by_cases e : isA T Lz a (sb n)
      · exact Or.inr ⟨n, by omega, e⟩
      · refine Or.inl fun k hk => ?_
        by_cases e2 : k = n
        · subst e2; exact e
        · exact h k (by omega)
    · exact Or.inr ⟨k, by omega, h2⟩
theorem oneOf_y {T sb : AI} {Lz a n k : Nat} (hL : Lz ≤ 100) (hi : fJ0_indexOf_0f7a4 FU n sb (sb k) = some (nI k)) (hk : k < 10) (h : isA T Lz a (sb k)) : fX4_takesOneOf FU T (nI Lz) (nI a) n sb = some (nI k, nI (a + 1)) := by
  have h1 := h.1
  unfold fX4_takesOneOf
  rw [if_neg (nle_nI h1 (by omega)), gd_t (inb_n (by omega) (by decide)), nI_clamp (by omega), h.2, hi, bd1_s, if_neg (nnI_lt0 (by omega)), nI_1]
theorem oneOf_n {T sb : AI} {Lz a n m : Nat} (hT : Txt T Lz) (ha : a ≤ Lz) (hi : ∀ c, c < 128 → (∀ k, k < m → ¬ nI c = sb k) → fJ0_indexOf_0f7a4 FU n sb (nI c) = some (-1)) (h : ∀ k, k < m → ¬ isA T Lz a (sb k)) : fX4_takesOneOf FU T (nI Lz) (nI a) n sb = some (-1, nI a) := by
  obtain ⟨hL, hc⟩ := hT
  unfold fX4_takesOneOf
  by_cases e : a = Lz
  · subst e; rw [if_pos (nI_le (Nat.le_refl _) (by omega))]
  · obtain ⟨c, c1, c2⟩ := hc a (by omega)
    rw [if_neg (nle_nI (by omega) (by omega)), gd_t (inb_n (by omega) (by decide)), nI_clamp (by omega), c2, hi c c1 (fun k hk z => h k hk ⟨by omega, c2.trans z⟩), bd1_s, if_pos (by decide)]
/-! codes: sort, letter, number -/
abbrev CD : Type := Int32 × Int32 × Int32
def app (g : CD → Int32) : AI → Nat → List CD → AI
  | f, _, [] => f
  | f, z, c :: cs => app g (upd f z (g c)) (z + 1) cs
theorem app_app (g : CD → Int32) : ∀ (c1 c2 : List CD) (f : AI) (z : Nat), app g (app g f z c1) (z + c1.length) c2 = app g f z (c1 ++ c2)
  | [], c2, f, z => rfl
  | c :: c1, c2, f, z => by
    show app g (app g (upd f z (g c)) (z + 1) c1) (z + (c1.length + 1)) c2 = app g (upd f z (g c)) (z + 1) (c1 ++ c2)
    rw [← app_app g c1 c2 (upd f z (g c)) (z + 1)]
    congr 1
    omega
theorem app_upd (g : CD → Int32) (cs : List CD) (c : CD) (f : AI) (z : Nat) : upd (app g f z cs) (z + cs.length) (g c) = app g f z (cs ++ [c]) := by
  rw [← app_app]; rfl
theorem app_lo (g : CD → Int32) : ∀ (cs : List CD) (f : AI) (z j : Nat), j < z → app g f z cs j = f j
  | [], _, _, _, _ => rfl
  | c :: cs, f, z, j, h => by
    show app g (upd f z (g c)) (z + 1) cs j = f j
    rw [app_lo g cs _ _ j (by omega), upd_n (by omega)]
theorem app_at (g : CD → Int32) : ∀ (pre : List CD) (c : CD) (suf : List CD) (f : AI) (z : Nat), app g f z (pre ++ c :: suf) (z + pre.length) = g c
  | [], c, suf, f, z => by
    show app g (upd f z (g c)) (z + 1) suf z = g c
    rw [app_lo g suf _ _ z (by omega), upd_s]
  | p :: pre, c, suf, f, z => by
    show app g (upd f z (g p)) (z + 1) (pre ++ c :: suf) (z + (pre.length + 1)) = g c
    rw [← app_at g pre c suf (upd f z (g p)) (z + 1)]
    congr 1
    omega
abbrev aS : AI → Nat → List CD → AI := app (fun c => c.1)
abbrev aL : AI → Nat → List CD → AI := app (fun c => c.2.1)
abbrev aN : AI → Nat → List CD → AI := app (fun c => c.2.2)
def ev1 (Nm : AI) (st : Int32 × Int32) (c : CD) : Int32 × Int32 :=
  if c.1 = 0 then (if c.2.2 ≤ Nm c.2.1.toNatClampNeg then (st.1, (st.2 <<< (1 &&& 31)) ||| 0) else (st.1, (st.2 <<< (1 &&& 31)) ||| 1))
  else if c.1 = 1 then (if Nm c.2.1.toNatClampNeg = c.2.2 then (st.1, (st.2 <<< (1 &&& 31)) ||| 1) else (st.1, (st.2 <<< (1 &&& 31)) ||| 0))
  else if c.1 = 2 then (if Nm c.2.1.toNatClampNeg ≤ c.2.2 then (st.1, (st.2 <<< (1 &&& 31)) ||| 0) else (st.1, (st.2 <<< (1 &&& 31)) ||| 1))
  else if c.1 = 3 then (st.1, st.2 ^^^ 1)
  else if c.1 = 4 then (st.1, ((st.2.toUInt32 >>> ((1 : Int32).toUInt32 &&& Int32.toUInt32 31)).toInt32) &&& ((-2) ||| (st.2 &&& 1)))
  else if c.1 = 5 then (st.1, ((st.2.toUInt32 >>> ((1 : Int32).toUInt32 &&& Int32.toUInt32 31)).toInt32) ||| (st.2 &&& 1))
  else if c.1 = 6 then (st.1 + (st.2 &&& 1) * c.2.2, 0)
  else (st.1 - (st.2 &&& 1) * c.2.2, 0)
def evL (Nm : AI) : List CD → Int32 × Int32 → Int32 × Int32
  | [], st => st
  | c :: cs, st => evL Nm cs (ev1 Nm st c)
theorem evL_app (Nm : AI) : ∀ (c1 c2 : List CD) (st : Int32 × Int32), evL Nm (c1 ++ c2) st = evL Nm c2 (evL Nm c1 st)
  | [], _, _ => rfl
  | c :: c1, c2, st => evL_app Nm c1 c2 (ev1 Nm st c)
def okC (cs : List CD) : Prop := ∀ c, c ∈ cs → ∃ k : Nat, k < 6 ∧ c.2.1 = nI k
theorem okC_app {c1 c2 : List CD} (h1 : okC c1) (h2 : okC c2) : okC (c1 ++ c2) := by
  intro c hc
  rcases List.mem_append.mp hc with h | h
  · exact h1 c h
  · exact h2 c h
theorem okC_one {s n : Int32} {k : Nat} (hk : k < 6) : okC [(s, nI k, n)] := by
  intro c hc
  rw [List.mem_singleton] at hc
  subst hc; exact ⟨k, hk, rfl⟩
theorem okC_0 {s n : Int32} : okC [(s, 0, n)] := okC_one (k := 0) (by omega)
theorem ev1_congr {N1 N2 : AI} (h : ∀ i, i < 6 → N1 i = N2 i) {st : Int32 × Int32} {c : CD} {k : Nat} (hk : k < 6) (hc : c.2.1 = nI k) : ev1 N1 st c = ev1 N2 st c := by
  unfold ev1
  rw [hc, nI_clamp (by omega), h k hk]
theorem evL_congr {N1 N2 : AI} (h : ∀ i, i < 6 → N1 i = N2 i) : ∀ (cs : List CD) (st : Int32 × Int32), okC cs → evL N1 cs st = evL N2 cs st
  | [], _, _ => rfl
  | c :: cs, st, ho => by
    obtain ⟨k, h1, h2⟩ := ho c (List.mem_cons_self ..)
    show evL N1 cs (ev1 N1 st c) = evL N2 cs (ev1 N2 st c)
    rw [ev1_congr h h1 h2]
    exact evL_congr h cs _ (fun x hx => ho x (List.mem_cons_of_mem _ hx))
theorem sumLoop_ev {S L N tr : AI} {cs : List CD} (hz : cs.length ≤ 100) (ho : okC cs) : ∀ (suf pre : List CD) (n : Nat) (s t : Int32), cs = pre ++ suf → suf.length < n → LX3_sumFor_7 (aS S 0 cs) (aL L 0 cs) (aN N 0 cs) (nI cs.length) tr n s t (nI pre.length) = some (evL tr suf (s, t)).1 := by
  intro suf
  induction suf with
  | nil =>
    intro pre n s t e hn
    obtain ⟨m, rfl⟩ : ∃ m, n = m + 1 := ⟨n - 1, by have : ([] : List CD).length = 0 := rfl; omega⟩
    rw [List.append_nil] at e
    rw [LX3_sumFor_7, e, if_pos (nI_le (Nat.le_refl _) (by rw [← e]; omega))]
    rfl
  | cons c suf ih =>
    intro pre n s t e hn
    obtain ⟨m, rfl⟩ : ∃ m, n = m + 1 := ⟨n - 1, by omega⟩
    have hl : cs.length = pre.length + (suf.length + 1) := by rw [e, List.length_append]; rfl
    have e1 : aS S 0 cs pre.length = c.1 := by have := app_at (fun c => c.1) pre c suf S 0; rw [Nat.zero_add] at this; rw [e]; exact this
    have e2 : aL L 0 cs pre.length = c.2.1 := by have := app_at (fun c => c.2.1) pre c suf L 0; rw [Nat.zero_add] at this; rw [e]; exact this
    have e3 : aN N 0 cs pre.length = c.2.2 := by have := app_at (fun c => c.2.2) pre c suf N 0; rw [Nat.zero_add] at this; rw [e]; exact this
    obtain ⟨k, k1, k2⟩ := ho c (by rw [e]; exact List.mem_append.mpr (Or.inr (List.mem_cons_self ..)))
    have hb : inb (nI pre.length) 100 := inb_n (by omega) (by decide)
    have hnx : ∀ s' t', LX3_sumFor_7 (aS S 0 cs) (aL L 0 cs) (aN N 0 cs) (nI cs.length) tr m s' t' (nI pre.length + 1) = some (evL tr suf (s', t')).1 := by
      intro s' t'
      have := ih (pre ++ [c]) m s' t' (by rw [e, List.append_assoc]; rfl) (by have : (c :: suf).length = suf.length + 1 := rfl; omega)
      rw [List.length_append] at this
      rw [nI_1]; exact this
    show _ = some (evL tr suf (ev1 tr (s, t) c)).1
    rw [LX3_sumFor_7, if_neg (nle_nI (by omega) (by omega)), gd_t hb, gd_t hb, gd_t (inb_p (by rw [nI_clamp (by omega), e2]; exact k2) k1 (by decide)), gd_t hb, nI_clamp (by omega), e1, e2, e3]
    unfold ev1
    simp only [hnx]
    repeat' split
    all_goals rfl
theorem sumFor_ev {S L N tr : AI} {cs : List CD} (hz : cs.length ≤ 100) (ho : okC cs) : fX3_sumFor FU (aS S 0 cs) (aL L 0 cs) (aN N 0 cs) (nI cs.length) tr = some (evL tr cs (0, 0)).1 := sumLoop_ev hz ho cs [] FU 0 0 rfl (by unfold FU; omega)
theorem put_c {S L N : AI} {z : Nat} {x y w : Int32} (hz : z < 100) : fX3_put S L N (nI z) x y w = some (upd S z x, upd L z y, upd N z w, nI (z + 1)) := by
  have hb : inb (nI z) 100 := inb_n hz (by decide)
  unfold fX3_put
  have h100 : ¬ (100 : Int32) ≤ nI z := nle_nI (a := 100) hz (by omega)
  rw [if_neg h100, gd_t hb, gd_t hb, gd_t hb, nI_clamp (by omega), nI_1]
/-- what the truths do -/
theorem tr_push0 : ∀ t, t < 1024 → (nI t <<< (1 &&& 31)) ||| 0 = nI (2 * t + 0) := by decide +kernel
theorem tr_push1 : ∀ t, t < 1024 → (nI t <<< (1 &&& 31)) ||| 1 = nI (2 * t + 1) := by decide +kernel
theorem tr_not : ∀ t, t < 1024 → (nI (2 * t) ^^^ 1 = nI (2 * t + 1) ∧ nI (2 * t + 1) ^^^ 1 = nI (2 * t)) := by decide +kernel
def tB (x : Int32) : Int32 := ((x.toUInt32 >>> ((1 : Int32).toUInt32 &&& Int32.toUInt32 31)).toInt32) &&& ((-2) ||| (x &&& 1))
def tE (x : Int32) : Int32 := ((x.toUInt32 >>> ((1 : Int32).toUInt32 &&& Int32.toUInt32 31)).toInt32) ||| (x &&& 1)
theorem tr_both : ∀ t, t < 1024 → ∀ a, a < 2 → ∀ b, b < 2 → tB (nI (2 * (2 * t + a) + b)) = nI (2 * t + a * b) := by decide +kernel
theorem tr_either : ∀ t, t < 1024 → ∀ a, a < 2 → ∀ b, b < 2 → tE (nI (2 * (2 * t + a) + b)) = nI (2 * t + max a b) := by decide +kernel
