/-! ===== the parser: a clause ===== -/
def Tb (bg wd lt : AI) : Prop := (∀ k, k < 6 → lt k = tx 6 k) ∧ bg 0 = 117 ∧ bg 1 = 100 ∧ bg 2 = 98 ∧ ∀ k, k < 15 → wd k = ([117, 112, 0, 0, 0, 100, 111, 119, 110, 0, 98, 101, 97, 114, 0] : List Int32).getD k 0
theorem Tb.lt {bg wd lt : AI} (h : Tb bg wd lt) : ∀ k, k < 6 → lt k = tx 6 k := h.1
theorem Tb.b0 {bg wd lt : AI} (h : Tb bg wd lt) : bg 0 = 117 := h.2.1
theorem Tb.b1 {bg wd lt : AI} (h : Tb bg wd lt) : bg 1 = 100 := h.2.2.1
theorem Tb.b2 {bg wd lt : AI} (h : Tb bg wd lt) : bg 2 = 98 := h.2.2.2.1
theorem Tb.w {bg wd lt : AI} (h : Tb bg wd lt) : ∀ k, k < 15 → wd k = ([117, 112, 0, 0, 0, 100, 111, 119, 110, 0, 98, 101, 97, 114, 0] : List Int32).getD k 0 := h.2.2.2.2
def kw (c : Nat) : Nat := if c = 0 then 3 else if c = 1 then 2 else 1
def kn (c : Nat) : Nat := if c = 0 then 2 else 4
theorem beg_or {T : AI} {Lz a : Nat} : (¬ isA T Lz a 117 ∧ ¬ isA T Lz a 100 ∧ ¬ isA T Lz a 98) ∨ ∃ c, c < 3 ∧ isA T Lz a (tx (kw c) 0) := by
  by_cases h1 : isA T Lz a 117
  · exact Or.inr ⟨0, by omega, h1⟩
  by_cases h2 : isA T Lz a 100
  · exact Or.inr ⟨1, by omega, h2⟩
  by_cases h3 : isA T Lz a 98
  · exact Or.inr ⟨2, by omega, h3⟩
  exact Or.inl ⟨h1, h2, h3⟩
/-- what comes behind a clause's word and its blank, in the model -/
noncomputable def clM (c : Nat) (rd : AI) (sz wi s be : Int32) (Nm lt : AI) (mat w : Int32) : Option (Int32 × Int32 × Int32 × Int32 × Int32) :=
  bd2 (fX8_takes rd sz mat w 32) (fun mat w => bd3 (fX8_number_ rd sz mat w) (fun r mat w => if nI c = 2 then some (mat, w, wi, s, r) else bd2 (fX8_takes rd sz mat w 32) (fun mat w => bd4 (fX8_any (fX8_factor FU 6) FU rd sz mat w 0 Nm lt) (fun q mat w wi => if q = 0 then some (mat, w, wi, s + 0, be) else if nI c = 0 then some (mat, w, wi, s + r, be) else some (mat, w, wi, s + (-r), be)))))
theorem clLoop_e {c k n : Nat} {rd lt bg wd Nm : AI} {sz wi s be mat w : Int32} (hb : Tb bg wd lt) (hc : c < 3) (hk : k = kn c) : LX8_clause_47 FU rd sz wi s be Nm lt wd (nI c) (n + 1) (nI k) mat w = clM c rd sz wi s be Nm lt mat w := by
  subst hk
  have h5 : ¬ (5 : Int32) ≤ nI (kn c) := nle_nI (a := 5) (by unfold kn; split <;> omega) (by omega)
  have e : 5 * nI c + nI (kn c) = nI (5 * c + kn c) := by rw [show (5 : Int32) = nI 5 from rfl, pk_mul, nI_add]
  have hlt : 5 * c + kn c < 15 := by unfold kn; split <;> omega
  have hz : wd (5 * c + kn c) = 0 := by
    rw [hb.w _ hlt]
    rcases (show c = 0 ∨ c = 1 ∨ c = 2 by omega) with rfl | rfl | rfl <;> rfl
  rw [LX8_clause_47, if_neg h5, e, gd_t (inb_n hlt (by decide)), if_pos (show wd (nI (5 * c + kn c)).toNatClampNeg = 0 by rw [nI_clamp (by omega)]; exact hz)]
  rfl
theorem clLoop_s {c k n : Nat} {rd lt bg wd Nm : AI} {sz wi s be mat w : Int32} (hb : Tb bg wd lt) (hc : c < 3) (hk : k < kn c) : LX8_clause_47 FU rd sz wi s be Nm lt wd (nI c) (n + 1) (nI k) mat w = bd2 (fX8_takes rd sz mat w (tx (kw c) k)) (fun mat w => LX8_clause_47 FU rd sz wi s be Nm lt wd (nI c) n (nI (k + 1)) mat w) := by
  have hk5 : k < 4 := by unfold kn at hk; split at hk <;> omega
  have h5 : ¬ (5 : Int32) ≤ nI k := nle_nI (a := 5) (by omega) (by omega)
  have e : 5 * nI c + nI k = nI (5 * c + k) := by rw [show (5 : Int32) = nI 5 from rfl, pk_mul, nI_add]
  have hlt : 5 * c + k < 15 := by omega
  have hz : wd (5 * c + k) = tx (kw c) k ∧ ¬ tx (kw c) k = 0 := by
    rw [hb.w _ hlt]
    rcases (show c = 0 ∨ c = 1 ∨ c = 2 by omega) with rfl | rfl | rfl
    · have : k < 2 := hk
      rcases (show k = 0 ∨ k = 1 by omega) with rfl | rfl <;> exact ⟨rfl, by decide⟩
    · rcases (show k = 0 ∨ k = 1 ∨ k = 2 ∨ k = 3 by omega) with rfl | rfl | rfl | rfl <;> exact ⟨rfl, by decide⟩
    · rcases (show k = 0 ∨ k = 1 ∨ k = 2 ∨ k = 3 by omega) with rfl | rfl | rfl | rfl <;> exact ⟨rfl, by decide⟩
  rw [LX8_clause_47, if_neg h5, e, gd_t (inb_n hlt (by decide)), if_neg (show ¬ wd (nI (5 * c + k)).toNatClampNeg = 0 by rw [nI_clamp (by omega), hz.1]; exact hz.2), gd_t (inb_n hlt (by decide)), nI_1, nI_clamp (by omega), hz.1]
theorem clM_d {c : Nat} {rd lt Nm : AI} {sz wi s be mat : Int32} : ∃ wi' s' be', clM c rd sz wi s be Nm lt mat 0 = some (mat, 0, wi', s', be') := by
  unfold clM
  rw [takes_d, bd2_s, number_md, bd3_s]
  split
  · exact ⟨_, _, _, rfl⟩
  · rw [takes_d, bd2_s, any_d, bd4_s, if_pos rfl]
    exact ⟨_, _, _, rfl⟩
theorem clLoop_d {c : Nat} {rd lt bg wd Nm : AI} {sz wi s be mat : Int32} (hb : Tb bg wd lt) (hc : c < 3) : ∀ (n k : Nat), k ≤ kn c → kn c - k < n → ∃ wi' s' be', LX8_clause_47 FU rd sz wi s be Nm lt wd (nI c) n (nI k) mat 0 = some (mat, 0, wi', s', be') := by
  intro n
  induction n with
  | zero => intro k _ h; omega
  | succ n ih =>
    intro k hk hn
    by_cases e : k = kn c
    · rw [clLoop_e hb hc e]; exact clM_d
    · rw [clLoop_s hb hc (by omega), takes_d, bd2_s]
      exact ih (k + 1) (by omega) (by omega)
/-- the word matches up to j -/
theorem clLoop_w {T : AI} {Lz a c j : Nat} {rd lt bg wd Nm : AI} {wi s be : Int32} (hL : Lz ≤ 100) (hr : ∀ j, j < Lz → rd j = T j) (hb : Tb bg wd lt) (hc : c < 3) (hj : j ≤ kn c) (h : ∀ k, k < j → isA T Lz (a + k) (tx (kw c) k)) : ∀ (n k : Nat), k ≤ j → a + k ≤ Lz → LX8_clause_47 FU rd (nI Lz) wi s be Nm lt wd (nI c) (n + (j - k)) (nI k) (nI (a + k)) 1 = LX8_clause_47 FU rd (nI Lz) wi s be Nm lt wd (nI c) n (nI j) (nI (a + j)) 1 := by
  intro n k hk
  obtain ⟨q, e⟩ : ∃ q, j - k = q := ⟨_, rfl⟩
  rw [e]
  induction q generalizing k with
  | zero => intro _; have : k = j := by omega
            subst this; rfl
  | succ q ih =>
    intro ha
    have hh := h k (by omega)
    have h1 := hh.1
    rw [show n + (q + 1) = (n + q) + 1 by omega, clLoop_s hb hc (by omega), takes_y hL ha hr hh, bd2_s]
    exact ih (k + 1) (by omega) (by omega) (by omega)
/-- which clause begins -/
theorem clWhich {T : AI} {Lz a κ : Nat} {rd lt bg wd Nm : AI} {wi s be : Int32} (hL : Lz ≤ 100) (ha : a ≤ Lz) (hr : ∀ j, j < Lz → rd j = T j) (h : ∀ j, j < 3 → (isA T Lz a (bg j) ↔ j = κ)) : ∀ (n l : Nat), l ≤ 3 → 3 - l < n → LX8_clause_4 FU rd (nI Lz) (nI a) 1 wi s be Nm lt bg wd n (if κ < l then nI κ else -1) (nI l) = LX8_clause_4 FU rd (nI Lz) (nI a) 1 wi s be Nm lt bg wd 1 (if κ < 3 then nI κ else -1) 3 := by
  intro n
  induction n with
  | zero => intro l _ h; omega
  | succ n ih =>
    intro l hl hn
    by_cases e : l = 3
    · subst e
      rw [LX8_clause_4, LX8_clause_4, if_pos (show (3 : Int32) ≤ nI 3 by decide), if_pos (show (3 : Int32) ≤ 3 by decide)]
    · have h6 : ¬ (3 : Int32) ≤ nI l := nle_nI (a := 3) (by omega) (by omega)
      rw [LX8_clause_4, if_neg h6, gd_t (inb_n (by omega) (by decide)), nI_clamp (by omega), isAt_m hL ha hr, bd1_s]
      have hs := ih (l + 1) (by omega) (by omega)
      by_cases e2 : l = κ
      · rw [bi_t ((h l (by omega)).mpr e2), if_neg (by decide), nI_1, ← hs, if_pos (by omega), e2]
      · rw [bi_f (fun z => e2 ((h l (by omega)).mp z)), if_pos rfl, nI_1, ← hs]
        congr 1
        by_cases e3 : κ < l
        · rw [if_pos e3, if_pos (by omega)]
        · rw [if_neg e3, if_neg (by omega)]
theorem clause_n {T : AI} {Lz a : Nat} {rd lt bg wd Nm : AI} {wi s be : Int32} (hL : Lz ≤ 100) (ha : a ≤ Lz) (hr : ∀ j, j < Lz → rd j = T j) (hb : Tb bg wd lt) (h : ¬ isA T Lz a 117 ∧ ¬ isA T Lz a 100 ∧ ¬ isA T Lz a 98) : fX8_clause FU rd (nI Lz) (nI a) 1 wi s be Nm lt bg wd = some (nI a, 0, wi, s, be) := by
  have h3 : ∀ j, j < 3 → ¬ isA T Lz a (bg j) := by
    intro j hj
    rcases (show j = 0 ∨ j = 1 ∨ j = 2 by omega) with rfl | rfl | rfl
    · rw [hb.b0]; exact h.1
    · rw [hb.b1]; exact h.2.1
    · rw [hb.b2]; exact h.2.2
  have := clWhich (lt := lt) (bg := bg) (wd := wd) (Nm := Nm) (wi := wi) (s := s) (be := be) (κ := 3) hL ha hr (fun j hj => ⟨fun z => absurd z (h3 j hj), fun z => by omega⟩) FU 0 (by omega) (by unfold FU; omega)
  rw [if_neg (by omega), if_neg (by omega)] at this
  unfold fX8_clause
  refine this.trans ?_
  rw [LX8_clause_4, if_pos (by decide), if_pos rfl]
theorem clause_c {T : AI} {Lz a c : Nat} {rd lt bg wd Nm : AI} {wi s be : Int32} (hL : Lz ≤ 100) (ha : a ≤ Lz) (hr : ∀ j, j < Lz → rd j = T j) (hb : Tb bg wd lt) (hc : c < 3) (h : isA T Lz a (tx (kw c) 0)) : fX8_clause FU rd (nI Lz) (nI a) 1 wi s be Nm lt bg wd = LX8_clause_47 FU rd (nI Lz) wi s be Nm lt wd (nI c) FU 0 (nI a) 1 := by
  have hbg : ∀ j, j < 3 → bg j = tx (kw j) 0 := by
    intro j hj
    rcases (show j = 0 ∨ j = 1 ∨ j = 2 by omega) with rfl | rfl | rfl
    · exact hb.b0
    · exact hb.b1
    · exact hb.b2
  have dd : ∀ i, i < 3 → ∀ j, j < 3 → tx (kw i) 0 = tx (kw j) 0 → i = j := by decide +kernel
  have := clWhich (lt := lt) (bg := bg) (wd := wd) (Nm := Nm) (wi := wi) (s := s) (be := be) (κ := c) hL ha hr (fun j hj => ⟨fun z => dd j hj c hc (by rw [hbg j hj] at z; exact isA_uni z h), fun z => by rw [z, hbg c hc]; exact h⟩) FU 0 (by omega) (by unfold FU; omega)
  rw [if_neg (by omega), if_pos hc] at this
  unfold fX8_clause
  refine this.trans ?_
  rw [LX8_clause_4, if_pos (by decide), if_neg (nI_m1 (by omega))]
/-- the class's clause behind its word -/
noncomputable def clC (c : Nat) (T : AI) (Lz : Int32) (lib : Option Nat) (S L N : AI) (z bb dat : Int32) : Option (Int32 × Int32 × AI × AI × AI × Int32 × Int32) :=
  bd2 (fX4_takesNumber FU T Lz dat) (fun n dat => if 0 ≤ n then (if c = 2 then some (1, dat, S, L, N, z, n) else bd2 (fX4_takesWord FU T Lz dat 1 (tx 4)) (fun r dat => if r = 0 then some (0, dat, S, L, N, z, bb) else bd6 (fX4_takesAnyOf (fX4_takesPart FU 6) FU T Lz dat lib S L N z 0) (fun r dat S L N z => if r = 0 then some (0, dat, S, L, N, z, bb) else bd4 (fX3_put S L N z (if c = 0 then 6 else 7) 0 n) (fun S L N z => some (1, dat, S, L, N, z, bb))))) else some (0, dat, S, L, N, z, bb))
theorem clauseC {T S L N : AI} {Lz a c : Nat} {lib : Option Nat} {z bb : Int32} (hL : Lz ≤ 100) (ha : a ≤ Lz) (hc : c < 3) (h : c = 0 ∧ ¬ isA T Lz a 100 ∧ ¬ isA T Lz a 98 ∨ isA T Lz a (tx (kw c) 0)) : fX4_takesClause FU T (nI Lz) (nI a) lib S L N z bb = bd2 (fX4_takesWord FU T (nI Lz) (nI a) (kn c + 1) (tx (kw c))) (fun r dat => if r = 0 then some (0, dat, S, L, N, z, bb) else clC c T (nI Lz) lib S L N z bb dat) := by
  unfold fX4_takesClause
  rw [isAt_c hL ha, bd1_s, isAt_c hL ha, bd1_s]
  rcases (show c = 0 ∨ c = 1 ∨ c = 2 by omega) with rfl | rfl | rfl
  · have n98 : ¬ isA T Lz a 98 := h.elim (fun z => z.2.2) (fun z y => absurd (isA_uni (show isA T Lz a 117 from z) y) (by decide))
    have n100 : ¬ isA T Lz a 100 := h.elim (fun z => z.2.1) (fun z y => absurd (isA_uni (show isA T Lz a 117 from z) y) (by decide))
    rw [bi_f n98, bi_f n100]
    rfl
  · have y100 : isA T Lz a 100 := h.elim (fun z => by omega) (fun z => z)
    have n98 : ¬ isA T Lz a 98 := fun y => absurd (isA_uni y100 y) (by decide)
    rw [bi_f n98, bi_t y100]
    rfl
  · have y98 : isA T Lz a 98 := h.elim (fun z => by omega) (fun z => z)
    rw [bi_t y98]
    rfl
