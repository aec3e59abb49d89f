/-! ===== counts, the trace, kinds, acts ===== -/
theorem isIn_pred (x : Int32) (m : Nat) (hm : m < 2 ^ 30) : (∃ k, k < m ∧ x = nI k ∧ fX7_isWithin x (nI m - 1) = some 1 ∧ fX8_isIn x 0 (nI m - 1) = some 1) ∨ (fX7_isWithin x (nI m - 1) = some 0 ∧ fX8_isIn x 0 (nI m - 1) = some 0) := by
  unfold fX7_isWithin fX8_isIn
  by_cases h0 : x < 0
  · rw [if_pos h0]; exact Or.inr ⟨rfl, rfl⟩
  · rw [if_neg h0]
    rcases or_in x m (by omega) with e | ⟨k, k1, rfl⟩
    · have h1 := (lt_pred hm h0).mpr (e.elim (fun z => absurd z h0) id)
      rw [if_pos h1]; exact Or.inr ⟨rfl, rfl⟩
    · have h1 : ¬ nI m - 1 < nI k := fun z => by
        have := (lt_pred hm h0).mp z
        rw [nI_leI (by omega) (by omega)] at this; omega
      rw [if_neg h1]; exact Or.inl ⟨k, k1, rfl, rfl, rfl⟩
theorem jmin_n {n : Nat} (h : n < 2 ^ 30) : jmin (nI n) 20 = nI (min n 20) ∧ jmin 20 (nI n) = nI (min n 20) := by
  have a : jmin (nI n) 20 = if nI 20 < nI n then nI 20 else nI n := rfl
  have b : jmin 20 (nI n) = if nI n < nI 20 then nI n else nI 20 := rfl
  rw [a, b]
  constructor
  · by_cases e : 20 < n
    · rw [if_pos ((nI_ltI (by omega) (by omega)).mpr e), Nat.min_eq_right (by omega)]
    · rw [if_neg (fun z => e ((nI_ltI (by omega) (by omega)).mp z)), Nat.min_eq_left (by omega)]
  · by_cases e : n < 20
    · rw [if_pos ((nI_ltI (by omega) (by omega)).mpr e), Nat.min_eq_left (by omega)]
    · rw [if_neg (fun z => e ((nI_ltI (by omega) (by omega)).mp z)), Nat.min_eq_right (by omega)]
theorem trace_2 {tr : AI} {n : Nat} (x1 : Int32) (hn : n < 2 ^ 30) : ∃ r, fX7_trace tr (nI n) x1 = some r ∧ fX8_trace tr (nI n) x1 = some r := by
  unfold fX7_trace fX8_trace fX0_kept
  rw [bd1_s, (jmin_n hn).1, (jmin_n hn).2]
  rcases isIn_pred x1 (min n 20) (by omega) with ⟨k, k1, rfl, b1, c1⟩ | ⟨b1, c1⟩
  · rw [b1, c1, bd1_s, i1, gd_t (inb_n (by omega) (by decide))]; exact ⟨_, rfl, rfl⟩
  · rw [b1, c1, bd1_s, i0]; exact ⟨_, rfl, rfl⟩
def tkv (x2 : Int32) : Nat → Int32 → Option Int32
  | 0, _ => none
  | n + 1, l => if l = -1 then (if l = x2 then some 1 else some 0) else if l = x2 then some 1 else gd (inb l 7) (tkv x2 n (tabK l.toNatClampNeg))
theorem tkv_c : ∀ a, a < 7 → ∀ b, b < 7 → tkv (nI b) FU (nI a) = fX7_isKindOrUnder FU (nI a) (nI b) ∧ (fX7_isKindOrUnder FU (nI a) (nI b) = some 0 ∨ fX7_isKindOrUnder FU (nI a) (nI b) = some 1) := by decide +kernel
theorem taken_m {now ab : AI} {x1 x2 : Int32} (hab : ∀ i, i < 7 → ab i = tabK i) : ∀ (n : Nat) (l : Int32), LX8_taken_31 now ab x1 x2 n l = bd1 (tkv x2 n l) (fun t => if t = 1 then bd1 (fX8_number now x1 0) (fun r => some r) else some (-12)) := by
  intro n
  induction n with
  | zero => intro l; rfl
  | succ n ih =>
    intro l
    rw [LX8_taken_31, tkv]
    by_cases e : l = -1
    · rw [if_pos e, if_pos e]
      by_cases e2 : l = x2
      · rw [if_pos e2, if_pos e2, bd1_s, if_pos rfl]
      · rw [if_neg e2, if_neg e2, bd1_s, if_neg (by decide)]
    · rw [if_neg e, if_neg e]
      by_cases e2 : l = x2
      · rw [if_pos e2, if_pos e2, if_pos e2, bd1_s, if_pos rfl]
      · rw [if_neg e2, if_neg e2]
        by_cases e3 : inb l 7
        · have e4 : l.toNatClampNeg < 7 := Nat.lt_of_not_le fun z => e3 (Or.inr z)
          rw [gd_t e3, gd_t e3, ih, hab _ e4]
        · unfold gd
          rw [if_neg e3, if_neg e3]; rfl
theorem taken_2 {P Lf S : Nat} {kind v rows len ab : AI} {q : Q5} {now : AI} (x1 x2 : Int32) (hab : ∀ i, i < 7 → ab i = tabK i) (H : HR P Lf S kind v rows len q now) : ∃ r, fX7_taken FU (nI P) kind x1 x2 = some r ∧ fX8_taken FU now ab x1 x2 = some r := by
  obtain ⟨hk, hl, hq, h⟩ := H
  unfold fX7_taken fX8_taken
  rw [show (6 : Int32) = nI 6 from rfl]
  rcases within_or x2 6 (by omega) with ⟨b, b1, rfl, c1, c2⟩ | ⟨c1, c2⟩
  rotate_left
  · rw [c1, c2, bd1_s, bd1_s, i0, i0]; exact ⟨_, rfl, rfl⟩
  rw [c1, c2, bd1_s, bd1_s, i1, i1]
  rcases person_or x1 hk.1 h.1 with ⟨k, k1, rfl, d1, d2⟩ | ⟨d1, d2⟩
  rotate_left
  · rw [d1, d2, bd1_s, bd1_s, i0, i0]; exact ⟨_, rfl, rfl⟩
  have hP := hk.1
  have hb6 : inb (nI k) 6 := inb_n (by omega) (by decide)
  obtain ⟨⟨a, a1, a2⟩, -⟩ := hk.2.1 k k1
  have n0 : fX8_number now (nI k) 0 = some (kind k) := by have z : fX8_number now (nI k) 0 = some (now (7 * k + 0)) := number_m (k := 0) (by omega); rw [z, Nat.add_zero, (h.2.2.2.2.1 k k1).1]
  obtain ⟨t1, t2⟩ := tkv_c a a1 b (by omega)
  rw [d1, d2, bd1_s, bd1_s, i1, i1, gd_t hb6, gd_t hb6, nI_clamp (by omega), n0, bd1_s, taken_m hab, n0, a2, t1]
  rcases t2 with t2 | t2
  · rw [t2, bd1_s, bd1_s, i0, if_neg (by decide)]; exact ⟨_, rfl, rfl⟩
  · rw [t2, bd1_s, bd1_s, i1, if_pos rfl]; exact ⟨_, rfl, rfl⟩
/-! acts -/
abbrev FB : Type := AI → AI → AI → AI → Int32 → Int32 → Int32 → Int32 → Int32 → Option (Int32 × AI × Int32)
theorem body_note {tr : AI} {ran b : Int32} {α : Type} {k : Int32 → AI → Int32 → Option α} : bd3 (fX8_body tr ran b) k = bd2 (fX0_note tr ran b) (fun t r => k b t r) := by
  unfold fX8_body fX0_note
  by_cases e : 20 ≤ ran
  · rw [if_pos e, if_pos e]; rfl
  · rw [if_neg e, if_neg e]
    by_cases e2 : inb ran 20
    · rw [gd_t e2, gd_t e2]; rfl
    · unfold gd; rw [if_neg e2, if_neg e2]; rfl
def bkC (fu : Nat) (F : FB) (now ab bo : AI) (up i x : Int32) : Int32 → AI → Int32 → Option (Int32 × AI × Int32) := fun r50 mtrace_50 mran_50 => if r50 = 10 then (some (x + i, mtrace_50, mran_50)) else (if r50 = 11 then (bd3 (fX8_all F fu now ab bo mtrace_50 mran_50 i 0 x) (fun r154 mtrace_154 mran_154 => bd1 (fX8_number now i 1) (fun r160 => some (r154 - r160, mtrace_154, mran_154)))) else (if r50 = 12 then (bd3 (fX8_all F fu now ab bo mtrace_50 mran_50 i 1 x) (fun r170 mtrace_170 mran_170 => some (r170 * 2, mtrace_170, mran_170))) else (if r50 = 20 then (bd3 (F now ab bo mtrace_50 mran_50 up i 1 x) (fun r183 mtrace_183 mran_183 => some (r183 ^^^ 6, mtrace_183, mran_183))) else (if r50 = 30 then (bd3 (F now ab bo mtrace_50 mran_50 up i 0 (x * 3)) (fun r199 mtrace_199 mran_199 => some (r199, mtrace_199, mran_199))) else (if r50 = 40 then (bd3 (F now ab bo mtrace_50 mran_50 up i 2 x) (fun r210 mtrace_210 mran_210 => bd3 (fX8_all F fu now ab bo mtrace_210 mran_210 i 1 1) (fun r217 mtrace_217 mran_217 => some (r210 + r217, mtrace_217, mran_217)))) else (if r50 = 50 then (bd3 (F now ab bo mtrace_50 mran_50 up i 0 x) (fun r229 mtrace_229 mran_229 => some (-r229, mtrace_229, mran_229))) else (if r50 = 51 then (bd3 (F now ab bo mtrace_50 mran_50 up i 1 (x + 1)) (fun r243 mtrace_243 mran_243 => some (r243, mtrace_243, mran_243))) else (if r50 = 60 then (bd3 (F now ab bo mtrace_50 mran_50 up i 2 (x - i)) (fun r256 mtrace_256 mran_256 => some (r256, mtrace_256, mran_256))) else (if r50 = 70 then (bd3 (F now ab bo mtrace_50 mran_50 up i 1 x) (fun r267 mtrace_267 mran_267 => bd3 (F now ab bo mtrace_267 mran_267 up i 0 2) (fun r276 mtrace_276 mran_276 => some (r267 + r276, mtrace_276, mran_276)))) else (bd3 (F now ab bo mtrace_50 mran_50 up i 0 x) (fun r288 mtrace_288 mran_288 => bd1 (fX8_number now i 1) (fun r294 => some (r288 ^^^ r294, mtrace_288, mran_288)))))))))))))
theorem bk_skip {fu n k a : Nat} {F : FB} {now ab bo tr : AI} {ran i x : Int32} (hk : k < 7) (ha : a < 3) (hbo : ∀ i, i < 21 → bo i = tabB i) (hab : ∀ i, i < 7 → ab i = tabK i) (h : tabB (3 * k + a) = 0) : LX8_byKind_3 fu F now ab bo tr ran i (nI a) x (n + 1) (nI k) = LX8_byKind_3 fu F now ab bo tr ran i (nI a) x n (tabK k) := by
  have e : 3 * nI k + nI a = nI (3 * k + a) := by rw [show (3 : Int32) = nI 3 from rfl, pk_mul, nI_add]
  have h0 : bo (3 * nI k + nI a).toNatClampNeg = 0 := by rw [e, nI_clamp (by omega), hbo _ (by omega), h]
  rw [LX8_byKind_3, if_pos h0, e, gd_t (inb_n (by omega) (by decide)), gd_t (inb_n hk (by decide)), nI_clamp (by omega), hab k hk]
theorem bk_hit {fu n k a : Nat} {F : FB} {now ab bo tr : AI} {ran i x b : Int32} (hk : k < 7) (ha : a < 3) (hbo : ∀ i, i < 21 → bo i = tabB i) (hab : ∀ i, i < 7 → ab i = tabK i) (h : tabB (3 * k + a) = b) (hb : ¬ b = 0) : LX8_byKind_3 fu F now ab bo tr ran i (nI a) x (n + 1) (nI k) = bd2 (fX0_note tr ran b) (fun t r => bkC fu F now ab bo (tabK k) i x b t r) := by
  have e : 3 * nI k + nI a = nI (3 * k + a) := by rw [show (3 : Int32) = nI 3 from rfl, pk_mul, nI_add]
  have h1 : bo (3 * nI k + nI a).toNatClampNeg = b := by rw [e, nI_clamp (by omega), hbo _ (by omega), h]
  have hx : inb (3 * nI k + nI a) 21 := by rw [e]; exact inb_n (by omega) (by decide)
  rw [LX8_byKind_3, h1, if_neg hb, gd_t hx, gd_t hx, gd_t (inb_n hk (by decide)), nI_clamp (by omega), hab k hk, body_note]
  rfl
abbrev FP : Type := AI → Int32 → Int32 → Int32 → Int32 → Int32 → Int32 → Int32 → Int32 → Option (Int32 × AI × Int32)
def pfC (F : FP) (i vv K x d1 b : Int32) (t : AI) (r : Int32) : Option (Int32 × AI × Int32) :=  if b = 11 then (bd3 (F t r i vv K 0 K x d1) (fun r129 ctrace_129 cran_129 => some (r129 - vv, ctrace_129, cran_129))) else (if b = 12 then (bd3 (F t r i vv K 1 K x d1) (fun r147 ctrace_147 cran_147 => some (r147 * 2, ctrace_147, cran_147))) else (if b = 20 then (bd3 (F t r i vv K 1 0 x d1) (fun r159 ctrace_159 cran_159 => some (r159 ^^^ 6, ctrace_159, cran_159))) else (if b = 30 then (bd3 (F t r i vv K 0 0 (x * 3) d1) (fun r174 ctrace_174 cran_174 => some (r174, ctrace_174, cran_174))) else (if b = 40 then (bd3 (F t r i vv K 2 0 x d1) (fun r184 ctrace_184 cran_184 => bd3 (F ctrace_184 cran_184 i vv K 1 K 1 d1) (fun r196 t6 r6 => some (r184 + r196, t6, r6)))) else (if b = 50 then (bd3 (F t r i vv K 0 1 x d1) (fun r207 ctrace_207 cran_207 => some (-r207, ctrace_207, cran_207))) else (if b = 51 then (bd3 (F t r i vv K 1 1 (x + 1) d1) (fun r220 ctrace_220 cran_220 => some (r220, ctrace_220, cran_220))) else (if b = 60 then (bd3 (F t r i vv K 2 2 (x - i) d1) (fun r235 ctrace_235 cran_235 => some (r235, ctrace_235, cran_235))) else (if b = 70 then (bd3 (F t r i vv K 1 3 x d1) (fun r245 ctrace_245 cran_245 => bd3 (F ctrace_245 cran_245 i vv K 0 3 2 d1) (fun r254 ctrace_254 cran_254 => some (r245 + r254, ctrace_254, cran_254)))) else (if b = 71 then (bd3 (F t r i vv K 0 3 x d1) (fun r265 ctrace_265 cran_265 => some (r265 ^^^ vv, ctrace_265, cran_265))) else (some (x + i, t, r)))))))))))
theorem bd3_eta {α β γ : Type} {X : Option (α × β × γ)} : bd3 X (fun a b c => some (a, b, c)) = X := by
  rcases X with _ | ⟨a, b, c⟩ <;> rfl
def okFB (f b : Nat) : Prop := (f, b) ∈ [(0, 10), (0, 11), (0, 12), (1, 20), (2, 30), (3, 40), (4, 50), (4, 51), (5, 60), (6, 70), (6, 71)]
theorem okFB_or {f b : Nat} (h : okFB f b) : (f = 0 ∧ b = 10) ∨ (f = 0 ∧ b = 11) ∨ (f = 0 ∧ b = 12) ∨ (f = 1 ∧ b = 20) ∨ (f = 2 ∧ b = 30) ∨ (f = 3 ∧ b = 40) ∨ (f = 4 ∧ b = 50) ∨ (f = 4 ∧ b = 51) ∨ (f = 5 ∧ b = 60) ∨ (f = 6 ∧ b = 70) ∨ (f = 6 ∧ b = 71) := by
  unfold okFB at h
  simpa only [List.mem_cons, Prod.mk.injEq, List.not_mem_nil, or_false] using h
theorem perf_b {F : FP} {G : FB} {now ab bo : AI} {p κ d : Nat} {vv : Int32} (hκ : κ < 7) (n0 : fX8_number now (nI p) 0 = some (nI κ)) (n1 : fX8_number now (nI p) 1 = some vv)
    (hFG : ∀ a, a < 3 → ∀ k, k < 7 → ∀ t r x, F t r (nI p) vv (nI κ) (nI a) (nI k) x (nI d + 1) = G now ab bo t r (nI k) (nI p) (nI a) x) (x : Int32) (t : AI) (r : Int32) :
    ∀ f b, okFB f b → pfC F (nI p) vv (nI κ) x (nI d + 1) (nI b) t r = bkC FU G now ab bo (tabK f) (nI p) x (nI b) t r := by
  have hall : ∀ a, a < 3 → ∀ t r x, fX8_all G FU now ab bo t r (nI p) (nI a) x = F t r (nI p) vv (nI κ) (nI a) (nI κ) x (nI d + 1) := by
    intro a ha t r x
    unfold fX8_all
    rw [n0, bd1_s, bd3_eta, hFG a ha κ hκ]
  have hn : ∀ {α : Type} (k : Int32 → Option α), bd1 (fX8_number now (nI p) 1) k = k vv := fun k => by rw [n1, bd1_s]
  intro f b hm
  rcases okFB_or hm with ⟨rfl, rfl⟩ | ⟨rfl, rfl⟩ | ⟨rfl, rfl⟩ | ⟨rfl, rfl⟩ | ⟨rfl, rfl⟩ | ⟨rfl, rfl⟩ | ⟨rfl, rfl⟩ | ⟨rfl, rfl⟩ | ⟨rfl, rfl⟩ | ⟨rfl, rfl⟩ | ⟨rfl, rfl⟩
  · rfl
  · show bd3 (F t r (nI p) vv (nI κ) (nI 0) (nI κ) x (nI d + 1)) _ = bd3 (fX8_all G FU now ab bo t r (nI p) (nI 0) x) _
    rw [hall 0 (by omega)]
    simp only [hn]
  · show bd3 (F t r (nI p) vv (nI κ) (nI 1) (nI κ) x (nI d + 1)) _ = bd3 (fX8_all G FU now ab bo t r (nI p) (nI 1) x) _
    rw [hall 1 (by omega)]
  · show bd3 (F t r (nI p) vv (nI κ) (nI 1) (nI 0) x (nI d + 1)) _ = bd3 (G now ab bo t r (nI 0) (nI p) (nI 1) x) _
    rw [hFG 1 (by omega) 0 (by omega)]
  · show bd3 (F t r (nI p) vv (nI κ) (nI 0) (nI 0) (x * 3) (nI d + 1)) _ = bd3 (G now ab bo t r (nI 0) (nI p) (nI 0) (x * 3)) _
    rw [hFG 0 (by omega) 0 (by omega)]
  · show bd3 (F t r (nI p) vv (nI κ) (nI 2) (nI 0) x (nI d + 1)) (fun r184 t2 r2 => bd3 (F t2 r2 (nI p) vv (nI κ) (nI 1) (nI κ) 1 (nI d + 1)) _) = bd3 (G now ab bo t r (nI 0) (nI p) (nI 2) x) (fun r184 t2 r2 => bd3 (fX8_all G FU now ab bo t2 r2 (nI p) (nI 1) 1) _)
    rw [hFG 2 (by omega) 0 (by omega)]
    simp only [hall 1 (by omega)]
  · show bd3 (F t r (nI p) vv (nI κ) (nI 0) (nI 1) x (nI d + 1)) _ = bd3 (G now ab bo t r (nI 1) (nI p) (nI 0) x) _
    rw [hFG 0 (by omega) 1 (by omega)]
  · show bd3 (F t r (nI p) vv (nI κ) (nI 1) (nI 1) (x + 1) (nI d + 1)) _ = bd3 (G now ab bo t r (nI 1) (nI p) (nI 1) (x + 1)) _
    rw [hFG 1 (by omega) 1 (by omega)]
  · show bd3 (F t r (nI p) vv (nI κ) (nI 2) (nI 2) (x - nI p) (nI d + 1)) _ = bd3 (G now ab bo t r (nI 2) (nI p) (nI 2) (x - nI p)) _
    rw [hFG 2 (by omega) 2 (by omega)]
  · show bd3 (F t r (nI p) vv (nI κ) (nI 1) (nI 3) x (nI d + 1)) (fun r184 t2 r2 => bd3 (F t2 r2 (nI p) vv (nI κ) (nI 0) (nI 3) 2 (nI d + 1)) _) = bd3 (G now ab bo t r (nI 3) (nI p) (nI 1) x) (fun r184 t2 r2 => bd3 (G now ab bo t2 r2 (nI 3) (nI p) (nI 0) 2) _)
    rw [hFG 1 (by omega) 3 (by omega)]
    simp only [hFG 0 (by omega) 3 (by omega)]
  · show bd3 (F t r (nI p) vv (nI κ) (nI 0) (nI 3) x (nI d + 1)) _ = bd3 (G now ab bo t r (nI 3) (nI p) (nI 0) x) _
    rw [hFG 0 (by omega) 3 (by omega)]
    simp only [hn]
theorem kd_40 {d : Nat} (h : d ≤ 40) : nI d ≤ 40 := nI_le (b := 40) h (by omega)
/-- whose body it is, and which -/
def fkB (a k : Nat) : Nat × Nat := if a = 0 then (if k = 2 ∨ k = 5 then (2, 30) else if k = 4 then (4, 50) else if k = 6 then (6, 71) else (0, 10)) else if a = 1 then (if k = 1 then (1, 20) else if k = 4 then (4, 51) else if k = 6 then (6, 70) else (0, 11)) else (if k = 3 ∨ k = 6 then (3, 40) else if k = 5 then (5, 60) else (0, 12))
theorem fkB_ok : ∀ a, a < 3 → ∀ k, k < 7 → (fX0_bodyFor FU (nI a) (nI k) = some (nI (fkB a k).2) ∧ (fkB a k).1 < 7 ∧ tabB (3 * (fkB a k).1 + a) = nI (fkB a k).2 ∧ ¬ nI (fkB a k).2 = 0) := by decide +kernel
theorem fkB_fb : ∀ a, a < 3 → ∀ k, k < 7 → okFB (fkB a k).1 (fkB a k).2 := by unfold okFB; decide +kernel
/-- the next above, where the body isn't of its own -/
theorem fkB_up : ∀ a, a < 3 → ∀ k, k < 7 → ((fkB a k).1 = k ∨ (tabB (3 * k + a) = 0 ∧ ∃ k2, k2 < k ∧ tabK k = nI k2 ∧ fkB a k2 = fkB a k)) := by decide +kernel
theorem bk_find {F : FB} {now ab bo tr : AI} {ran i x : Int32} {a : Nat} (ha : a < 3) (hbo : ∀ i, i < 21 → bo i = tabB i) (hab : ∀ i, i < 7 → ab i = tabK i) : ∀ (m k n : Nat), k < m → k < 7 → m ≤ n → LX8_byKind_3 FU F now ab bo tr ran i (nI a) x n (nI k) = bd2 (fX0_note tr ran (nI (fkB a k).2)) (fun t r => bkC FU F now ab bo (tabK (fkB a k).1) i x (nI (fkB a k).2) t r) := by
  intro m
  induction m with
  | zero => intro k n h; omega
  | succ m ih =>
    intro k n hk h7 hn
    obtain ⟨n, rfl⟩ : ∃ n', n = n' + 1 := ⟨n - 1, by omega⟩
    obtain ⟨g1, g2, g3, g4⟩ := fkB_ok a ha k h7
    rcases fkB_up a ha k h7 with e | ⟨e1, k2, e2, e3, e4⟩
    · rw [e] at g3 ⊢
      exact bk_hit h7 ha hbo hab g3 g4
    · rw [bk_skip h7 ha hbo hab e1, e3, ih k2 n (by omega) (by omega) (by omega), e4]
theorem perf_eq {now ab bo : AI} {p κ : Nat} {vv : Int32} (hκ : κ < 7) (hbo : ∀ i, i < 21 → bo i = tabB i) (hab : ∀ i, i < 7 → ab i = tabK i) (n0 : fX8_number now (nI p) 0 = some (nI κ)) (n1 : fX8_number now (nI p) 1 = some vv) :
    ∀ f d, d + f ≤ 41 → ∀ a, a < 3 → ∀ k, k < 7 → ∀ t r x, fX0_perform FU f t r (nI p) vv (nI κ) (nI a) (nI k) x (nI d) = fX8_byKind FU f now ab bo t r (nI k) (nI p) (nI a) x := by
  intro f
  induction f with
  | zero => intro d _ a _ k _ t r x; rfl
  | succ f ih =>
    intro d hd a ha k hk t r x
    obtain ⟨g1, g2, g3, g4⟩ := fkB_ok a ha k hk
    have hm : fX8_byKind FU (f + 1) now ab bo t r (nI k) (nI p) (nI a) x = LX8_byKind_3 FU (fX8_byKind FU f) now ab bo t r (nI p) (nI a) x FU (nI k) := rfl
    have hc : fX0_perform FU (f + 1) t r (nI p) vv (nI κ) (nI a) (nI k) x (nI d) = gX0_perform (fX0_perform FU f) FU t r (nI p) vv (nI κ) (nI a) (nI k) x (nI d) := rfl
    rw [hm, hc, bk_find ha hbo hab 7 k FU hk hk (by unfold FU; omega)]
    unfold gX0_perform
    rw [if_pos (kd_40 (by omega)), g1, bd1_s]
    congr 1
    funext t2 r2
    exact perf_b (F := fX0_perform FU f) (G := fX8_byKind FU f) hκ n0 n1 (fun a ha k hk t r x => by rw [nI_1]; exact ih (d + 1) (by omega) a ha k hk t r x) x t2 r2 _ _ (fkB_fb a ha k hk)
/-! acts come to an end -/
theorem note_c {t : AI} {n : Nat} {b : Int32} (hn : n < 2 ^ 30) : ∃ t', fX0_note t (nI n) b = some (t', nI (n + 1)) := by
  unfold fX0_note
  by_cases e : 20 ≤ nI n
  · rw [if_pos e, nI_1]; exact ⟨_, rfl⟩
  · have : n < 20 := by
      have h : ¬ nI 20 ≤ nI n := e
      rw [nI_leI (by omega) (by omega)] at h
      omega
    rw [if_neg e, gd_t (inb_n this (by decide)), nI_1]; exact ⟨_, rfl⟩
def oad (x y : Option Nat) : Option Nat := match x, y with
  | some a, some b => some (a + b)
  | _, _ => none
theorem oad_e {x y : Option Nat} {c : Nat} (h : oad x y = some c) : ∃ a b, x = some a ∧ y = some b ∧ c = a + b := by
  rcases x with _ | a <;> rcases y with _ | b
  · exact absurd h (by simp [oad])
  · exact absurd h (by simp [oad])
  · exact absurd h (by simp [oad])
  · simp only [oad, Option.some.injEq] at h
    exact ⟨a, b, rfl, rfl, h.symm⟩
def cntB (κ : Nat) (C : Nat → Nat → Option Nat) (b : Nat) : Option Nat := if b = 10 then some 0 else if b = 11 then C 0 κ else if b = 12 then C 1 κ else if b = 20 then C 1 0 else if b = 30 then C 0 0 else if b = 40 then oad (C 2 0) (C 1 κ) else if b = 50 then C 0 1 else if b = 51 then C 1 1 else if b = 60 then C 2 2 else if b = 70 then oad (C 1 3) (C 0 3) else C 0 3
def cnt (κ : Nat) : Nat → Nat → Nat → Option Nat
  | 0, _, _ => none
  | f + 1, a, k => oad (cntB κ (cnt κ f) (fkB a k).2) (some 1)
theorem pf_cnt {F : FP} {C : Nat → Nat → Option Nat} {κ : Nat} {i vv d1 : Int32} (hκ : κ < 7)
    (hC : ∀ a, a < 3 → ∀ k, k < 7 → ∀ c, C a k = some c → ∀ t n x, n + c < 2 ^ 30 → ∃ r t', F t (nI n) i vv (nI κ) (nI a) (nI k) x d1 = some (r, t', nI (n + c))) (x : Int32) (t : AI) :
    ∀ f b, okFB f b → ∀ c n, cntB κ C b = some c → n + c < 2 ^ 30 → ∃ r t', pfC F i vv (nI κ) x d1 (nI b) t (nI n) = some (r, t', nI (n + c)) := by
  intro f b hm
  rcases okFB_or hm with ⟨rfl, rfl⟩ | ⟨rfl, rfl⟩ | ⟨rfl, rfl⟩ | ⟨rfl, rfl⟩ | ⟨rfl, rfl⟩ | ⟨rfl, rfl⟩ | ⟨rfl, rfl⟩ | ⟨rfl, rfl⟩ | ⟨rfl, rfl⟩ | ⟨rfl, rfl⟩ | ⟨rfl, rfl⟩ <;> intro c n hc hn
  · have e : (0 : Nat) = c := Option.some.inj hc
    subst e
    exact ⟨_, _, rfl⟩
  · obtain ⟨r, t', e⟩ := hC 0 (by omega) κ hκ c hc t n x hn
    refine ⟨r - vv, t', ?_⟩
    show bd3 (F t (nI n) i vv (nI κ) (nI 0) (nI κ) x d1) _ = _
    rw [e]; rfl
  · obtain ⟨r, t', e⟩ := hC 1 (by omega) κ hκ c hc t n x hn
    refine ⟨r * 2, t', ?_⟩
    show bd3 (F t (nI n) i vv (nI κ) (nI 1) (nI κ) x d1) _ = _
    rw [e]; rfl
  · obtain ⟨r, t', e⟩ := hC 1 (by omega) 0 (by omega) c hc t n x hn
    refine ⟨r ^^^ 6, t', ?_⟩
    show bd3 (F t (nI n) i vv (nI κ) (nI 1) (nI 0) x d1) _ = _
    rw [e]; rfl
  · obtain ⟨r, t', e⟩ := hC 0 (by omega) 0 (by omega) c hc t n (x * 3) hn
    refine ⟨r, t', ?_⟩
    show bd3 (F t (nI n) i vv (nI κ) (nI 0) (nI 0) (x * 3) d1) _ = _
    rw [e]; rfl
  · obtain ⟨a, b, ha, hb, rfl⟩ := oad_e hc
    obtain ⟨r, t', e⟩ := hC 2 (by omega) 0 (by omega) a ha t n x (by omega)
    obtain ⟨r2, t2, e2⟩ := hC 1 (by omega) κ hκ b hb t' (n + a) 1 (by omega)
    refine ⟨r + r2, t2, ?_⟩
    show bd3 (F t (nI n) i vv (nI κ) (nI 2) (nI 0) x d1) (fun r184 t2 r2 => bd3 (F t2 r2 i vv (nI κ) (nI 1) (nI κ) 1 d1) _) = _
    rw [e, bd3_s, e2, bd3_s, Nat.add_assoc]
  · obtain ⟨r, t', e⟩ := hC 0 (by omega) 1 (by omega) c hc t n x hn
    refine ⟨-r, t', ?_⟩
    show bd3 (F t (nI n) i vv (nI κ) (nI 0) (nI 1) x d1) _ = _
    rw [e]; rfl
  · obtain ⟨r, t', e⟩ := hC 1 (by omega) 1 (by omega) c hc t n (x + 1) hn
    refine ⟨r, t', ?_⟩
    show bd3 (F t (nI n) i vv (nI κ) (nI 1) (nI 1) (x + 1) d1) _ = _
    rw [e]; rfl
  · obtain ⟨r, t', e⟩ := hC 2 (by omega) 2 (by omega) c hc t n (x - i) hn
    refine ⟨r, t', ?_⟩
    show bd3 (F t (nI n) i vv (nI κ) (nI 2) (nI 2) (x - i) d1) _ = _
    rw [e]; rfl
  · obtain ⟨a, b, ha, hb, rfl⟩ := oad_e hc
    obtain ⟨r, t', e⟩ := hC 1 (by omega) 3 (by omega) a ha t n x (by omega)
    obtain ⟨r2, t2, e2⟩ := hC 0 (by omega) 3 (by omega) b hb t' (n + a) 2 (by omega)
    refine ⟨r + r2, t2, ?_⟩
    show bd3 (F t (nI n) i vv (nI κ) (nI 1) (nI 3) x d1) (fun r184 t2 r2 => bd3 (F t2 r2 i vv (nI κ) (nI 0) (nI 3) 2 d1) _) = _
    rw [e, bd3_s, e2, bd3_s, Nat.add_assoc]
  · obtain ⟨r, t', e⟩ := hC 0 (by omega) 3 (by omega) c hc t n x hn
    refine ⟨r ^^^ vv, t', ?_⟩
    show bd3 (F t (nI n) i vv (nI κ) (nI 0) (nI 3) x d1) _ = _
    rw [e]; rfl
theorem perf_cnt {κ : Nat} {i vv : Int32} (hκ : κ < 7) : ∀ f d, d + f ≤ 41 → ∀ a, a < 3 → ∀ k, k < 7 → ∀ c, cnt κ f a k = some c → ∀ t n x, n + c < 2 ^ 30 → ∃ r t', fX0_perform FU f t (nI n) i vv (nI κ) (nI a) (nI k) x (nI d) = some (r, t', nI (n + c)) := by
  intro f
  induction f with
  | zero => intro d _ a _ k _ c h; cases h
  | succ f ih =>
    intro d hd a ha k hk c hc t n x hn
    obtain ⟨g1, g2, g3, g4⟩ := fkB_ok a ha k hk
    obtain ⟨c1, c2, h1, h2, rfl⟩ := oad_e hc
    have e2 : (1 : Nat) = c2 := Option.some.inj h2
    subst e2
    show ∃ r t', gX0_perform (fX0_perform FU f) FU t (nI n) i vv (nI κ) (nI a) (nI k) x (nI d) = _
    obtain ⟨t1, e1⟩ := note_c (t := t) (b := nI (fkB a k).2) (show n < 2 ^ 30 by omega)
    obtain ⟨r, t', e⟩ := pf_cnt (F := fX0_perform FU f) (C := cnt κ f) (i := i) (vv := vv) (d1 := nI d + 1) hκ (fun a ha k hk c hc t n x hn => by rw [nI_1]; exact ih (d + 1) (by omega) a ha k hk c hc t n x hn) x t1 _ _ (fkB_fb a ha k hk) c1 (n + 1) h1 (by omega)
    refine ⟨r, t', ?_⟩
    unfold gX0_perform
    rw [if_pos (kd_40 (by omega)), g1, bd1_s, e1, bd2_s]
    rw [show n + (c1 + 1) = n + 1 + c1 by omega]
    exact e
theorem cnt_ok : ∀ κ, κ < 7 → ∀ a, a < 3 → ∃ c, c < 100 ∧ cnt κ 14 a κ = some c := by decide +kernel
theorem act_2 {P Lf S : Nat} {kind v rows len ab bo : AI} {q : Q5} {now tr : AI} {ran nu cv ck : Int32} (x1 x2 x3 : Int32) (hbo : ∀ i, i < 21 → bo i = tabB i) (hab : ∀ i, i < 7 → ab i = tabK i) (H : HR P Lf S kind v rows len q now) :
    ∃ r tr' n nu' cv' ck', n < 2 ^ 29 ∧ fX7_act FU (nI P) kind v tr ran nu cv ck x1 x2 x3 = some (r, tr', nI n, nu', cv', ck') ∧ fX8_act FU now ab bo tr ran x1 x2 x3 = some (r, tr', nI n) := by
  obtain ⟨hk, hl, hq, h⟩ := H
  have hP := hk.1
  unfold fX7_act fX8_act fX0_forget
  rw [bd1_s, show (2 : Int32) = nI 2 from rfl]
  rcases person_or x1 hP h.1 with ⟨p, p1, rfl, b1, c1⟩ | ⟨b1, c1⟩
  rotate_left
  · rw [b1, c1, bd1_s, bd1_s, i0, i0]; exact ⟨0, tr, 0, nu, cv, ck, by omega, rfl, rfl⟩
  rw [b1, c1, bd1_s, bd1_s, i1, i1]
  rcases within_or x2 2 (by omega) with ⟨a, a1, rfl, b2, c2⟩ | ⟨b2, c2⟩
  rotate_left
  · rw [b2, c2, bd1_s, bd1_s, i0, i0]; exact ⟨0, tr, 0, nu, cv, ck, by omega, rfl, rfl⟩
  have hb6 : inb (nI p) 6 := inb_n (by omega) (by decide)
  obtain ⟨⟨κ, κ1, κ2⟩, -⟩ := hk.2.1 p p1
  have n0 : fX8_number now (nI p) 0 = some (nI κ) := by have z : fX8_number now (nI p) 0 = some (now (7 * p + 0)) := number_m (k := 0) (by omega); rw [z, Nat.add_zero, (h.2.2.2.2.1 p p1).1, κ2]
  have n1 : fX8_number now (nI p) 1 = some (v p) := by have z : fX8_number now (nI p) 1 = some (now (7 * p + 1)) := number_m (k := 1) (by omega); rw [z, (h.2.2.2.2.1 p p1).2.1]
  obtain ⟨c, d1, d2⟩ := cnt_ok κ κ1 a (by omega)
  obtain ⟨r, t', e⟩ := perf_cnt (i := nI p) (vv := v p) κ1 14 0 (by omega) a (by omega) κ κ1 c d2 tr 0 x3 (by omega)
  have e2 := perf_eq (vv := v p) κ1 hbo hab n0 n1 14 0 (by omega) a (by omega) κ κ1 tr 0 x3
  have e3 : fX0_perform FU 14 tr 0 (nI p) (v p) (nI κ) (nI a) (nI κ) x3 0 = some (r, t', nI c) := by rw [Nat.zero_add] at e; exact e
  have e4 : fX8_byKind FU 14 now ab bo tr 0 (nI κ) (nI p) (nI a) x3 = some (r, t', nI c) := e2.symm.trans e3
  unfold fX0_start fX8_all
  rw [b2, c2, bd1_s, bd1_s, i1, i1, gd_t hb6, gd_t hb6, nI_clamp (by omega), κ2, n0, bd1_s, e3, e4]
  exact ⟨r, t', c, _, _, _, by omega, rfl, rfl⟩
