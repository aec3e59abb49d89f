/-! ===== the pure side: helpers ===== -/
abbrev AI : Type := Nat → Int32
theorem gd_t {α : Type} {c : Prop} [Decidable c] {k : Option α} (h : c) : gd c k = k := if_pos h
theorem inb_n {k n : Nat} (h : k < n) (hn : n < 2 ^ 31) : inb (nI k) n := vp_in_nI h hn
theorem inb_p {x : Int32} {k n : Nat} (hx : x = nI k) (h : k < n) (hn : n < 2 ^ 31) : inb x n := by rw [hx]; exact inb_n h hn
theorem bd1_s {α β : Type} {a : α} {k : α → Option β} : bd1 (some a) k = k a := rfl
theorem i7 (i k : Nat) : 7 * nI i + nI k = nI (7 * i + k) := by rw [show (7 : Int32) = nI 7 from rfl, pk_mul, nI_add]
theorem i7' (i : Nat) : 7 * nI i = nI (7 * i) := by rw [show (7 : Int32) = nI 7 from rfl, pk_mul]
theorem i42 (i k : Nat) : 42 + 3 * nI i + nI k = nI (42 + 3 * i + k) := by rw [show (3 : Int32) = nI 3 from rfl, show (42 : Int32) = nI 42 from rfl, pk_mul, nI_add, nI_add]
theorem i42' (i : Nat) : 42 + 3 * nI i = nI (42 + 3 * i) := by rw [show (3 : Int32) = nI 3 from rfl, show (42 : Int32) = nI 42 from rfl, pk_mul, nI_add]
theorem upd_s {f : AI} {k : Nat} {x : Int32} : upd f k x k = x := by unfold upd; rw [if_pos rfl]
theorem upd_n {f : AI} {k j : Nat} {x : Int32} (h : j ≠ k) : upd f k x j = f j := by unfold upd; rw [if_neg h]
theorem nle_nI {a b : Nat} (h : b < a) (ha : a < 2 ^ 31) : ¬ nI a ≤ nI b := nI_ge h ha
theorem nI_m5 {k : Nat} (h : k < 2 ^ 31) : ¬ nI k = -5 := by
  intro e
  have h1 := congrArg Int32.toInt e
  rw [nI_toInt h] at h1
  have h2 : (-5 : Int32).toInt = -5 := by decide
  omega
theorem nI_m1 {k : Nat} (h : k < 2 ^ 31) : ¬ nI k = -1 := by
  intro e
  have h1 := congrArg Int32.toInt e
  rw [nI_toInt h] at h1
  have h2 : (-1 : Int32).toInt = -1 := by decide
  omega
/-! ===== a hall as functions: what drifts, what is taut, a step ===== -/
def pGap (place first second len : AI) (l : Nat) : Int32 := jabs (place (first l).toNatClampNeg - place (second l).toNatClampNeg) - len l
def pTaut (place first second len : AI) (l : Nat) : Prop := ¬ first l = -5 ∧ ¬ pGap place first second len l ≤ 0
def pCnt (first second : AI) (x : Int32) : Nat → Int32
  | 0 => 0
  | l + 1 => if first l = x ∨ second l = x then pCnt first second x l + 1 else pCnt first second x l
def pTr (kind v place first second : AI) (step : Int32) (Lf p : Nat) : AI := fun i => if i = 0 then nI p else if i = 1 then kind p else if i = 2 then v p else if i = 3 then place p / 10 else if i = 4 then pCnt first second (nI p) Lf else step - step / 10 * 10
def pWalk (step x : Int32) : Int32 := if step - step / 8 * 8 < 4 then x else -x
def pDrift (kind v rows : AI) (SUM : AI → Int32) (Lf : Nat) (place first second : AI) (step : Int32) (p : Nat) : Int32 :=
  if kind p = 1 then (if pCnt first second (nI p) Lf ≤ 0 then SUM (pTr kind v place first second step Lf p) else SUM (pTr kind v place first second step Lf p) + v p)
  else if kind p = 2 then SUM (pTr kind v place first second step Lf p) / 2
  else if kind p = 3 then pWalk step (SUM (pTr kind v place first second step Lf p))
  else if kind p = 4 then (if step - step / 2 * 2 = 0 then 0 else if pCnt first second (nI p) Lf ≤ 0 then SUM (pTr kind v place first second step Lf p) else SUM (pTr kind v place first second step Lf p) + v p)
  else if kind p = 5 then SUM (pTr kind v place first second step Lf p) / 2 + pCnt first second (nI p) Lf
  else if kind p = 6 then pWalk step (SUM (pTr kind v place first second step Lf p)) + rows (4 * p + (step - step / 4 * 4).toNatClampNeg) - 4
  else SUM (pTr kind v place first second step Lf p)
def pMove (P : Nat) (place d : AI) : AI := fun i => if i < P then jmax 0 (jmin 99 (place i + d i)) else place i
abbrev Q4 : Type := AI × AI × AI × Int32
def pTo (place first second : AI) (l : Nat) : Int32 := if place (second l).toNatClampNeg ≤ place (first l).toNatClampNeg then -1 else 1
def pStrain (len : AI) (BR : Int32) (q : Q4) (l : Nat) : Q4 :=
  if q.2.1 l = -5 then q
  else if pGap q.1 q.2.1 q.2.2.1 len l ≤ 0 then q
  else if pGap q.1 q.2.1 q.2.2.1 len l ≤ BR then
    (upd (upd q.1 (q.2.1 l).toNatClampNeg (q.1 (q.2.1 l).toNatClampNeg + pTo q.1 q.2.1 q.2.2.1 l)) (q.2.2.1 l).toNatClampNeg (upd q.1 (q.2.1 l).toNatClampNeg (q.1 (q.2.1 l).toNatClampNeg + pTo q.1 q.2.1 q.2.2.1 l) (q.2.2.1 l).toNatClampNeg - pTo q.1 q.2.1 q.2.2.1 l), q.2.1, q.2.2.1, q.2.2.2)
  else (q.1, upd q.2.1 l (-5), upd q.2.2.1 l (-5), q.2.2.2 + 1)
def pDraw (len : AI) (BR : Int32) (q : Q4) : Nat → Q4
  | 0 => q
  | l + 1 => pStrain len BR (pDraw len BR q l) l
/-- place, first, second, drops, step -/
abbrev Q5 : Type := AI × AI × AI × Int32 × Int32
def stp (P Lf : Nat) (kind v rows len : AI) (SUM : AI → Int32) (BR : Int32) (q : Q5) : Q5 :=
  let r := pDraw len BR (pMove P q.1 (fun p => pDrift kind v rows SUM Lf q.1 q.2.1 q.2.2.1 q.2.2.2.2 p), q.2.1, q.2.2.1, q.2.2.2.1) Lf
  (r.1, r.2.1, r.2.2.1, r.2.2.2, q.2.2.2.2 + 1)
/-- each leaf is held by none, or by two of the N -/
def pOk (N Lf : Nat) (first second : AI) : Prop := ∀ l, l < Lf → (first l = -5 ∧ second l = -5) ∨ ∃ a b, a < N ∧ b < N ∧ first l = nI a ∧ second l = nI b
theorem pOk_first {N Lf : Nat} {first second : AI} (h : pOk N Lf first second) {l : Nat} (hl : l < Lf) (hf : ¬ first l = -5) : ∃ a b, a < N ∧ b < N ∧ first l = nI a ∧ second l = nI b := by
  rcases h l hl with ⟨h1, -⟩ | h1
  · exact absurd h1 hf
  · exact h1
theorem pOk_let {N Lf : Nat} {first second : AI} (h : pOk N Lf first second) (k : Nat) : pOk N Lf (upd first k (-5)) (upd second k (-5)) := by
  intro l hl
  by_cases e : l = k
  · subst e; exact Or.inl ⟨upd_s, upd_s⟩
  · rw [upd_n e, upd_n e]; exact h l hl
theorem pStrain_ok {N Lf : Nat} {len : AI} {BR : Int32} {q : Q4} (h : pOk N Lf q.2.1 q.2.2.1) (l : Nat) : pOk N Lf (pStrain len BR q l).2.1 (pStrain len BR q l).2.2.1 := by
  unfold pStrain
  split
  · exact h
  · split
    · exact h
    · split
      · exact h
      · exact pOk_let h l
theorem pDraw_ok {N Lf : Nat} {len : AI} {BR : Int32} {q : Q4} (h : pOk N Lf q.2.1 q.2.2.1) : ∀ l, pOk N Lf (pDraw len BR q l).2.1 (pDraw len BR q l).2.2.1
  | 0 => h
  | l + 1 => pStrain_ok (pDraw_ok h l) l
theorem stp_ok {N P Lf : Nat} {kind v rows len : AI} {SUM : AI → Int32} {BR : Int32} {q : Q5} (h : pOk N Lf q.2.1 q.2.2.1) : pOk N Lf (stp P Lf kind v rows len SUM BR q).2.1 (stp P Lf kind v rows len SUM BR q).2.2.1 := pDraw_ok (q := (_, q.2.1, q.2.2.1, q.2.2.2.1)) h Lf
/-! ===== the class's hall ===== -/
theorem isHeld_c {first : AI} {l : Nat} (hl : l < 4) : fX2_isHeld first (nI l) = some (if first l = -5 then 0 else 1) := by
  unfold fX2_isHeld
  rw [gd_t (inb_n hl (by decide)), nI_clamp (by omega)]
  split <;> rfl
theorem isHolder_c {first second : AI} {l : Nat} {x : Int32} (hl : l < 4) : fX2_isHolder first second (nI l) x = some (if first l = x ∨ second l = x then 1 else 0) := by
  unfold fX2_isHolder
  rw [gd_t (inb_n hl (by decide)), gd_t (inb_n hl (by decide)), nI_clamp (by omega)]
  by_cases h1 : first l = x
  · rw [if_pos h1, if_pos (Or.inl h1)]
  · rw [if_neg h1]
    by_cases h2 : second l = x
    · rw [if_pos h2, if_pos (Or.inr h2)]
    · rw [if_neg h2, if_neg (fun h => h.elim h1 h2)]
theorem holdsLoop_c {first second : AI} {x : Int32} {Lf : Nat} (hL : Lf ≤ 4) : ∀ (n l : Nat), l ≤ Lf → Lf - l < n → LX2_holdsHowMany_4 (nI Lf) first second x n (pCnt first second x l) (nI l) = some (pCnt first second x Lf) := by
  intro n
  induction n with
  | zero => intro l _ h; omega
  | succ n ih =>
    intro l hl h
    rw [LX2_holdsHowMany_4]
    by_cases e : l = Lf
    · subst e; rw [if_pos (nI_le (Nat.le_refl _) (by omega))]
    · rw [if_neg (nle_nI (by omega) (by omega)), isHolder_c (by omega), bd1_s, nI_1]
      have hs : pCnt first second x (l + 1) = if first l = x ∨ second l = x then pCnt first second x l + 1 else pCnt first second x l := rfl
      by_cases h1 : first l = x ∨ second l = x
      · rw [if_pos h1] at hs ⊢
        rw [if_neg (by decide), ← hs]
        exact ih (l + 1) (by omega) (by omega)
      · rw [if_neg h1] at hs ⊢
        rw [if_pos rfl, ← hs]
        exact ih (l + 1) (by omega) (by omega)
theorem holds_c {first second : AI} {x : Int32} {Lf fu : Nat} (hL : Lf ≤ 4) (hf : 4 < fu) : fX2_holdsHowMany fu (nI Lf) first second x = some (pCnt first second x Lf) := holdsLoop_c hL fu 0 (by omega) (by omega)
theorem gapOf_c {place len first second : AI} {l a b : Nat} (hl : l < 4) (ha : a < 6) (hb : b < 6) (h1 : first l = nI a) (h2 : second l = nI b) : fX2_gapOf place len first second (nI l) = some (pGap place first second len l) := by
  unfold fX2_gapOf
  rw [gd_t (inb_n hl (by decide)), gd_t (inb_n hl (by decide)), gd_t (inb_n hl (by decide)), nI_clamp (by omega), gd_t (inb_p h1 ha (by decide)), gd_t (inb_p h2 hb (by decide))]
  rfl
theorem isTaut_c {place len first second : AI} {l Lf : Nat} (hl : l < Lf) (hL : Lf ≤ 4) (ho : pOk 6 Lf first second) : fX2_isTaut place len first second (nI l) = some (if first l = -5 then 0 else if pGap place first second len l ≤ 0 then 0 else 1) := by
  unfold fX2_isTaut
  rw [isHeld_c (by omega), bd1_s]
  by_cases h : first l = -5
  · rw [if_pos h, if_pos h, if_pos rfl]
  · obtain ⟨a, b, ha, hb, h1, h2⟩ := pOk_first ho hl h
    rw [if_neg h, if_neg h, if_neg (by decide), gapOf_c (by omega) ha hb h1 h2, bd1_s]
    split <;> rfl
