/-! ===== the relation: what is sound, what is copied ===== -/
theorem in_or (x : Int32) (n : Nat) (hn : n < 2 ^ 31) : x < 0 ∨ nI n ≤ x ∨ ∃ k, k < n ∧ x = nI k := by
  by_cases h : x < 0
  · exact Or.inl h
  · have h0 : 0 ≤ x.toInt := by
      have := mt Int32.lt_iff_toInt_lt.mpr h
      have z : (0 : Int32).toInt = 0 := by decide
      omega
    have hx : x.toInt < 2 ^ 31 := x.toInt_lt
    have e : x = nI x.toInt.toNat := by
      apply Int32.toInt_inj.mp
      rw [nI_toInt (by omega)]
      omega
    by_cases h2 : x.toInt.toNat < n
    · exact Or.inr (Or.inr ⟨_, h2, e⟩)
    · refine Or.inr (Or.inl ?_)
      rw [e]
      exact nI_le (by omega) (by omega)
def bnd (x : Int32) (n : Nat) : Prop := ∃ k, k < n ∧ x = nI k
/-- people's numbers, and the rows of nobody -/
def Kk (P : Nat) (kind v rows : AI) : Prop := P ≤ 6 ∧ (∀ i, i < P → bnd (kind i) 7 ∧ bnd (v i) 10) ∧ ∀ j, 4 * P ≤ j → j < 24 → rows j = 0
def Ln (Lf : Nat) (len : AI) : Prop := Lf ≤ 4 ∧ ∀ l, l < Lf → ∃ k, 1 ≤ k ∧ k ≤ 40 ∧ len l = nI k
def Qk (P Lf S : Nat) (q : Q5) : Prop := pOk P Lf q.2.1 q.2.2.1 ∧ (∀ i, i < P → bnd (q.1 i) 100) ∧ q.2.2.2.2 = nI S
theorem clamp_b (z : Int32) : bnd (jmax 0 (jmin 99 z)) 100 := by
  have z0 : (0 : Int32).toInt = 0 := by decide
  have z9 : (99 : Int32).toInt = 99 := by decide
  rcases in_or z 100 (by omega) with h | h | ⟨k, h1, h2⟩
  · refine ⟨0, by omega, ?_⟩
    have a1 := Int32.lt_iff_toInt_lt.mp h
    have e1 : jmin 99 z = z := if_pos (Int32.lt_iff_toInt_lt.mpr (by omega))
    have e2 : jmax 0 z = 0 := if_neg (fun y => by have := Int32.lt_iff_toInt_lt.mp y; omega)
    rw [e1, e2]; rfl
  · refine ⟨99, by omega, ?_⟩
    have a1 := Int32.le_iff_toInt_le.mp h
    rw [nI_toInt (by omega)] at a1
    have e1 : jmin 99 z = 99 := if_neg (fun y => by have := Int32.lt_iff_toInt_lt.mp y; omega)
    rw [e1]; decide
  · have dd : ∀ k, k < 100 → jmax 0 (jmin 99 (nI k)) = nI k := by decide +kernel
    rw [h2, dd k h1]
    exact ⟨k, h1, rfl⟩
theorem abs_n : ∀ x, x < 100 → ∀ y, y < 100 → jabs (nI x - nI y) = nI (if y ≤ x then x - y else y - x) := by decide +kernel
theorem sub_le0 : ∀ m, m < 100 → ∀ k, k < 41 → (nI m - nI k ≤ 0 ↔ m ≤ k) := by decide +kernel
theorem plus_m1 : ∀ x, x < 100 → 0 < x → nI x + -1 = nI (x - 1) := by decide +kernel
theorem minus_m1 (x : Nat) : nI x - -1 = nI (x + 1) := by
  rw [← nI_1, Int32.sub_neg]
theorem minus_1 {x : Nat} (h : 0 < x) : nI x - 1 = nI (x - 1) := by
  obtain ⟨y, rfl⟩ : ∃ y, x = y + 1 := ⟨x - 1, by omega⟩
  rw [nI_pred]; rfl
theorem pStrain_b {P Lf : Nat} {len : AI} {BR : Int32} {q : Q4} (hl : Ln Lf len) (ho : pOk P Lf q.2.1 q.2.2.1) (hP : P ≤ 6) {l : Nat} (hL : l < Lf) (h : ∀ i, i < P → bnd (q.1 i) 100) : ∀ i, i < P → bnd ((pStrain len BR q l).1 i) 100 := by
  intro i hi
  unfold pStrain
  split
  · exact h i hi
  · rename_i hf
    split
    · exact h i hi
    · rename_i hg
      split
      · obtain ⟨a, b, ha, hb, h1, h2⟩ := pOk_first ho hL hf
        obtain ⟨x, hx, ex⟩ := h a ha
        obtain ⟨y, hy, ey⟩ := h b hb
        obtain ⟨k, k1, k2, ek⟩ := hl.2 l hL
        have hg2 : ¬ (if y ≤ x then x - y else y - x) ≤ k := by
          intro z
          apply hg
          unfold pGap
          rw [h1, h2, nI_clamp (by omega), nI_clamp (by omega), ex, ey, ek, abs_n x hx y hy]
          exact (sub_le0 _ (by split <;> omega) k (by omega)).mpr z
        have hab : b ≠ a := by
          intro z
          rw [z] at ey
          have := nI_inj (by omega) (by omega) (ex.symm.trans ey)
          subst this
          split at hg2 <;> omega
        have hto : pTo q.1 q.2.1 q.2.2.1 l = if y ≤ x then -1 else 1 := by
          unfold pTo
          rw [h1, h2, nI_clamp (by omega), nI_clamp (by omega), ex, ey]
          by_cases e : y ≤ x
          · rw [if_pos ((nI_leI (by omega) (by omega)).mpr e), if_pos e]
          · rw [if_neg (fun z => e ((nI_leI (by omega) (by omega)).mp z)), if_neg e]
        show bnd ((upd (upd q.1 (q.2.1 l).toNatClampNeg (q.1 (q.2.1 l).toNatClampNeg + pTo q.1 q.2.1 q.2.2.1 l)) (q.2.2.1 l).toNatClampNeg (upd q.1 (q.2.1 l).toNatClampNeg (q.1 (q.2.1 l).toNatClampNeg + pTo q.1 q.2.1 q.2.2.1 l) (q.2.2.1 l).toNatClampNeg - pTo q.1 q.2.1 q.2.2.1 l)) i) 100
        rw [hto, h1, h2, nI_clamp (by omega), nI_clamp (by omega)]
        by_cases e1 : i = b
        · subst e1
          rw [upd_s, upd_n hab, ey]
          by_cases e : y ≤ x
          · rw [if_pos e] at hg2 ⊢
            exact ⟨y + 1, by omega, minus_m1 y⟩
          · rw [if_neg e] at hg2 ⊢
            exact ⟨y - 1, by omega, minus_1 (by omega)⟩
        · rw [upd_n e1]
          by_cases e2 : i = a
          · subst e2
            rw [upd_s, ex]
            by_cases e : y ≤ x
            · rw [if_pos e] at hg2 ⊢
              exact ⟨x - 1, by omega, plus_m1 x hx (by omega)⟩
            · rw [if_neg e] at hg2 ⊢
              exact ⟨x + 1, by omega, nI_1 x⟩
          · rw [upd_n e2]; exact h i hi
      · exact h i hi
theorem pDraw_b {P Lf : Nat} {len : AI} {BR : Int32} {q : Q4} (hl : Ln Lf len) (ho : pOk P Lf q.2.1 q.2.2.1) (hP : P ≤ 6) (h : ∀ i, i < P → bnd (q.1 i) 100) : ∀ l, l ≤ Lf → ∀ i, i < P → bnd ((pDraw len BR q l).1 i) 100
  | 0, _ => h
  | l + 1, hL => pStrain_b hl (pDraw_ok ho l) hP (by omega) (pDraw_b hl ho hP h l (by omega))
theorem stp_Qk {P Lf S : Nat} {kind v rows len : AI} {SUM : AI → Int32} {BR : Int32} {q : Q5} (hP : P ≤ 6) (hl : Ln Lf len) (h : Qk P Lf S q) : Qk P Lf (S + 1) (stp P Lf kind v rows len SUM BR q) := by
  refine ⟨stp_ok h.1, ?_, by rw [stp_step, h.2.2, nI_1]⟩
  refine pDraw_b (q := (_, q.2.1, q.2.2.1, q.2.2.2.1)) hl h.1 hP (fun i hi => ?_) Lf (Nat.le_refl _)
  show bnd (pMove P q.1 _ i) 100
  unfold pMove
  rw [if_pos hi]
  exact clamp_b _
theorem itr_Qk {P Lf : Nat} {kind v rows len : AI} {SUM : AI → Int32} {BR : Int32} (hP : P ≤ 6) (hl : Ln Lf len) : ∀ (n S : Nat) (q : Q5), Qk P Lf S q → Qk P Lf (S + n) (itr (stp P Lf kind v rows len SUM BR) n q)
  | 0, S, q, h => h
  | n + 1, S, q, h => by
    have := itr_Qk (kind := kind) (v := v) (rows := rows) (SUM := SUM) (BR := BR) hP hl n (S + 1) _ (stp_Qk (kind := kind) (v := v) (rows := rows) (len := len) (SUM := SUM) (BR := BR) hP hl h)
    rw [show S + 1 + n = S + (n + 1) by omega] at this
    exact this
/-! what is copied -/
theorem cpy_at {f g : AI} {n j : Nat} (h : j < n) : va_cpy f g 0 0 n j = f j := sb_cpy0 h
abbrev cQ (q : Q5) (p f s : AI) : Q5 := (va_cpy q.1 p 0 0 6, va_cpy q.2.1 f 0 0 4, va_cpy q.2.2.1 s 0 0 4, q.2.2.2.1, q.2.2.2.2)
theorem cQ_Qk {P Lf S : Nat} {q : Q5} {p f s : AI} (hP : P ≤ 6) (hL : Lf ≤ 4) (h : Qk P Lf S q) : Qk P Lf S (cQ q p f s) := by
  refine ⟨fun l hl => ?_, fun i hi => ?_, h.2.2⟩
  · show (va_cpy q.2.1 f 0 0 4 l = -5 ∧ va_cpy q.2.2.1 s 0 0 4 l = -5) ∨ ∃ a b, a < P ∧ b < P ∧ va_cpy q.2.1 f 0 0 4 l = nI a ∧ va_cpy q.2.2.1 s 0 0 4 l = nI b
    rw [cpy_at (by omega), cpy_at (by omega)]; exact h.1 l hl
  · show bnd (va_cpy q.1 p 0 0 6 i) 100
    rw [cpy_at (by omega)]; exact h.2.1 i hi
theorem cKk {P : Nat} {kind v rows kind' v' rows' : AI} (h : Kk P kind v rows) : Kk P (va_cpy kind kind' 0 0 6) (va_cpy v v' 0 0 6) (va_cpy rows rows' 0 0 24) := by
  obtain ⟨h1, h2, h3⟩ := h
  refine ⟨h1, fun i hi => ?_, fun j hj hj2 => ?_⟩
  · rw [cpy_at (by omega), cpy_at (by omega)]; exact h2 i hi
  · rw [cpy_at (by omega)]; exact h3 j hj hj2
theorem cLn {Lf : Nat} {len len' : AI} (h : Ln Lf len) : Ln Lf (va_cpy len len' 0 0 4) := by
  obtain ⟨h1, h2⟩ := h
  refine ⟨h1, fun l hl => ?_⟩
  rw [cpy_at (by omega)]; exact h2 l hl
theorem cRM {P Lf : Nat} {kind v rows len kind' v' rows' len' p f s : AI} {q : Q5} {now : AI} (hP : P ≤ 6) (hL : Lf ≤ 4) (h : RM P Lf kind v rows len q now) : RM P Lf (va_cpy kind kind' 0 0 6) (va_cpy v v' 0 0 6) (va_cpy rows rows' 0 0 24) (va_cpy len len' 0 0 4) (cQ q p f s) now := by
  obtain ⟨h1, h2, h3, h4, h5, h6⟩ := h
  refine ⟨h1, h2, h3, h4, fun i hi => ?_, fun l hl => ?_⟩
  · obtain ⟨a1, a2, a3, a4⟩ := h5 i hi
    refine ⟨by rw [cpy_at (by omega)]; exact a1, by rw [cpy_at (by omega)]; exact a2, ?_, fun k hk => by rw [cpy_at (by omega)]; exact a4 k hk⟩
    show now (7 * i + 2) = va_cpy q.1 p 0 0 6 i
    rw [cpy_at (by omega)]; exact a3
  · obtain ⟨a1, a2, a3⟩ := h6 l hl
    refine ⟨by rw [cpy_at (by omega)]; exact a1, ?_, ?_⟩
    · show now (43 + 3 * l) = enc (va_cpy q.2.1 f 0 0 4 l)
      rw [cpy_at (by omega)]; exact a2
    · show now (44 + 3 * l) = enc (va_cpy q.2.2.1 s 0 0 4 l)
      rw [cpy_at (by omega)]; exact a3
def mv (q z : AI) : AI := fun i => if i < 113 then q i else z i
theorem moveLoop (q z : AI) : ∀ (n j : Nat), j ≤ 113 → 113 - j < n → LX8_move_2 q n (nI j) (fun i => if i < j then q i else z i) = some (mv q z) := by
  intro n
  induction n with
  | zero => intro j _ h; omega
  | succ n ih =>
    intro j hj hn
    rw [LX8_move_2]
    by_cases e : j = 113
    · subst e; rw [if_pos (by decide)]; rfl
    · have h1 : ¬ (113 : Int32) ≤ nI j := nle_nI (a := 113) (by omega) (by omega)
      rw [if_neg h1, gd_t (inb_n (by omega) (by decide)), gd_t (inb_n (by omega) (by decide)), nI_1, nI_clamp (by omega), ← ih (j + 1) (by omega) (by omega)]
      congr 1
      funext i
      unfold upd
      by_cases e2 : i = j
      · subst e2; rw [if_pos rfl, if_pos (Nat.lt_succ_self i)]
      · rw [if_neg e2]
        show (if i < j then q i else z i) = _
        by_cases e3 : i < j
        · rw [if_pos e3, if_pos (by omega)]
        · rw [if_neg e3, if_neg (by omega)]
theorem move_m (q z : AI) : fX8_move FU q z = some (mv q z) := by
  have := moveLoop q z FU 0 (by omega) (by unfold FU; omega)
  unfold fX8_move
  rw [show (fun i => if i < 0 then q i else z i) = z from funext fun i => if_neg (by omega)] at this
  exact this
theorem mv_at {q z : AI} {i : Nat} (h : i < 113) : mv q z i = q i := if_pos h
theorem mv_back {now z now2 : AI} (h : Same58 now now2) : mv (mv now z) now2 = now := by
  funext i
  unfold mv
  by_cases e : i < 113
  · rw [if_pos e, if_pos e]
  · rw [if_neg e]; exact h i (by omega)
theorem RM_mv {P Lf : Nat} {kind v rows len : AI} {q : Q5} {now z : AI} (hP : P ≤ 6) (hL : Lf ≤ 4) (h : RM P Lf kind v rows len q now) : RM P Lf kind v rows len q (mv now z) := by
  obtain ⟨h1, h2, h3, h4, h5, h6⟩ := h
  refine ⟨by rw [mv_at (by omega)]; exact h1, by rw [mv_at (by omega)]; exact h2, by rw [mv_at (by omega)]; exact h3, by rw [mv_at (by omega)]; exact h4, fun i hi => ?_, fun l hl => ?_⟩
  · obtain ⟨a1, a2, a3, a4⟩ := h5 i hi
    exact ⟨by rw [mv_at (by omega)]; exact a1, by rw [mv_at (by omega)]; exact a2, by rw [mv_at (by omega)]; exact a3, fun k hk => by rw [mv_at (by omega)]; exact a4 k hk⟩
  · obtain ⟨a1, a2, a3⟩ := h6 l hl
    exact ⟨by rw [mv_at (by omega)]; exact a1, by rw [mv_at (by omega)]; exact a2, by rw [mv_at (by omega)]; exact a3⟩
