/-! ===== the class: n steps ===== -/
def itr (f : Q5 → Q5) : Nat → Q5 → Q5
  | 0, q => q
  | n + 1, q => itr f n (f q)
theorem itr_succ (f : Q5 → Q5) : ∀ (n : Nat) (q : Q5), itr f (n + 1) q = f (itr f n q)
  | 0, q => rfl
  | n + 1, q => by rw [itr, itr_succ f n (f q)]; rfl
theorem stp_step {P Lf : Nat} {kind v rows len : AI} {SUM : AI → Int32} {BR : Int32} {q : Q5} : (stp P Lf kind v rows len SUM BR q).2.2.2.2 = q.2.2.2.2 + 1 := rfl
theorem goOn_c {kind v rows len bs bl bn : AI} {bz bb BR : Int32} {lib : Option Nat} {P Lf fu N : Nat} {SUM : AI → Int32} (hP : P ≤ 6) (hL : Lf ≤ 4) (hf : 6 < fu) (hN : N < 2 ^ 30) (hC : SumC SUM BR fu lib bs bl bn bz bb) : ∀ (n j : Nat) (q : Q5) (S : Nat) (drifts traits : AI), j ≤ N → N - j < n → pOk 6 Lf q.2.1 q.2.2.1 → q.2.2.2.2 = nI S → S + (N - j) < 2 ^ 31 →
    ∃ d' t', LX2_goOn_2 fu (nI P) kind v rows (nI Lf) len lib bs bl bn bz bb (nI N) n (nI j) q.1 q.2.1 q.2.2.1 q.2.2.2.1 q.2.2.2.2 drifts traits = some ((itr (stp P Lf kind v rows len SUM BR) (N - j) q).1, (itr (stp P Lf kind v rows len SUM BR) (N - j) q).2.1, (itr (stp P Lf kind v rows len SUM BR) (N - j) q).2.2.1, (itr (stp P Lf kind v rows len SUM BR) (N - j) q).2.2.2.1, (itr (stp P Lf kind v rows len SUM BR) (N - j) q).2.2.2.2, d', t') := by
  intro n
  induction n with
  | zero => intro j q S d t _ h; omega
  | succ n ih =>
    intro j q S drifts traits hj h ho hS hS2
    by_cases e : j = N
    · subst e
      refine ⟨drifts, traits, ?_⟩
      rw [LX2_goOn_2, if_pos (nI_le (Nat.le_refl _) (by omega)), Nat.sub_self]
      rfl
    · obtain ⟨d1, t1, h1⟩ := goOne_c (drifts := drifts) (traits := traits) (len := len) (rows := rows) hP hL hf ho hS (by omega) hC
      obtain ⟨d2, t2, h2⟩ := ih (j + 1) (stp P Lf kind v rows len SUM BR q) (S + 1) d1 t1 (by omega) (by omega) (stp_ok ho) (by rw [stp_step, hS, nI_1]) (by omega)
      refine ⟨d2, t2, ?_⟩
      have e2 : N - j = (N - (j + 1)) + 1 := by omega
      rw [LX2_goOn_2, if_neg (nle_nI (by omega) (by omega)), h1, nI_1]
      rw [e2, itr]
      exact h2
/-! ===== the model: what now says ===== -/
def enc (x : Int32) : Int32 := if x = -5 then -1 else x
theorem enc_n {a : Nat} (h : a < 2 ^ 31) : enc (nI a) = nI a := by unfold enc; rw [if_neg (nI_m5 h)]
def RM (P Lf : Nat) (kind v rows len : AI) (q : Q5) (now : AI) : Prop :=
  now 54 = nI P ∧ now 55 = nI Lf ∧ now 56 = q.2.2.2.1 ∧ now 57 = q.2.2.2.2 ∧
  (∀ i, i < P → now (7 * i) = kind i ∧ now (7 * i + 1) = v i ∧ now (7 * i + 2) = q.1 i ∧ ∀ k, k < 4 → now (7 * i + 3 + k) = rows (4 * i + k)) ∧
  ∀ l, l < Lf → now (42 + 3 * l) = len l ∧ now (43 + 3 * l) = enc (q.2.1 l) ∧ now (44 + 3 * l) = enc (q.2.2.1 l)
/-- what lies behind the hall stays -/
def Same58 (now now' : AI) : Prop := ∀ i, 58 ≤ i → now' i = now i
theorem RM_place {P Lf : Nat} {kind v rows len : AI} {q : Q5} {now : AI} {a : Nat} {x : Int32} (hP : P ≤ 6) (h : RM P Lf kind v rows len q now) (ha : a < P) : RM P Lf kind v rows len (upd q.1 a x, q.2) (upd now (7 * a + 2) x) := by
  obtain ⟨h1, h2, h3, h4, h5, h6⟩ := h
  refine ⟨by rw [upd_n (by omega)]; exact h1, by rw [upd_n (by omega)]; exact h2, by rw [upd_n (by omega)]; exact h3, by rw [upd_n (by omega)]; exact h4, fun i hi => ?_, fun l hl => ?_⟩
  · obtain ⟨a1, a2, a3, a4⟩ := h5 i hi
    refine ⟨by rw [upd_n (by omega)]; exact a1, by rw [upd_n (by omega)]; exact a2, ?_, fun k hk => by rw [upd_n (by omega)]; exact a4 k hk⟩
    by_cases e : i = a
    · subst e; show upd now _ x _ = upd q.1 i x i; rw [upd_s, upd_s]
    · show upd now _ x _ = upd q.1 a x i; rw [upd_n (by omega), upd_n e]; exact a3
  · obtain ⟨a1, a2, a3⟩ := h6 l hl
    exact ⟨by rw [upd_n (by omega)]; exact a1, by rw [upd_n (by omega)]; exact a2, by rw [upd_n (by omega)]; exact a3⟩
theorem RM_hold {P Lf : Nat} {kind v rows len : AI} {q : Q5} {now : AI} {k : Nat} {f s f' s' : Int32} (hP : P ≤ 6) (hL : Lf ≤ 4) (h : RM P Lf kind v rows len q now) (hk : k < Lf) (hf : f' = enc f) (hs : s' = enc s) : RM P Lf kind v rows len (q.1, upd q.2.1 k f, upd q.2.2.1 k s, q.2.2.2) (upd (upd now (43 + 3 * k) f') (44 + 3 * k) s') := by
  obtain ⟨h1, h2, h3, h4, h5, h6⟩ := h
  refine ⟨by rw [upd_n (by omega), upd_n (by omega)]; exact h1, by rw [upd_n (by omega), upd_n (by omega)]; exact h2, by rw [upd_n (by omega), upd_n (by omega)]; exact h3, by rw [upd_n (by omega), upd_n (by omega)]; exact h4, fun i hi => ?_, fun l hl => ?_⟩
  · obtain ⟨a1, a2, a3, a4⟩ := h5 i hi
    exact ⟨by rw [upd_n (by omega), upd_n (by omega)]; exact a1, by rw [upd_n (by omega), upd_n (by omega)]; exact a2, by rw [upd_n (by omega), upd_n (by omega)]; exact a3, fun j hj => by rw [upd_n (by omega), upd_n (by omega)]; exact a4 j hj⟩
  · obtain ⟨a1, a2, a3⟩ := h6 l hl
    refine ⟨by rw [upd_n (by omega), upd_n (by omega)]; exact a1, ?_, ?_⟩
    · by_cases e : l = k
      · subst e; show _ = enc (upd q.2.1 l f l); rw [upd_n (by omega), upd_s, upd_s, hf]
      · show _ = enc (upd q.2.1 k f l); rw [upd_n (by omega), upd_n (by omega), upd_n e]; exact a2
    · by_cases e : l = k
      · subst e; show _ = enc (upd q.2.2.1 l s l); rw [upd_s, upd_s, hs]
      · show _ = enc (upd q.2.2.1 k s l); rw [upd_n (by omega), upd_n (by omega), upd_n e]; exact a3
theorem RM_drops {P Lf : Nat} {kind v rows len : AI} {q : Q5} {now : AI} {x : Int32} (hP : P ≤ 6) (hL : Lf ≤ 4) (h : RM P Lf kind v rows len q now) : RM P Lf kind v rows len (q.1, q.2.1, q.2.2.1, x, q.2.2.2.2) (upd now 56 x) := by
  obtain ⟨h1, h2, h3, h4, h5, h6⟩ := h
  refine ⟨by rw [upd_n (by omega)]; exact h1, by rw [upd_n (by omega)]; exact h2, upd_s, by rw [upd_n (by omega)]; exact h4, fun i hi => ?_, fun l hl => ?_⟩
  · obtain ⟨a1, a2, a3, a4⟩ := h5 i hi
    exact ⟨by rw [upd_n (by omega)]; exact a1, by rw [upd_n (by omega)]; exact a2, by rw [upd_n (by omega)]; exact a3, fun j hj => by rw [upd_n (by omega)]; exact a4 j hj⟩
  · obtain ⟨a1, a2, a3⟩ := h6 l hl
    exact ⟨by rw [upd_n (by omega)]; exact a1, by rw [upd_n (by omega)]; exact a2, by rw [upd_n (by omega)]; exact a3⟩
theorem RM_step {P Lf : Nat} {kind v rows len : AI} {q : Q5} {now : AI} {x : Int32} (hP : P ≤ 6) (hL : Lf ≤ 4) (h : RM P Lf kind v rows len q now) : RM P Lf kind v rows len (q.1, q.2.1, q.2.2.1, q.2.2.2.1, x) (upd now 57 x) := by
  obtain ⟨h1, h2, h3, h4, h5, h6⟩ := h
  refine ⟨by rw [upd_n (by omega)]; exact h1, by rw [upd_n (by omega)]; exact h2, by rw [upd_n (by omega)]; exact h3, upd_s, fun i hi => ?_, fun l hl => ?_⟩
  · obtain ⟨a1, a2, a3, a4⟩ := h5 i hi
    exact ⟨by rw [upd_n (by omega)]; exact a1, by rw [upd_n (by omega)]; exact a2, by rw [upd_n (by omega)]; exact a3, fun j hj => by rw [upd_n (by omega)]; exact a4 j hj⟩
  · obtain ⟨a1, a2, a3⟩ := h6 l hl
    exact ⟨by rw [upd_n (by omega)]; exact a1, by rw [upd_n (by omega)]; exact a2, by rw [upd_n (by omega)]; exact a3⟩
theorem number_m {now : AI} {i k : Nat} (h : 7 * i + k < 113) : fX8_number now (nI i) (nI k) = some (now (7 * i + k)) := by
  unfold fX8_number
  rw [i7, gd_t (inb_n h (by decide)), nI_clamp (by omega)]
theorem holder_m {now : AI} {l k : Nat} (h : 42 + 3 * l + k < 113) : fX8_holder now (nI l) (nI k) = some (now (42 + 3 * l + k)) := by
  unfold fX8_holder
  rw [i42, gd_t (inb_n h (by decide)), nI_clamp (by omega)]
theorem holder1_m {now : AI} {l : Nat} (h : l < 4) : fX8_holder now (nI l) 1 = some (now (43 + 3 * l)) := by
  have e : fX8_holder now (nI l) 1 = some (now (42 + 3 * l + 1)) := holder_m (k := 1) (by omega)
  rw [e, show 42 + 3 * l + 1 = 43 + 3 * l by omega]
theorem holder2_m {now : AI} {l : Nat} (h : l < 4) : fX8_holder now (nI l) 2 = some (now (44 + 3 * l)) := by
  have e : fX8_holder now (nI l) 2 = some (now (42 + 3 * l + 2)) := holder_m (k := 2) (by omega)
  rw [e, show 42 + 3 * l + 2 = 44 + 3 * l by omega]
theorem length_m {now : AI} {l : Nat} (h : l < 4) : fX8_length now (nI l) = some (now (42 + 3 * l)) := by
  unfold fX8_length
  rw [i42', gd_t (inb_n (by omega) (by decide)), nI_clamp (by omega)]
theorem spot_m {now : AI} {i : Nat} (h : i < 6) : fX8_number now (nI i) 2 = some (now (7 * i + 2)) := number_m (k := 2) (by omega)
theorem isHeld_m {now : AI} {l : Nat} (h : l < 4) : fX8_isHeld now (nI l) = some (if now (43 + 3 * l) = -1 then 0 else 1) := by
  unfold fX8_isHeld
  rw [holder1_m h, bd1_s]
  split <;> rfl
theorem holds_m {now : AI} {l : Nat} {x y : Int32} (h : l < 4) : fX8_holds now (nI l) x y = some (upd (upd now (43 + 3 * l) x) (44 + 3 * l) y) := by
  unfold fX8_holds
  have e1 : 42 + 3 * nI l + 1 = nI (43 + 3 * l) := by rw [show (1 : Int32) = nI 1 from rfl, i42, show 42 + 3 * l + 1 = 43 + 3 * l by omega]
  have e2 : 42 + 3 * nI l + 2 = nI (44 + 3 * l) := by rw [show (2 : Int32) = nI 2 from rfl, i42, show 42 + 3 * l + 2 = 44 + 3 * l by omega]
  rw [e1, e2, gd_t (inb_n (by omega) (by decide)), gd_t (inb_n (by omega) (by decide)), nI_clamp (by omega), nI_clamp (by omega)]
theorem change_m {now : AI} {i k : Nat} {x : Int32} (h : 7 * i + k < 113) : fX8_change now (nI i) (nI k) x = some (now (7 * i + k), upd now (7 * i + k) x) := by
  unfold fX8_change
  rw [number_m h, bd1_s, i7, gd_t (inb_n h (by decide)), nI_clamp (by omega)]
theorem changeS_m {now : AI} {i : Nat} {x : Int32} (h : i < 6) : fX8_change now (nI i) 2 x = some (now (7 * i + 2), upd now (7 * i + 2) x) := change_m (k := 2) (by omega)
theorem enc_m1 {P Lf : Nat} {first second : AI} (h : pOk P Lf first second) (hP : P ≤ 6) {l : Nat} (hl : l < Lf) : (enc (first l) = -1) ↔ first l = -5 := by
  rcases h l hl with ⟨h1, -⟩ | ⟨a, b, ha, hb, h1, h2⟩
  · rw [h1]; unfold enc; simp
  · rw [h1, enc_n (by omega)]
    exact ⟨fun e => absurd e (nI_m1 (by omega)), fun e => absurd e (nI_m5 (by omega))⟩
theorem isHeldR_m {P Lf : Nat} {kind v rows len : AI} {q : Q5} {now : AI} (hP : P ≤ 6) (hL : Lf ≤ 4) (h : RM P Lf kind v rows len q now) (ho : pOk P Lf q.2.1 q.2.2.1) {l : Nat} (hl : l < Lf) : fX8_isHeld now (nI l) = some (if q.2.1 l = -5 then 0 else 1) := by
  rw [isHeld_m (by omega), (h.2.2.2.2.2 l hl).2.1]
  by_cases e : q.2.1 l = -5
  · rw [if_pos ((enc_m1 ho hP hl).mpr e), if_pos e]
  · rw [if_neg (fun z => e ((enc_m1 ho hP hl).mp z)), if_neg e]
theorem gapOf_m {P Lf : Nat} {kind v rows len : AI} {q : Q5} {now : AI} (hP : P ≤ 6) (hL : Lf ≤ 4) (h : RM P Lf kind v rows len q now) {l a b : Nat} (hl : l < Lf) (ha : a < P) (hb : b < P) (h1 : q.2.1 l = nI a) (h2 : q.2.2.1 l = nI b) : fX8_gapOf now (nI l) = some (pGap q.1 q.2.1 q.2.2.1 len l) := by
  obtain ⟨g1, g2, g3⟩ := h.2.2.2.2.2 l hl
  rw [h1, enc_n (by omega)] at g2
  rw [h2, enc_n (by omega)] at g3
  unfold fX8_gapOf
  rw [holder1_m (by omega), bd1_s, g2, spot_m (by omega), bd1_s, holder2_m (by omega), bd1_s, g3, spot_m (by omega), bd1_s, length_m (by omega), bd1_s, (h.2.2.2.2.1 a ha).2.2.1, (h.2.2.2.2.1 b hb).2.2.1, g1]
  unfold pGap
  rw [h1, h2, nI_clamp (by omega), nI_clamp (by omega)]
theorem isTaut_m {P Lf : Nat} {kind v rows len : AI} {q : Q5} {now : AI} (hP : P ≤ 6) (hL : Lf ≤ 4) (h : RM P Lf kind v rows len q now) (ho : pOk P Lf q.2.1 q.2.2.1) {l : Nat} (hl : l < Lf) : fX8_isTaut now (nI l) = some (if q.2.1 l = -5 then 0 else if pGap q.1 q.2.1 q.2.2.1 len l ≤ 0 then 0 else 1) := by
  unfold fX8_isTaut
  rw [isHeldR_m hP hL h ho hl, bd1_s]
  by_cases e : q.2.1 l = -5
  · rw [if_pos e, if_pos e, if_pos rfl]
  · obtain ⟨a, b, ha, hb, h1, h2⟩ := pOk_first ho hl e
    rw [if_neg e, if_neg e, if_neg (by decide), gapOf_m hP hL h hl ha hb h1 h2, bd1_s]
    split <;> rfl
