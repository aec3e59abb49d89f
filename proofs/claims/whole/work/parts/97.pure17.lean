/-! ===== counts, texts, libraries ===== -/
theorem bd8_s {α β γ δ ε ζ η θ ι : Type} {a : α} {b : β} {c : γ} {d : δ} {e : ε} {f : ζ} {g : η} {h : θ} {k : α → β → γ → δ → ε → ζ → η → θ → Option ι} : bd8 (some (a, b, c, d, e, f, g, h)) k = k a b c d e f g h := rfl
/-- the text fed so far -/
def TX (n : Nat) (dt mt : AI) : Prop := n ≤ 100 ∧ ∀ j, j < n → dt j = mt j ∧ bnd (mt j) 128
theorem count_2 {P Lf S R n ra : Nat} {kind v rows len sl ss st pw po bp bl : AI} {sc pc bc : Int32} {q : Q5} {now : AI} (x1 : Int32) (H : HR P Lf S kind v rows len q now) (N : NR P Lf sc sl ss st pc pw po bc bp bl now) : ∃ r, fX7_count (nI R) (nI P) (nI Lf) sc pc bc (nI n) (nI ra) x1 = some r ∧ fX8_count now (nI n) (nI R) (nI ra) x1 = some r := by
  obtain ⟨-, -, -, h⟩ := H
  obtain ⟨⟨a, -, rfl, a3, -⟩, ⟨b, -, rfl, b3, -⟩, c, -, rfl, c3, -⟩ := N
  unfold fX7_count fX8_count
  rw [h.1, h.2.1, a3, b3, c3]
  by_cases e0 : x1 = 0
  · simp only [if_pos e0]; exact ⟨_, rfl, rfl⟩
  simp only [if_neg e0]
  by_cases e1 : x1 = 1
  · simp only [if_pos e1]; exact ⟨_, rfl, rfl⟩
  simp only [if_neg e1]
  by_cases e2 : x1 = 2
  · simp only [if_pos e2]; exact ⟨_, rfl, rfl⟩
  simp only [if_neg e2]
  by_cases e3 : x1 = 3
  · simp only [if_pos e3]; exact ⟨_, rfl, rfl⟩
  simp only [if_neg e3]
  by_cases e4 : x1 = 4
  · simp only [if_pos e4]; exact ⟨_, rfl, rfl⟩
  simp only [if_neg e4]
  by_cases e5 : x1 = 5
  · simp only [if_pos e5]; exact ⟨_, rfl, rfl⟩
  simp only [if_neg e5]
  by_cases e6 : x1 = 6
  · simp only [if_pos e6]; exact ⟨_, rfl, rfl⟩
  simp only [if_neg e6]
  by_cases e7 : x1 = 7
  · simp only [if_pos e7]; exact ⟨_, rfl, rfl⟩
  simp only [if_neg e7]
  exact ⟨_, rfl, rfl⟩
theorem char_n : ∀ k, k < 128 → vp_nar .char (((nI k).toUInt32 % 65536).toInt32) = nI k := by decide +kernel
theorem feed_2 {n : Nat} {dt mt : AI} (x1 : Int32) (h : TX n dt mt) : ∃ r n' dt' mt', fX7_feed dt (nI n) x1 = some (r, dt', nI n') ∧ fX8_feed mt (nI n) x1 = some (r, mt', nI n') ∧ TX n' dt' mt' := by
  unfold fX7_feed fX8_feed
  rw [show (127 : Int32) = nI 127 from rfl]
  rcases within_or x1 127 (by omega) with ⟨k, k1, rfl, b1, c1⟩ | ⟨b1, c1⟩
  rotate_left
  · rw [b1, c1, bd1_s, bd1_s, i0, i0]; exact ⟨_, _, _, _, rfl, rfl, h⟩
  rw [b1, c1, bd1_s, bd1_s, i1, i1]
  obtain ⟨h1, h2⟩ := h
  by_cases e : n = 100
  · subst e
    rw [if_neg (by decide), if_pos (show nI 100 = 100 from rfl)]; exact ⟨_, _, _, _, rfl, rfl, h1, h2⟩
  · have hb : inb (nI n) 100 := inb_n (by omega) (by decide)
    rw [if_pos (show nI n < 100 from (nI_ltI (b := 100) (by omega) (by omega)).mpr (by omega)), if_neg (show ¬ nI n = 100 from nI_ne (b := 100) (by omega) (by omega) e), gd_t hb]
    unfold fX4_addSign
    rw [gd_t hb, bd3_s, nI_clamp (by omega), nI_1, char_n k k1]
    refine ⟨_, _, _, _, rfl, rfl, by omega, fun j hj => ?_⟩
    by_cases e2 : j = n
    · subst e2; rw [upd_s, upd_s]; exact ⟨rfl, k, k1, rfl⟩
    · rw [upd_n e2, upd_n e2]; exact h2 j (by omega)
/-- a library, as the class keeps it and as the model's text k says -/
def LIB (k : Nat) (bs bl bn : AI) (bz bb : Int32) (rules sizes lt bg wd : AI) : Prop :=
  ∃ (cs : List CD) (BR : Int32), cs.length ≤ 100 ∧ okC cs ∧ (∀ tr, fX3_sumFor FU bs bl bn bz tr = some (evL tr cs (0, 0)).1) ∧ bb = BR ∧ ∃ sz : Nat, sz ≤ 100 ∧ sizes k = nI sz ∧ ∀ (rd : AI) (a w wi s b : Int32) (nm : AI), (∀ j, j < sz → rd j = rules (100 * k + j)) → ∃ r a' w' wi', fX8_readAll FU rd (nI sz) a w wi s b nm lt bg wd = some (r, a', w', wi', (evL nm cs (0, 0)).1, BR)
theorem LIB_same {k : Nat} {bs bl bn : AI} {bz bb : Int32} {rules sizes rules' sizes' lt bg wd : AI} (hs : sizes' k = sizes k) (hr : ∀ j, j < 100 → rules' (100 * k + j) = rules (100 * k + j)) (h : LIB k bs bl bn bz bb rules sizes lt bg wd) : LIB k bs bl bn bz bb rules' sizes' lt bg wd := by
  obtain ⟨cs, BR, a1, a2, a3, a4, sz, b1, b2, b3⟩ := h
  exact ⟨cs, BR, a1, a2, a3, a4, sz, b1, hs.trans b2, fun rd a w wi s b nm hj => b3 rd a w wi s b nm (fun j hjs => (hj j hjs).trans (hr j (by omega)))⟩
/-- which library holds -/
def LC (R : Nat) (lo : Nat → Nat) (lib : Option Nat) (code : Int32) : Prop := (lib = none ∧ code = 0) ∨ ∃ k, k < R ∧ lib = some (lo k) ∧ code = nI (k + 1)
theorem sums_none {code : Int32} {bs bl bn rules sizes lt bg wd : AI} {bz bb : Int32} (hc : code = 0) : SumC (fun _ => 0) 6 FU none bs bl bn bz bb ∧ SumM (fun _ => 0) 6 FU code rules sizes lt bg wd :=
  ⟨⟨fun _ _ _ => rfl, rfl, fun _ _ => rfl, fun h => absurd rfl h⟩, Or.inl ⟨hc, fun _ => rfl, rfl⟩⟩
theorem sums_some {k l : Nat} {code : Int32} {bs bl bn rules sizes lt bg wd : AI} {bz bb : Int32} (hk : k < 6) (hc : code = nI (k + 1)) (h : LIB k bs bl bn bz bb rules sizes lt bg wd) : ∃ SUM BR, SumC SUM BR FU (some l) bs bl bn bz bb ∧ SumM SUM BR FU code rules sizes lt bg wd := by
  obtain ⟨cs, BR, a1, a2, a3, a4, sz, b1, b2, b3⟩ := h
  refine ⟨fun tr => (evL tr cs (0, 0)).1, BR, ⟨fun tr tr' hh => congrArg Prod.fst (evL_congr hh cs _ a2), by rw [a4]; rfl, fun h => (by cases h), fun _ => a3⟩, Or.inr ⟨k, sz, hk, b1, hc, b2, b3⟩⟩
theorem libCopy {fu : Nat} {now mt rules sizes lt bg wd nm : AI} {R n : Nat} {a w wi s b : Int32} (hn : n ≤ 100) : ∀ (m j : Nat) (rd : AI), j ≤ n → n - j < m → (∀ i, i < j → rd i = mt i) → ∃ rd', (∀ i, i < n → rd' i = mt i) ∧ LX8_library_22 fu now mt (nI n) rules sizes (nI R) a w wi s b nm lt bg wd m (nI j) rd = bd6 (fX8_readAll fu rd' (nI n) a w wi s b nm lt bg wd) (fun r54 mat_54 mwell_54 mwithin_54 msum_54 mbear_54 => if r54 = 0 then some ((-10) - mat_54, now, 0, rules, sizes, nI R, rd', nI n, mat_54, mwell_54, mwithin_54, msum_54, mbear_54) else LX8_library_70 now (nI n) sizes (nI R) rd' mat_54 mwell_54 mwithin_54 msum_54 mbear_54 fu 0 rules) := by
  intro m
  induction m with
  | zero => intro j rd _ h; omega
  | succ m ih =>
    intro j rd hj hm hd
    rw [LX8_library_22]
    by_cases e : j = n
    · subst e
      rw [if_pos (nI_le (Nat.le_refl _) (by omega))]
      exact ⟨rd, hd, rfl⟩
    · have hb : inb (nI j) 100 := inb_n (by omega) (by decide)
      rw [if_neg (nle_nI (by omega) (by omega)), gd_t hb, gd_t hb, nI_1, nI_clamp (by omega)]
      exact ih (j + 1) _ (by omega) (by omega) (fun i hi => by
        by_cases e2 : i = j
        · subst e2; rw [upd_s]
        · rw [upd_n e2]; exact hd i (by omega))
theorem libKeep {now sizes rd : AI} {R n : Nat} {a w wi s b : Int32} (hR : R < 6) (hn : n ≤ 100) : ∀ (m j : Nat) (rules : AI), j ≤ n → n - j < m → ∃ rules', (∀ i, i < n → j ≤ i → rules' (100 * R + i) = rd i) ∧ (∀ i, (i < 100 * R + j ∨ 100 * R + 100 ≤ i) → rules' i = rules i) ∧ LX8_library_70 now (nI n) sizes (nI R) rd a w wi s b m (nI j) rules = some (nI R, upd now 58 (nI (R + 1)), 0, rules', upd sizes R (nI n), nI (R + 1), rd, nI n, a, w, wi, s, b) := by
  intro m
  induction m with
  | zero => intro j rules _ h; omega
  | succ m ih =>
    intro j rules hj hm
    rw [LX8_library_70]
    by_cases e : j = n
    · subst e
      rw [if_pos (nI_le (Nat.le_refl _) (by omega)), gd_t (inb_n hR (by decide)), nI_1, nI_pred, nI_clamp (by omega)]
      exact ⟨rules, fun i h1 h2 => by omega, fun _ _ => rfl, rfl⟩
    · have hb : inb (nI j) 100 := inb_n (by omega) (by decide)
      have e1 : 100 * nI R + nI j = nI (100 * R + j) := by rw [show (100 : Int32) = nI 100 from rfl, pk_mul, nI_add]
      rw [if_neg (nle_nI (by omega) (by omega)), gd_t hb, e1, gd_t (inb_n (by omega) (by decide)), nI_1, nI_clamp (by omega), nI_clamp (by omega)]
      obtain ⟨rules', g1, g2, g3⟩ := ih (j + 1) (upd rules (100 * R + j) (rd j)) (by omega) (by omega)
      refine ⟨rules', fun i h1 h2 => ?_, fun i hi => ?_, g3⟩
      · by_cases e2 : i = j
        · subst e2; rw [g2 _ (by omega), upd_s]
        · exact g1 i h1 (by omega)
      · rw [g2 i (by omega), upd_n (by omega)]
/-- all that is kept in texts, and what the class keeps of them -/
theorem library_2 {R n b : Nat} {now dt mt rules sizes lt bg wd rd nm bs bl bn : AI} {wl dl : Option Nat} {yarr : Nat → Option Nat} {da bz bb sz a w wi s be : Int32} (hR : R < 6) (hT : TX n dt mt) (hb : Tb bg wd lt) :
    (∃ r da' dl' bs' bl' bn' bz' bb' rules' sizes' rd' sz' a' w' wi' s' be', fX7_library FU b (nI R) wl dt (nI n) da dl yarr bs bl bn bz bb = some (r, nI (R + 1), some b, 0, da', dl', bs', bl', bn', bz', bb') ∧ fX8_library FU now mt (nI n) rules sizes (nI R) rd sz a w wi s be nm lt bg wd = some (r, upd now 58 (nI (R + 1)), 0, rules', sizes', nI (R + 1), rd', sz', a', w', wi', s', be') ∧ LIB R bs' bl' bn' bz' bb' rules' sizes' lt bg wd ∧ (∀ i, i < 100 * R → rules' i = rules i) ∧ ∀ i, i < R → sizes' i = sizes i) ∨
    ∃ r da' dl' bs' bl' bn' bz' bb' rd' sz' a' w' wi' s' be', fX7_library FU b (nI R) wl dt (nI n) da dl yarr bs bl bn bz bb = some (r, nI R, wl, 0, da', dl', bs', bl', bn', bz', bb') ∧ fX8_library FU now mt (nI n) rules sizes (nI R) rd sz a w wi s be nm lt bg wd = some (r, now, 0, rules, sizes, nI R, rd', sz', a', w', wi', s', be') := by
  obtain ⟨hn, ht⟩ := hT
  have hTx : Txt dt n := ⟨hn, fun j hj => by obtain ⟨e, k, k1, k2⟩ := ht j hj; exact ⟨k, k1, e.trans k2⟩⟩
  have h6 : ¬ nI R = 6 := nI_ne (b := 6) (by omega) (by omega) (by omega)
  have hR6 : inb (nI R) 6 := inb_n (by omega) (by decide)
  obtain ⟨rd1, g1, g2⟩ := libCopy (fu := FU) (now := now) (mt := mt) (rules := rules) (sizes := sizes) (lt := lt) (bg := bg) (wd := wd) (nm := nm) (R := R) (a := a) (w := w) (wi := wi) (s := s) (b := be) hn FU 0 rd (by omega) (by unfold FU; omega) (fun i hi => by omega)
  have hm : fX8_library FU now mt (nI n) rules sizes (nI R) rd sz a w wi s be nm lt bg wd = _ := (if_neg h6).trans g2
  have hrd : ∀ j, j < n → rd1 j = dt j := fun j hj => (g1 j hj).trans (ht j hj).1.symm
  rw [hm]
  unfold fX7_library
  rw [if_pos (show nI R < 6 from (nI_ltI (b := 6) (by omega) (by omega)).mpr hR), gd_t hR6]
  rcases text_ok (b := b) hTx hb with ⟨cs, BR, f1, f2, f3, f4⟩ | ⟨a', f1, f2, f3⟩
  · obtain ⟨wi', e1⟩ := f4 rd1 a w wi s be nm hrd
    obtain ⟨rules', k1, k2, k3⟩ := libKeep (now := now) (sizes := sizes) (rd := rd1) (a := nI n) (w := 1) (wi := wi') (s := (evL nm cs (0, 0)).1) (b := BR) hR hn FU 0 rules (by omega) (by unfold FU; omega)
    rw [f3, e1, bd6_s, if_neg (by decide), bd8_s, if_pos rfl, nI_1, nI_pred]
    refine Or.inl ⟨_, _, _, _, _, _, _, _, rules', _, _, _, _, _, _, _, _, rfl, k3, ⟨cs, BR, f1, f2, fun tr => sumFor_ev f1 f2, rfl, n, hn, upd_s, fun rd a w wi s b nm hj => ?_⟩, fun i hi => k2 i (Or.inl (by omega)), fun i hi => upd_n (by omega)⟩
    obtain ⟨wi2, e2⟩ := f4 rd a w wi s b nm (fun j hj2 => (hj j hj2).trans ((k1 j hj2 (Nat.zero_le _)).trans (hrd j hj2)))
    exact ⟨_, _, _, wi2, e2⟩
  · obtain ⟨w', wi', s', be', e1⟩ := f3 rd1 a w wi s be nm hrd
    obtain ⟨S', L', N', z', bb', e2⟩ := f2 da dl bs bl bn bz bb
    rw [e1, e2, bd6_s, if_pos rfl, bd8_s, if_neg (nI_m5 (by omega))]
    exact Or.inr ⟨_, _, _, _, _, _, _, _, _, _, _, _, _, _, _, rfl, rfl⟩
theorem library_full {n b : Nat} {now dt mt rules sizes lt bg wd rd nm bs bl bn : AI} {wl dl : Option Nat} {yarr : Nat → Option Nat} {da bz bb sz a w wi s be : Int32} :
    fX7_library FU b (nI 6) wl dt (nI n) da dl yarr bs bl bn bz bb = some (-4, nI 6, wl, nI n, da, dl, bs, bl, bn, bz, bb) ∧ fX8_library FU now mt (nI n) rules sizes (nI 6) rd sz a w wi s be nm lt bg wd = some (-4, now, nI n, rules, sizes, nI 6, rd, sz, a, w, wi, s, be) := by
  unfold fX7_library fX8_library
  exact ⟨if_neg (by decide), if_pos rfl⟩
