/-! ===== fits: how many, the least ===== -/
def cntF (f : Nat → Int32) : Nat → Nat → Nat
  | _, 0 => 0
  | x, m + 1 => (if f x = 0 then 0 else 1) + cntF f (x + 1) m
def leaF (f : Nat → Int32) : Nat → Nat → Int32
  | _, 0 => -5
  | x, m + 1 => if f x = 0 then leaF f (x + 1) m else nI x
def AgF (pl : Nat) (now now' : AI) : Prop := ∀ i, i ≠ pl → now' i = now i
theorem AgF_upd {pl : Nat} {now now' : AI} (x : Int32) (h : AgF pl now now') : upd now' pl x = upd now pl x := by
  funext i
  unfold upd
  by_cases e : i = pl
  · rw [if_pos e, if_pos e]
  · rw [if_neg e, if_neg e]; exact h i e
theorem nI_m (x : Nat) : nI x + -1 = nI x - 1 := (Int32.sub_eq_add_neg _ _).symm
theorem fits_m {pl lo hi : Nat} {x4 : Int32} {now rules sizes lt bg wd : AI} (f : Nat → Int32) (hpl : pl < 113) (hhi : hi < 100) (hlo : lo < 100) (hf : ∀ x, lo ≤ x → x ≤ hi → (f x = 0 ∨ f x = 1) ∧ ∀ (mi : AI) (rd nm dr : AI) (sz a w wi s b : Int32), ∃ mi' J, fX8_isAllSeen FU (upd now pl (nI x)) mi rules sizes rd sz a w wi s b nm lt bg wd dr = some (f x, upd now pl (nI x), mi', (J : J9))) : ∀ (n y : Nat) (nowX mi : AI) (rd nm dr : AI) (sz a w wi s b : Int32), lo ≤ y → y ≤ hi + 1 → y - lo < n → AgF pl now nowX →
    ∃ mi' J, LX8_fits_18 FU now rules sizes lt bg wd (nI pl) (nI lo) x4 n (nI (cntF f y (hi + 1 - y))) (leaF f y (hi + 1 - y)) (nI y - 1) nowX mi rd sz a w wi s b nm dr = some (if x4 = 0 then leaF f lo (hi + 1 - lo) else nI (cntF f lo (hi + 1 - lo)), now, mi', (J : J9)) := by
  intro n
  induction n with
  | zero => intro y nowX mi rd nm dr sz a w wi s b _ _ h; omega
  | succ n ih =>
    intro y nowX mi rd nm dr sz a w wi s b hy hy2 hn hA
    have hb : inb (nI pl) 113 := inb_n hpl (by decide)
    rw [LX8_fits_18, gd_t hb, gd_t hb, nI_clamp (by omega)]
    by_cases e : y = lo
    · subst e
      have hlt : nI y - 1 < nI y := by
        rcases Nat.eq_zero_or_pos y with e0 | e0
        · subst e0; decide
        · rw [minus_1 e0, nI_ltI (by omega) (by omega)]; omega
      rw [if_pos hlt, AgF_upd _ hA, upd_id rfl]
      by_cases e4 : x4 = 0
      · rw [if_pos e4, if_pos e4]; exact ⟨mi, _, rfl⟩
      · rw [if_neg e4, if_neg e4]; exact ⟨mi, _, rfl⟩
    · obtain ⟨z, rfl⟩ : ∃ z, y = z + 1 := ⟨y - 1, by omega⟩
      have hlt : ¬ nI z < nI lo := by rw [nI_ltI (by omega) (by omega)]; omega
      obtain ⟨hz, hg⟩ := hf z (by omega) (by omega)
      obtain ⟨mi1, ⟨rd1, sz1, a1, w1, wi1, s1, b1, nm1, dr1⟩, g⟩ := hg mi rd nm dr sz a w wi s b
      have em : hi + 1 - z = (hi + 1 - (z + 1)) + 1 := by omega
      have hcn : cntF f z (hi + 1 - z) = (if f z = 0 then 0 else 1) + cntF f (z + 1) (hi + 1 - (z + 1)) := by rw [em]; rfl
      have hle : leaF f z (hi + 1 - z) = if f z = 0 then leaF f (z + 1) (hi + 1 - (z + 1)) else nI z := by rw [em]; rfl
      have hnext := ih z _ mi1 rd1 nm1 dr1 sz1 a1 w1 wi1 s1 b1 (by omega) (by omega) (by omega) (show AgF pl now (upd now pl (nI z)) from fun i hi => upd_n hi)
      rw [hcn, hle] at hnext
      rw [nI_pred, if_neg hlt, AgF_upd _ hA, g, bd12_s, nI_m]
      rcases hz with hz | hz
      · rw [if_pos hz, if_pos hz, Nat.zero_add] at hnext
        rw [if_pos hz, if_pos hz, show nI (cntF f (z + 1) (hi + 1 - (z + 1))) + 0 = nI (cntF f (z + 1) (hi + 1 - (z + 1))) from Int32.add_zero _]
        exact hnext
      · have hz0 : ¬ f z = 0 := by rw [hz]; decide
        rw [if_neg hz0, if_neg hz0, Nat.add_comm] at hnext
        rw [if_neg hz0, if_neg hz0, nI_1]
        exact hnext
theorem HR_len {P Lf S k x : Nat} {kind v rows len : AI} {q : Q5} {now : AI} (H : HR P Lf S kind v rows len q now) (hk : k < Lf) (h1 : 1 ≤ x) (h2 : x ≤ 40) : HR P Lf S kind v rows (upd len k (nI x)) q (upd now (42 + 3 * k) (nI x)) := by
  obtain ⟨hk2, hl, hq, h1', h2', h3, h4, h5, h6⟩ := H
  have hP := hk2.1
  have hL := hl.1
  refine ⟨hk2, ⟨hL, fun l hl2 => ?_⟩, hq, by rw [upd_n (by omega)]; exact h1', by rw [upd_n (by omega)]; exact h2', by rw [upd_n (by omega)]; exact h3, by rw [upd_n (by omega)]; exact h4, fun i hi => ?_, fun l hl2 => ?_⟩
  · by_cases e : l = k
    · subst e; rw [upd_s]; exact ⟨x, h1, h2, rfl⟩
    · rw [upd_n e]; exact hl.2 l hl2
  · obtain ⟨y1, y2, y3, y4⟩ := h5 i hi
    exact ⟨by rw [upd_n (by omega)]; exact y1, by rw [upd_n (by omega)]; exact y2, by rw [upd_n (by omega)]; exact y3, fun z hz => by rw [upd_n (by omega)]; exact y4 z hz⟩
  · obtain ⟨y1, y2, y3⟩ := h6 l hl2
    refine ⟨?_, by rw [upd_n (by omega)]; exact y2, by rw [upd_n (by omega)]; exact y3⟩
    by_cases e : l = k
    · subst e; rw [upd_s, upd_s]
    · rw [upd_n e, upd_n (by omega)]; exact y1
theorem HR_num {P Lf S k x : Nat} {kind v rows len : AI} {q : Q5} {now : AI} (H : HR P Lf S kind v rows len q now) (hk : k < P) (h2 : x < 10) : HR P Lf S kind (upd v k (nI x)) rows len q (upd now (7 * k + 1) (nI x)) := by
  obtain ⟨hk2, hl, hq, h1', h2', h3, h4, h5, h6⟩ := H
  have hP := hk2.1
  have hL := hl.1
  refine ⟨⟨hP, fun i hi => ?_, hk2.2.2⟩, hl, hq, by rw [upd_n (by omega)]; exact h1', by rw [upd_n (by omega)]; exact h2', by rw [upd_n (by omega)]; exact h3, by rw [upd_n (by omega)]; exact h4, fun i hi => ?_, fun l hl2 => ?_⟩
  · refine ⟨(hk2.2.1 i hi).1, ?_⟩
    by_cases e : i = k
    · subst e; rw [upd_s]; exact ⟨x, h2, rfl⟩
    · rw [upd_n e]; exact (hk2.2.1 i hi).2
  · obtain ⟨y1, y2, y3, y4⟩ := h5 i hi
    refine ⟨by rw [upd_n (by omega)]; exact y1, ?_, by rw [upd_n (by omega)]; exact y3, fun z hz => by rw [upd_n (by omega)]; exact y4 z hz⟩
    by_cases e : i = k
    · subst e; rw [upd_s, upd_s]
    · rw [upd_n e, upd_n (by omega)]; exact y2
  · obtain ⟨y1, y2, y3⟩ := h6 l hl2
    exact ⟨by rw [upd_n (by omega)]; exact y1, by rw [upd_n (by omega)]; exact y2, by rw [upd_n (by omega)]; exact y3⟩
theorem SN_upd {Lf ac i : Nat} {sl ss st now : AI} {x : Int32} (hi : i < 58) (h : SN Lf ac sl ss st now) (hac : ac ≤ 5) : SN Lf ac sl ss st (upd now i x) := SN_same hac (fun j hj => upd_n (by omega)) h
theorem len_key {P Lf S : Nat} {kind v rows len : AI} {q : Q5} {now rules sizes lt bg wd : AI} {SUM : AI → Int32} {BR : Int32} {lib : Option Nat} {bs bl bn : AI} {bz bb : Int32} {ac : Nat} {sl ss st : AI} {k x : Nat} (hk : k < Lf) (h1 : 1 ≤ x) (h2 : x ≤ 40) (H : HR P Lf S kind v rows len q now) (hS : S + 20 < 2 ^ 20) (hac : ac ≤ 5) (N : SN Lf ac sl ss st now) (hC : SumC SUM BR FU lib bs bl bn bz bb) (hM : SumM SUM BR FU (now 58) rules sizes lt bg wd) (hc : ∀ tr tr' : AI, (∀ i, i < 6 → tr i = tr' i) → SUM tr = SUM tr') : ∃ B, (B = 0 ∨ B = 1) ∧ (∀ (tdr ttr tk tv tp tr tl tf ts : AI), ∃ p' f' s' d' st' dr' tr', fX1_isTrialAsSeen FU (nI P) (va_cpy kind tk 0 0 6) (va_cpy v tv 0 0 6) (va_cpy q.1 tp 0 0 6) (va_cpy rows tr 0 0 24) (nI Lf) (upd (va_cpy len tl 0 0 4) k (nI x)) (va_cpy q.2.1 tf 0 0 4) (va_cpy q.2.2.1 ts 0 0 4) q.2.2.2.1 q.2.2.2.2 lib tdr ttr (nI ac) sl ss st bs bl bn bz bb = some (B, p', f', s', d', st', dr', tr')) ∧ ∀ (mi : AI) (rd nm dr : AI) (sz a w wi s b : Int32), ∃ mi' J, fX8_isAllSeen FU (upd now (42 + 3 * k) (nI x)) mi rules sizes rd sz a w wi s b nm lt bg wd dr = some (B, upd now (42 + 3 * k) (nI x), mi', (J : J9)) := by
  have hP := H.1.1
  have hL := H.2.1.1
  have hM1 : SumM SUM BR FU (upd now (42 + 3 * k) (nI x) 58) rules sizes lt bg wd := by rw [upd_n (by omega)]; exact hM
  have key := fun (tdr ttr tk tv tp tr tl tf ts mi : AI) (rd nm dr : AI) (sz a w wi s b : Int32) => asSeen (HR_len (HR_cpy (kind' := tk) (v' := tv) (rows' := tr) (len' := tl) (p := tp) (f := tf) (s := ts) H) hk h1 h2) hS hac (SN_upd (i := 42 + 3 * k) (x := nI x) (by omega) N hac) hC hM1 hc tdr ttr mi rd nm dr sz a w wi s b
  obtain ⟨B, hB, ⟨_, _, _, _, _, _, _, c0⟩, mi0, J0, g0⟩ := key kind kind kind kind kind kind kind kind kind kind kind kind kind 0 0 0 0 0 0
  refine ⟨B, hB, fun tdr ttr tk tv tp tr tl tf ts => ?_, fun mi rd nm dr sz a w wi s b => ?_⟩
  · obtain ⟨ok, -, ⟨p', f', s', d', st', dr', tr', c1⟩, mi1, J1, g1⟩ := key tdr ttr tk tv tp tr tl tf ts kind kind kind kind 0 0 0 0 0 0
    have e : B = ok := (Prod.mk.inj (Option.some.inj (g0.symm.trans g1))).1
    subst e
    exact ⟨_, _, _, _, _, _, _, c1⟩
  · obtain ⟨ok, -, ⟨_, _, _, _, _, _, _, c1⟩, mi1, J1, g1⟩ := key kind kind kind kind kind kind kind kind kind mi rd nm dr sz a w wi s b
    have e : B = ok := (Prod.mk.inj (Option.some.inj (c0.symm.trans c1))).1
    subst e
    exact ⟨_, _, g1⟩
theorem len_loop {P Lf : Nat} {kind v rows len : AI} {q : Q5} {lib : Option Nat} {bs bl bn : AI} {bz bb : Int32} {ac : Nat} {sl ss st : AI} {k : Nat} (hk : k < Lf) (hP : P ≤ 6) (hL : Lf ≤ 4) (f : Nat → Int32) (hf : ∀ x, 1 ≤ x → x ≤ 40 → ∀ (tdr ttr tk tv tp tr tl tf ts : AI), ∃ p' f' s' d' st' dr' tr', fX1_isTrialAsSeen FU (nI P) (va_cpy kind tk 0 0 6) (va_cpy v tv 0 0 6) (va_cpy q.1 tp 0 0 6) (va_cpy rows tr 0 0 24) (nI Lf) (upd (va_cpy len tl 0 0 4) k (nI x)) (va_cpy q.2.1 tf 0 0 4) (va_cpy q.2.2.1 ts 0 0 4) q.2.2.2.1 q.2.2.2.2 lib tdr ttr (nI ac) sl ss st bs bl bn bz bb = some (f x, p', f', s', d', st', dr', tr')) : ∀ (n x c : Nat) (tP tL td tst : Int32) (tk tv tp tr tl tf ts tdr ttr : AI) (tli : Option Nat), 1 ≤ x → x ≤ 41 → 41 - x < n →
    (∃ T : T14, LX1_lengthsOf_6 FU (nI P) kind v q.1 rows (nI Lf) len q.2.1 q.2.2.1 q.2.2.2.1 q.2.2.2.2 lib (nI ac) sl ss st bs bl bn bz bb (nI k) 0 n (nI c) (nI x) tP tk tv tp tr tL tl tf ts td tst tli tdr ttr = some (nI (c + cntF f x (41 - x)), T)) ∧ ∃ T : T14, LX1_lengthsOf_6 FU (nI P) kind v q.1 rows (nI Lf) len q.2.1 q.2.2.1 q.2.2.2.1 q.2.2.2.2 lib (nI ac) sl ss st bs bl bn bz bb (nI k) 1 n (nI c) (nI x) tP tk tv tp tr tL tl tf ts td tst tli tdr ttr = some (leaF f x (41 - x), T) := by
  intro n
  induction n with
  | zero => intro x c tP tL td tst tk tv tp tr tl tf ts tdr ttr tli _ _ h; omega
  | succ n ih =>
    intro x c tP tL td tst tk tv tp tr tl tf ts tdr ttr tli hx hx2 hn
    rw [LX1_lengthsOf_6, LX1_lengthsOf_6]
    by_cases e : x = 41
    · subst e
      have hg : (40 : Int32) < nI 41 := by decide
      rw [if_pos hg, if_pos hg, i0, i1]
      exact ⟨⟨_, rfl⟩, _, rfl⟩
    · have hg : ¬ (40 : Int32) < nI x := by rw [show (40 : Int32) = nI 40 from rfl, nI_ltI (by omega) (by omega)]; omega
      have hb : inb (nI k) 4 := inb_n (by omega) (by decide)
      obtain ⟨p', f', s', d', st', dr', tr', g⟩ := hf x (by omega) (by omega) tdr ttr tk tv tp tr tl tf ts
      have em : 41 - x = (41 - (x + 1)) + 1 := by omega
      have hcn : cntF f x (41 - x) = (if f x = 0 then 0 else 1) + cntF f (x + 1) (41 - (x + 1)) := by rw [em]; rfl
      have hle : leaF f x (41 - x) = if f x = 0 then leaF f (x + 1) (41 - (x + 1)) else nI x := by rw [em]; rfl
      have hnext := fun c2 => ih (x + 1) c2 (nI P) (nI Lf) d' st' (va_cpy kind tk 0 0 6) (va_cpy v tv 0 0 6) p' (va_cpy rows tr 0 0 24) (upd (va_cpy len tl 0 0 4) k (nI x)) f' s' dr' tr' lib (by omega) (by omega) (by omega)
      rw [if_neg hg, if_neg hg, gd_t hb, gd_t hb, nI_clamp (by omega), g, bd8_s, bd8_s, nI_1, hcn, hle]
      by_cases hz : f x = 0
      · rw [if_pos hz, if_pos hz, if_pos hz, if_pos hz, Nat.zero_add]
        exact hnext c
      · rw [if_neg hz, if_neg hz, if_neg hz, if_neg hz, i0, i1, nI_1, ← Nat.add_assoc]
        exact ⟨(hnext (c + 1)).1, _, rfl⟩
theorem len_2 {P Lf S : Nat} {kind v rows len : AI} {q : Q5} {now rules sizes lt bg wd : AI} {SUM : AI → Int32} {BR : Int32} {lib : Option Nat} {bs bl bn : AI} {bz bb : Int32} {ac : Nat} {sl ss st : AI} {tP tL td tst : Int32} {tk tv tp tr tl tf ts tdr ttr : AI} {tli : Option Nat} {rd nm dr mi : AI} {sz a w wi s b : Int32} {k : Nat} (hk : k < Lf) (H : HR P Lf S kind v rows len q now) (hS : S + 20 < 2 ^ 20) (hac : ac ≤ 5) (N : SN Lf ac sl ss st now) (hC : SumC SUM BR FU lib bs bl bn bz bb) (hM : SumM SUM BR FU (now 58) rules sizes lt bg wd) (hc : ∀ tr tr' : AI, (∀ i, i < 6 → tr i = tr' i) → SUM tr = SUM tr') :
    (∃ r, (∃ T : T14, fX1_lengthsOf FU tP tk tv tp tr tL tl tf ts td tst tli tdr ttr (nI P) kind v q.1 rows (nI Lf) len q.2.1 q.2.2.1 q.2.2.2.1 q.2.2.2.2 lib (nI ac) sl ss st bs bl bn bz bb (nI k) 0 = some (r, T)) ∧ ∃ mi' J, fX8_fits FU now mi rules sizes rd sz a w wi s b nm lt bg wd dr (nI (42 + 3 * k)) 1 40 1 = some (r, now, mi', (J : J9))) ∧
    ∃ r, (∃ T : T14, fX1_lengthsOf FU tP tk tv tp tr tL tl tf ts td tst tli tdr ttr (nI P) kind v q.1 rows (nI Lf) len q.2.1 q.2.2.1 q.2.2.2.1 q.2.2.2.2 lib (nI ac) sl ss st bs bl bn bz bb (nI k) 1 = some (r, T)) ∧ ∃ mi' J, fX8_fits FU now mi rules sizes rd sz a w wi s b nm lt bg wd dr (nI (42 + 3 * k)) 1 40 0 = some (r, now, mi', (J : J9)) := by
  have hP := H.1.1
  have hL := H.2.1.1
  have key : ∀ x, ∃ B, (1 ≤ x → x ≤ 40 → (B = 0 ∨ B = 1) ∧ (∀ (tdr ttr tk tv tp tr tl tf ts : AI), ∃ p' f' s' d' st' dr' tr', fX1_isTrialAsSeen FU (nI P) (va_cpy kind tk 0 0 6) (va_cpy v tv 0 0 6) (va_cpy q.1 tp 0 0 6) (va_cpy rows tr 0 0 24) (nI Lf) (upd (va_cpy len tl 0 0 4) k (nI x)) (va_cpy q.2.1 tf 0 0 4) (va_cpy q.2.2.1 ts 0 0 4) q.2.2.2.1 q.2.2.2.2 lib tdr ttr (nI ac) sl ss st bs bl bn bz bb = some (B, p', f', s', d', st', dr', tr')) ∧ ∀ (mi : AI) (rd nm dr : AI) (sz a w wi s b : Int32), ∃ mi' J, fX8_isAllSeen FU (upd now (42 + 3 * k) (nI x)) mi rules sizes rd sz a w wi s b nm lt bg wd dr = some (B, upd now (42 + 3 * k) (nI x), mi', (J : J9))) := fun x => by
    by_cases e : 1 ≤ x ∧ x ≤ 40
    · obtain ⟨B, hB⟩ := len_key hk e.1 e.2 H hS hac N hC hM hc
      exact ⟨B, fun _ _ => hB⟩
    · exact ⟨0, fun h1 h2 => absurd ⟨h1, h2⟩ e⟩
  obtain ⟨f, hf⟩ := Classical.skolem.mp key
  have hm := fun x4 => fits_m (pl := 42 + 3 * k) (lo := 1) (hi := 40) (x4 := x4) (now := now) (rules := rules) (sizes := sizes) (lt := lt) (bg := bg) (wd := wd) f (by omega) (by omega) (by omega) (fun x h1 h2 => ⟨(hf x h1 h2).1, (hf x h1 h2).2.2⟩) FU 41 now mi rd nm dr sz a w wi s b (by omega) (by omega) (by unfold FU; omega) (fun _ _ => rfl)
  obtain ⟨⟨T0, l0⟩, T1, l1⟩ := len_loop (lib := lib) (bs := bs) (bl := bl) (bn := bn) (bz := bz) (bb := bb) (q := q) (kind := kind) (v := v) (rows := rows) (len := len) hk hP hL f (fun x h1 h2 => (hf x h1 h2).2.1) FU 1 0 tP tL td tst tk tv tp tr tl tf ts tdr ttr tli (by omega) (by omega) (by unfold FU; omega)
  rw [Nat.zero_add] at l0
  have hfit : ∀ x4, ∃ mi' J, fX8_fits FU now mi rules sizes rd sz a w wi s b nm lt bg wd dr (nI (42 + 3 * k)) 1 40 x4 = some (if x4 = 0 then leaF f 1 40 else nI (cntF f 1 40), now, mi', (J : J9)) := fun x4 => by
    obtain ⟨mi', J, g⟩ := hm x4
    refine ⟨mi', J, ?_⟩
    unfold fX8_fits
    rw [gd_t (inb_n (by omega) (by decide))]
    exact g
  obtain ⟨mi0, J0, g0⟩ := hfit 0
  obtain ⟨mi1, J1, g1⟩ := hfit 1
  rw [if_pos rfl] at g0
  rw [if_neg (by decide)] at g1
  exact ⟨⟨_, ⟨T0, l0⟩, mi1, J1, g1⟩, _, ⟨T1, l1⟩, mi0, J0, g0⟩
theorem num_key {P Lf S : Nat} {kind v rows len : AI} {q : Q5} {now rules sizes lt bg wd : AI} {SUM : AI → Int32} {BR : Int32} {lib : Option Nat} {bs bl bn : AI} {bz bb : Int32} {ac : Nat} {sl ss st : AI} {k x : Nat} (hk : k < P) (h1 : 0 ≤ x) (h2 : x ≤ 9) (H : HR P Lf S kind v rows len q now) (hS : S + 20 < 2 ^ 20) (hac : ac ≤ 5) (N : SN Lf ac sl ss st now) (hC : SumC SUM BR FU lib bs bl bn bz bb) (hM : SumM SUM BR FU (now 58) rules sizes lt bg wd) (hc : ∀ tr tr' : AI, (∀ i, i < 6 → tr i = tr' i) → SUM tr = SUM tr') : ∃ B, (B = 0 ∨ B = 1) ∧ (∀ (tdr ttr tk tv tp tr tl tf ts : AI), ∃ p' f' s' d' st' dr' tr', fX1_isTrialAsSeen FU (nI P) (va_cpy kind tk 0 0 6) (upd (va_cpy v tv 0 0 6) k (nI x)) (va_cpy q.1 tp 0 0 6) (va_cpy rows tr 0 0 24) (nI Lf) (va_cpy len tl 0 0 4) (va_cpy q.2.1 tf 0 0 4) (va_cpy q.2.2.1 ts 0 0 4) q.2.2.2.1 q.2.2.2.2 lib tdr ttr (nI ac) sl ss st bs bl bn bz bb = some (B, p', f', s', d', st', dr', tr')) ∧ ∀ (mi : AI) (rd nm dr : AI) (sz a w wi s b : Int32), ∃ mi' J, fX8_isAllSeen FU (upd now (7 * k + 1) (nI x)) mi rules sizes rd sz a w wi s b nm lt bg wd dr = some (B, upd now (7 * k + 1) (nI x), mi', (J : J9)) := by
  have hP := H.1.1
  have hL := H.2.1.1
  have hM1 : SumM SUM BR FU (upd now (7 * k + 1) (nI x) 58) rules sizes lt bg wd := by rw [upd_n (by omega)]; exact hM
  have key := fun (tdr ttr tk tv tp tr tl tf ts mi : AI) (rd nm dr : AI) (sz a w wi s b : Int32) => asSeen (HR_num (HR_cpy (kind' := tk) (v' := tv) (rows' := tr) (len' := tl) (p := tp) (f := tf) (s := ts) H) hk (by omega)) hS hac (SN_upd (i := 7 * k + 1) (x := nI x) (by omega) N hac) hC hM1 hc tdr ttr mi rd nm dr sz a w wi s b
  obtain ⟨B, hB, ⟨_, _, _, _, _, _, _, c0⟩, mi0, J0, g0⟩ := key kind kind kind kind kind kind kind kind kind kind kind kind kind 0 0 0 0 0 0
  refine ⟨B, hB, fun tdr ttr tk tv tp tr tl tf ts => ?_, fun mi rd nm dr sz a w wi s b => ?_⟩
  · obtain ⟨ok, -, ⟨p', f', s', d', st', dr', tr', c1⟩, mi1, J1, g1⟩ := key tdr ttr tk tv tp tr tl tf ts kind kind kind kind 0 0 0 0 0 0
    have e : B = ok := (Prod.mk.inj (Option.some.inj (g0.symm.trans g1))).1
    subst e
    exact ⟨_, _, _, _, _, _, _, c1⟩
  · obtain ⟨ok, -, ⟨_, _, _, _, _, _, _, c1⟩, mi1, J1, g1⟩ := key kind kind kind kind kind kind kind kind kind mi rd nm dr sz a w wi s b
    have e : B = ok := (Prod.mk.inj (Option.some.inj (c0.symm.trans c1))).1
    subst e
    exact ⟨_, _, g1⟩
theorem num_loop {P Lf : Nat} {kind v rows len : AI} {q : Q5} {lib : Option Nat} {bs bl bn : AI} {bz bb : Int32} {ac : Nat} {sl ss st : AI} {k : Nat} (hk : k < P) (hP : P ≤ 6) (hL : Lf ≤ 4) (f : Nat → Int32) (hf : ∀ x, 0 ≤ x → x ≤ 9 → ∀ (tdr ttr tk tv tp tr tl tf ts : AI), ∃ p' f' s' d' st' dr' tr', fX1_isTrialAsSeen FU (nI P) (va_cpy kind tk 0 0 6) (upd (va_cpy v tv 0 0 6) k (nI x)) (va_cpy q.1 tp 0 0 6) (va_cpy rows tr 0 0 24) (nI Lf) (va_cpy len tl 0 0 4) (va_cpy q.2.1 tf 0 0 4) (va_cpy q.2.2.1 ts 0 0 4) q.2.2.2.1 q.2.2.2.2 lib tdr ttr (nI ac) sl ss st bs bl bn bz bb = some (f x, p', f', s', d', st', dr', tr')) : ∀ (n x c : Nat) (tP tL td tst : Int32) (tk tv tp tr tl tf ts tdr ttr : AI) (tli : Option Nat), 0 ≤ x → x ≤ 10 → 10 - x < n →
    (∃ T : T14, LX1_numbersOf_6 FU (nI P) kind v q.1 rows (nI Lf) len q.2.1 q.2.2.1 q.2.2.2.1 q.2.2.2.2 lib (nI ac) sl ss st bs bl bn bz bb (nI k) 0 n (nI c) (nI x) tP tk tv tp tr tL tl tf ts td tst tli tdr ttr = some (nI (c + cntF f x (10 - x)), T)) ∧ ∃ T : T14, LX1_numbersOf_6 FU (nI P) kind v q.1 rows (nI Lf) len q.2.1 q.2.2.1 q.2.2.2.1 q.2.2.2.2 lib (nI ac) sl ss st bs bl bn bz bb (nI k) 1 n (nI c) (nI x) tP tk tv tp tr tL tl tf ts td tst tli tdr ttr = some (leaF f x (10 - x), T) := by
  intro n
  induction n with
  | zero => intro x c tP tL td tst tk tv tp tr tl tf ts tdr ttr tli _ _ h; omega
  | succ n ih =>
    intro x c tP tL td tst tk tv tp tr tl tf ts tdr ttr tli hx hx2 hn
    rw [LX1_numbersOf_6, LX1_numbersOf_6]
    by_cases e : x = 10
    · subst e
      have hg : (9 : Int32) < nI 10 := by decide
      rw [if_pos hg, if_pos hg, i0, i1]
      exact ⟨⟨_, rfl⟩, _, rfl⟩
    · have hg : ¬ (9 : Int32) < nI x := by rw [show (9 : Int32) = nI 9 from rfl, nI_ltI (by omega) (by omega)]; omega
      have hb : inb (nI k) 6 := inb_n (by omega) (by decide)
      obtain ⟨p', f', s', d', st', dr', tr', g⟩ := hf x (by omega) (by omega) tdr ttr tk tv tp tr tl tf ts
      have em : 10 - x = (10 - (x + 1)) + 1 := by omega
      have hcn : cntF f x (10 - x) = (if f x = 0 then 0 else 1) + cntF f (x + 1) (10 - (x + 1)) := by rw [em]; rfl
      have hle : leaF f x (10 - x) = if f x = 0 then leaF f (x + 1) (10 - (x + 1)) else nI x := by rw [em]; rfl
      have hnext := fun c2 => ih (x + 1) c2 (nI P) (nI Lf) d' st' (va_cpy kind tk 0 0 6) (upd (va_cpy v tv 0 0 6) k (nI x)) p' (va_cpy rows tr 0 0 24) (va_cpy len tl 0 0 4) f' s' dr' tr' lib (by omega) (by omega) (by omega)
      rw [if_neg hg, if_neg hg, gd_t hb, gd_t hb, nI_clamp (by omega), g, bd8_s, bd8_s, nI_1, hcn, hle]
      by_cases hz : f x = 0
      · rw [if_pos hz, if_pos hz, if_pos hz, if_pos hz, Nat.zero_add]
        exact hnext c
      · rw [if_neg hz, if_neg hz, if_neg hz, if_neg hz, i0, i1, nI_1, ← Nat.add_assoc]
        exact ⟨(hnext (c + 1)).1, _, rfl⟩
theorem num_2 {P Lf S : Nat} {kind v rows len : AI} {q : Q5} {now rules sizes lt bg wd : AI} {SUM : AI → Int32} {BR : Int32} {lib : Option Nat} {bs bl bn : AI} {bz bb : Int32} {ac : Nat} {sl ss st : AI} {tP tL td tst : Int32} {tk tv tp tr tl tf ts tdr ttr : AI} {tli : Option Nat} {rd nm dr mi : AI} {sz a w wi s b : Int32} {k : Nat} (hk : k < P) (H : HR P Lf S kind v rows len q now) (hS : S + 20 < 2 ^ 20) (hac : ac ≤ 5) (N : SN Lf ac sl ss st now) (hC : SumC SUM BR FU lib bs bl bn bz bb) (hM : SumM SUM BR FU (now 58) rules sizes lt bg wd) (hc : ∀ tr tr' : AI, (∀ i, i < 6 → tr i = tr' i) → SUM tr = SUM tr') :
    (∃ r, (∃ T : T14, fX1_numbersOf FU tP tk tv tp tr tL tl tf ts td tst tli tdr ttr (nI P) kind v q.1 rows (nI Lf) len q.2.1 q.2.2.1 q.2.2.2.1 q.2.2.2.2 lib (nI ac) sl ss st bs bl bn bz bb (nI k) 0 = some (r, T)) ∧ ∃ mi' J, fX8_fits FU now mi rules sizes rd sz a w wi s b nm lt bg wd dr (nI (7 * k + 1)) 0 9 1 = some (r, now, mi', (J : J9))) ∧
    ∃ r, (∃ T : T14, fX1_numbersOf FU tP tk tv tp tr tL tl tf ts td tst tli tdr ttr (nI P) kind v q.1 rows (nI Lf) len q.2.1 q.2.2.1 q.2.2.2.1 q.2.2.2.2 lib (nI ac) sl ss st bs bl bn bz bb (nI k) 1 = some (r, T)) ∧ ∃ mi' J, fX8_fits FU now mi rules sizes rd sz a w wi s b nm lt bg wd dr (nI (7 * k + 1)) 0 9 0 = some (r, now, mi', (J : J9)) := by
  have hP := H.1.1
  have hL := H.2.1.1
  have key : ∀ x, ∃ B, (0 ≤ x → x ≤ 9 → (B = 0 ∨ B = 1) ∧ (∀ (tdr ttr tk tv tp tr tl tf ts : AI), ∃ p' f' s' d' st' dr' tr', fX1_isTrialAsSeen FU (nI P) (va_cpy kind tk 0 0 6) (upd (va_cpy v tv 0 0 6) k (nI x)) (va_cpy q.1 tp 0 0 6) (va_cpy rows tr 0 0 24) (nI Lf) (va_cpy len tl 0 0 4) (va_cpy q.2.1 tf 0 0 4) (va_cpy q.2.2.1 ts 0 0 4) q.2.2.2.1 q.2.2.2.2 lib tdr ttr (nI ac) sl ss st bs bl bn bz bb = some (B, p', f', s', d', st', dr', tr')) ∧ ∀ (mi : AI) (rd nm dr : AI) (sz a w wi s b : Int32), ∃ mi' J, fX8_isAllSeen FU (upd now (7 * k + 1) (nI x)) mi rules sizes rd sz a w wi s b nm lt bg wd dr = some (B, upd now (7 * k + 1) (nI x), mi', (J : J9))) := fun x => by
    by_cases e : 0 ≤ x ∧ x ≤ 9
    · obtain ⟨B, hB⟩ := num_key hk e.1 e.2 H hS hac N hC hM hc
      exact ⟨B, fun _ _ => hB⟩
    · exact ⟨0, fun h1 h2 => absurd ⟨h1, h2⟩ e⟩
  obtain ⟨f, hf⟩ := Classical.skolem.mp key
  have hm := fun x4 => fits_m (pl := 7 * k + 1) (lo := 0) (hi := 9) (x4 := x4) (now := now) (rules := rules) (sizes := sizes) (lt := lt) (bg := bg) (wd := wd) f (by omega) (by omega) (by omega) (fun x h1 h2 => ⟨(hf x h1 h2).1, (hf x h1 h2).2.2⟩) FU 10 now mi rd nm dr sz a w wi s b (by omega) (by omega) (by unfold FU; omega) (fun _ _ => rfl)
  obtain ⟨⟨T0, l0⟩, T1, l1⟩ := num_loop (lib := lib) (bs := bs) (bl := bl) (bn := bn) (bz := bz) (bb := bb) (q := q) (kind := kind) (v := v) (rows := rows) (len := len) hk hP hL f (fun x h1 h2 => (hf x h1 h2).2.1) FU 0 0 tP tL td tst tk tv tp tr tl tf ts tdr ttr tli (by omega) (by omega) (by unfold FU; omega)
  rw [Nat.zero_add] at l0
  have hfit : ∀ x4, ∃ mi' J, fX8_fits FU now mi rules sizes rd sz a w wi s b nm lt bg wd dr (nI (7 * k + 1)) 0 9 x4 = some (if x4 = 0 then leaF f 0 10 else nI (cntF f 0 10), now, mi', (J : J9)) := fun x4 => by
    obtain ⟨mi', J, g⟩ := hm x4
    refine ⟨mi', J, ?_⟩
    unfold fX8_fits
    rw [gd_t (inb_n (by omega) (by decide))]
    exact g
  obtain ⟨mi0, J0, g0⟩ := hfit 0
  obtain ⟨mi1, J1, g1⟩ := hfit 1
  rw [if_pos rfl] at g0
  rw [if_neg (by decide)] at g1
  exact ⟨⟨_, ⟨T0, l0⟩, mi1, J1, g1⟩, _, ⟨T1, l1⟩, mi0, J0, g0⟩
theorem orNever_e {x : Int32} {P : Nat} (hP : P ≤ 6) (h : x = -5 ∨ ∃ k, k < P ∧ x = nI k) : fX8_orNever (enc x) = some x := by
  rcases h with rfl | ⟨k, k1, rfl⟩
  · rfl
  · unfold fX8_orNever
    rw [enc_n (by omega), if_neg (nI_m1 (by omega))]
theorem isIn_or (x : Int32) (n : Nat) (hn : n < 2 ^ 30) : (∃ k, k < n + 1 ∧ x = nI k ∧ fX8_isIn x 0 (nI n) = some 1) ∨ ((∀ k, k < n + 1 → ¬ x = nI k) ∧ fX8_isIn x 0 (nI n) = some 0) := by
  rcases within_or x n hn with ⟨k, k1, e, -, c⟩ | ⟨-, c⟩
  · exact Or.inl ⟨k, k1, e, c⟩
  · refine Or.inr ⟨fun k hk e => ?_, c⟩
    subst e
    rw [isIn_y rfl hn (show k ≤ n by omega)] at c
    exact absurd (Option.some.inj c) (by decide)
theorem can_2 {P Lf S : Nat} {kind v rows len : AI} {q : Q5} {now rules sizes lt bg wd : AI} {SUM : AI → Int32} {BR : Int32} {lib : Option Nat} {bs bl bn : AI} {bz bb : Int32} {ac : Nat} {sl ss st : AI} {tP tL td tst : Int32} {tk tv tp tr tl tf ts tdr ttr : AI} {tli : Option Nat} {rd nm dr mi : AI} {sz a w wi s b : Int32} (x1 x2 : Int32) (H : HR P Lf S kind v rows len q now) (hS : S + 20 < 2 ^ 20) (hac : ac ≤ 5) (N : SN Lf ac sl ss st now) (hC : SumC SUM BR FU lib bs bl bn bz bb) (hM : SumM SUM BR FU (now 58) rules sizes lt bg wd) (hc : ∀ tr tr' : AI, (∀ i, i < 6 → tr i = tr' i) → SUM tr = SUM tr') : ∃ r, (∃ T : T14, fX7_can FU (nI P) kind v q.1 rows (nI Lf) len q.2.1 q.2.2.1 q.2.2.2.1 q.2.2.2.2 lib tP tk tv tp tr tL tl tf ts td tst tli tdr ttr (nI ac) sl ss st bs bl bn bz bb x1 x2 = some (r, T)) ∧ ∃ mi' J, fX8_can FU now mi rules sizes rd sz a w wi s b nm lt bg wd dr x1 x2 = some (r, now, mi', (J : J9)) := by
  have hP := H.1.1
  unfold fX7_can fX8_can
  rw [show fX7_isWithin x2 1 = fX7_isWithin x2 (nI 1) from rfl, show fX8_isIn x2 0 1 = fX8_isIn x2 0 (nI 1) from rfl]
  rcases person_or x1 hP H.2.2.2.1 with ⟨k, k1, rfl, b1, c1⟩ | ⟨b1, c1⟩
  rotate_left
  · rw [b1, c1, bd1_s, bd1_s, i0, i0]; exact ⟨_, ⟨_, rfl⟩, _, _, rfl⟩
  rw [b1, c1, bd1_s, bd1_s, i1, i1]
  rcases within_or x2 1 (by omega) with ⟨m, m1, rfl, b2, c2⟩ | ⟨b2, c2⟩
  rotate_left
  · rw [b2, c2, bd1_s, bd1_s, i0, i0]; exact ⟨_, ⟨_, rfl⟩, _, _, rfl⟩
  have e7 : 7 * nI k + 1 = nI (7 * k + 1) := i7 k 1
  obtain ⟨⟨r0, ⟨⟨y0, y1, y2, y3, y4, y5, y6, y7, y8, y9, y10, y11, y12, y13⟩, f0⟩, mi0, ⟨z0, z1, z2, z3, z4, z5, z6, z7, z8⟩, g0⟩, r1, ⟨⟨v0, v1, v2, v3, v4, v5, v6, v7, v8, v9, v10, v11, v12, v13⟩, f1⟩, mi1, ⟨w0, w1, w2, w3, w4, w5, w6, w7, w8⟩, g1⟩ := num_2 (tP := tP) (tL := tL) (td := td) (tst := tst) (tk := tk) (tv := tv) (tp := tp) (tr := tr) (tl := tl) (tf := tf) (ts := ts) (tdr := tdr) (ttr := ttr) (tli := tli) (rd := rd) (nm := nm) (dr := dr) (mi := mi) (sz := sz) (a := a) (w := w) (wi := wi) (s := s) (b := b) k1 H hS hac N hC hM hc
  rw [b2, c2, bd1_s, bd1_s, i1, i1, e7]
  rcases (show m = 0 ∨ m = 1 by omega) with rfl | rfl
  · rw [if_neg (show ¬ nI 0 = 1 by decide), if_pos (show nI 0 = 0 from rfl), f0, bd15_s, g0, bd12_s]
    exact ⟨_, ⟨_, rfl⟩, _, _, rfl⟩
  · rw [if_pos (show nI 1 = 1 from rfl), if_neg (show ¬ nI 1 = 0 by decide), f1, bd15_s, g1, bd12_s]
    exact ⟨_, ⟨_, rfl⟩, _, _, rfl⟩
theorem sheet_2 {P Lf S : Nat} {kind v rows len : AI} {q : Q5} {now rules sizes lt bg wd : AI} {SUM : AI → Int32} {BR : Int32} {lib : Option Nat} {bs bl bn : AI} {bz bb : Int32} {ac : Nat} {sl ss st : AI} {tP tL td tst : Int32} {tk tv tp tr tl tf ts tdr ttr : AI} {tli : Option Nat} {rd nm dr mi : AI} {sz a w wi s b : Int32} (x1 x2 : Int32) (H : HR P Lf S kind v rows len q now) (hS : S + 61 < 2 ^ 20) (hac : ac ≤ 5) (N : SN Lf ac sl ss st now) (hC : SumC SUM BR FU lib bs bl bn bz bb) (hM : SumM SUM BR FU (now 58) rules sizes lt bg wd) (hc : ∀ tr tr' : AI, (∀ i, i < 6 → tr i = tr' i) → SUM tr = SUM tr') : ∃ r, (∃ T : T14, fX7_sheet FU (nI P) kind v q.1 rows (nI Lf) len q.2.1 q.2.2.1 q.2.2.2.1 q.2.2.2.2 lib tP tk tv tp tr tL tl tf ts td tst tli tdr ttr (nI ac) sl ss st bs bl bn bz bb x1 x2 = some (r, T)) ∧ ∃ mi' J, fX8_sheet FU now mi rules sizes rd sz a w wi s b nm lt bg wd dr x1 x2 = some (r, now, mi', (J : J9)) := by
  have hP := H.1.1
  have hL := H.2.1.1
  unfold fX7_sheet fX8_sheet
  rcases leaf_or x1 hL H.2.2.2.2.1 with ⟨k, k1, rfl, b1, c1⟩ | ⟨b1, c1⟩
  rotate_left
  · rw [b1, c1, bd1_s, bd1_s, i0, i0]; exact ⟨_, ⟨_, rfl⟩, _, _, rfl⟩
  have hb : inb (nI k) 4 := inb_n (by omega) (by decide)
  rw [b1, c1, bd1_s, bd1_s, i1, i1, show (6 : Int32) = nI 6 from rfl]
  rcases isIn_or x2 6 (by omega) with ⟨m, m1, rfl, c2⟩ | ⟨hn, c2⟩
  rotate_left
  · rw [c2, bd1_s, i0, if_neg (show ¬ x2 = 0 from hn 0 (by omega)), if_neg (show ¬ x2 = 1 from hn 1 (by omega)), if_neg (show ¬ x2 = 2 from hn 2 (by omega)), if_neg (show ¬ x2 = 3 from hn 3 (by omega)), if_neg (show ¬ x2 = 4 from hn 4 (by omega)), if_neg (show ¬ x2 = 5 from hn 5 (by omega)), if_neg (hn 6 (by omega))]
    exact ⟨_, ⟨_, rfl⟩, _, _, rfl⟩
  rw [c2, bd1_s, i1]
  obtain ⟨y1, y2, y3⟩ := H.2.2.2.2.2.2.2.2 k k1
  have ho := H.2.2.1.1 k k1
  have hof : q.2.1 k = -5 ∨ ∃ a, a < P ∧ q.2.1 k = nI a := by
    rcases ho with z | ⟨a, b, z1, z2, z3, z4⟩
    · exact Or.inl z.1
    · exact Or.inr ⟨a, z1, z3⟩
  have hos : q.2.2.1 k = -5 ∨ ∃ a, a < P ∧ q.2.2.1 k = nI a := by
    rcases ho with z | ⟨a, b, z1, z2, z3, z4⟩
    · exact Or.inl z.2
    · exact Or.inr ⟨b, z2, z4⟩
  have nn : ∀ (x y : Nat), x < 7 → y < 7 → x ≠ y → ¬ nI x = nI y := fun x y h1 h2 h3 => nI_ne (by omega) (by omega) h3
  have e42 : 42 + 3 * nI k = nI (42 + 3 * k) := i42' k
  rcases (show m = 0 ∨ m = 1 ∨ m = 2 ∨ m = 3 ∨ m = 4 ∨ m = 5 ∨ m = 6 by omega) with rfl | rfl | rfl | rfl | rfl | rfl | rfl
  · rw [if_pos (show nI 0 = 0 from rfl), if_pos (show nI 0 = 0 from rfl), gd_t hb, length_m (by omega), bd1_s, nI_clamp (by omega), y1]
    exact ⟨_, ⟨_, rfl⟩, _, _, rfl⟩
  · rw [if_neg (show ¬ nI 1 = 0 by decide), if_neg (show ¬ nI 1 = 0 by decide), if_pos (show nI 1 = 1 from rfl), if_pos (show nI 1 = 1 from rfl), gd_t hb, show fX8_holder now (nI k) (nI 1) = fX8_holder now (nI k) 1 from rfl, holder1_m (by omega), bd1_s, y2, orNever_e hP hof, bd1_s, nI_clamp (by omega)]
    exact ⟨_, ⟨_, rfl⟩, _, _, rfl⟩
  · rw [if_neg (show ¬ nI 2 = 0 by decide), if_neg (show ¬ nI 2 = 0 by decide), if_neg (show ¬ nI 2 = 1 by decide), if_neg (show ¬ nI 2 = 1 by decide), if_pos (show nI 2 = 2 from rfl), if_pos (show nI 2 = 2 from rfl), gd_t hb, show fX8_holder now (nI k) (nI 2) = fX8_holder now (nI k) 2 from rfl, holder2_m (by omega), bd1_s, y3, orNever_e hP hos, bd1_s, nI_clamp (by omega)]
    exact ⟨_, ⟨_, rfl⟩, _, _, rfl⟩
  · obtain ⟨r, ⟨⟨y0_, y1_, y2_, y3_, y4_, y5_, y6_, y7_, y8_, y9_, y10_, y11_, y12_, y13_⟩, f0⟩, mi0, ⟨z0_, z1_, z2_, z3_, z4_, z5_, z6_, z7_, z8_⟩, g0⟩ := lasts_2 (tP := tP) (tL := tL) (td := td) (tst := tst) (tk := tk) (tv := tv) (tp := tp) (tr := tr) (tl := tl) (tf := tf) (ts := ts) (tdr := tdr) (ttr := ttr) (tli := tli) (rd := rd) (nm := nm) (dr := dr) (mi := mi) (sz := sz) (a := a) (w := w) (wi := wi) (s := s) (b := b) k1 H hS hC hM hc
    rw [if_neg (show ¬ nI 3 = 0 by decide), if_neg (show ¬ nI 3 = 0 by decide), if_neg (show ¬ nI 3 = 1 by decide), if_neg (show ¬ nI 3 = 1 by decide), if_neg (show ¬ nI 3 = 2 by decide), if_neg (show ¬ nI 3 = 2 by decide), if_pos (show nI 3 = 3 from rfl), if_pos (show nI 3 = 3 from rfl), f0, bd15_s, g0, bd12_s]
    exact ⟨_, ⟨_, rfl⟩, _, _, rfl⟩
  · obtain ⟨r, ⟨⟨y0_, y1_, y2_, y3_, y4_, y5_, y6_, y7_, y8_, y9_, y10_, y11_, y12_, y13_⟩, f0⟩, mi0, ⟨z0_, z1_, z2_, z3_, z4_, z5_, z6_, z7_, z8_⟩, g0⟩ := partner_2 (tP := tP) (tL := tL) (td := td) (tst := tst) (tk := tk) (tv := tv) (tp := tp) (tr := tr) (tl := tl) (tf := tf) (ts := ts) (tdr := tdr) (ttr := ttr) (tli := tli) (rd := rd) (nm := nm) (dr := dr) (mi := mi) (sz := sz) (a := a) (w := w) (wi := wi) (s := s) (b := b) k1 H hS hC hM hc
    rw [if_neg (show ¬ nI 4 = 0 by decide), if_neg (show ¬ nI 4 = 0 by decide), if_neg (show ¬ nI 4 = 1 by decide), if_neg (show ¬ nI 4 = 1 by decide), if_neg (show ¬ nI 4 = 2 by decide), if_neg (show ¬ nI 4 = 2 by decide), if_neg (show ¬ nI 4 = 3 by decide), if_neg (show ¬ nI 4 = 3 by decide), if_pos (show nI 4 = 4 from rfl), if_pos (show nI 4 = 4 from rfl), f0, bd15_s, g0, bd12_s]
    exact ⟨_, ⟨_, rfl⟩, _, _, rfl⟩
  · obtain ⟨⟨r, ⟨⟨y0_, y1_, y2_, y3_, y4_, y5_, y6_, y7_, y8_, y9_, y10_, y11_, y12_, y13_⟩, f0⟩, mi0, ⟨z0_, z1_, z2_, z3_, z4_, z5_, z6_, z7_, z8_⟩, g0⟩, -⟩ := len_2 (tP := tP) (tL := tL) (td := td) (tst := tst) (tk := tk) (tv := tv) (tp := tp) (tr := tr) (tl := tl) (tf := tf) (ts := ts) (tdr := tdr) (ttr := ttr) (tli := tli) (rd := rd) (nm := nm) (dr := dr) (mi := mi) (sz := sz) (a := a) (w := w) (wi := wi) (s := s) (b := b) k1 H (by omega) hac N hC hM hc
    rw [if_neg (show ¬ nI 5 = 0 by decide), if_neg (show ¬ nI 5 = 0 by decide), if_neg (show ¬ nI 5 = 1 by decide), if_neg (show ¬ nI 5 = 1 by decide), if_neg (show ¬ nI 5 = 2 by decide), if_neg (show ¬ nI 5 = 2 by decide), if_neg (show ¬ nI 5 = 3 by decide), if_neg (show ¬ nI 5 = 3 by decide), if_neg (show ¬ nI 5 = 4 by decide), if_neg (show ¬ nI 5 = 4 by decide), if_pos (show nI 5 = 5 from rfl), if_pos (show nI 5 = 5 from rfl), f0, bd15_s, e42, g0, bd12_s]
    exact ⟨_, ⟨_, rfl⟩, _, _, rfl⟩
  · obtain ⟨-, r, ⟨⟨y0_, y1_, y2_, y3_, y4_, y5_, y6_, y7_, y8_, y9_, y10_, y11_, y12_, y13_⟩, f0⟩, mi0, ⟨z0_, z1_, z2_, z3_, z4_, z5_, z6_, z7_, z8_⟩, g0⟩ := len_2 (tP := tP) (tL := tL) (td := td) (tst := tst) (tk := tk) (tv := tv) (tp := tp) (tr := tr) (tl := tl) (tf := tf) (ts := ts) (tdr := tdr) (ttr := ttr) (tli := tli) (rd := rd) (nm := nm) (dr := dr) (mi := mi) (sz := sz) (a := a) (w := w) (wi := wi) (s := s) (b := b) k1 H (by omega) hac N hC hM hc
    rw [if_neg (show ¬ nI 6 = 0 by decide), if_neg (show ¬ nI 6 = 0 by decide), if_neg (show ¬ nI 6 = 1 by decide), if_neg (show ¬ nI 6 = 1 by decide), if_neg (show ¬ nI 6 = 2 by decide), if_neg (show ¬ nI 6 = 2 by decide), if_neg (show ¬ nI 6 = 3 by decide), if_neg (show ¬ nI 6 = 3 by decide), if_neg (show ¬ nI 6 = 4 by decide), if_neg (show ¬ nI 6 = 4 by decide), if_neg (show ¬ nI 6 = 5 by decide), if_neg (show ¬ nI 6 = 5 by decide), if_pos (show nI 6 = nI 6 from rfl), f0, bd15_s, e42, g0, bd12_s]
    exact ⟨_, ⟨_, rfl⟩, _, _, rfl⟩
