/-! ===== the parser: a clause as both read it, a whole text ===== -/
noncomputable def clN (c : Nat) (rd : AI) (sz wi s be : Int32) (Nm lt : AI) (mat w : Int32) : Option (Int32 × Int32 × Int32 × Int32 × Int32) :=
  bd3 (fX8_number_ rd sz mat w) (fun r mat w => if nI c = 2 then some (mat, w, wi, s, r) else bd2 (fX8_takes rd sz mat w 32) (fun mat w => bd4 (fX8_any (fX8_factor FU 6) FU rd sz mat w 0 Nm lt) (fun q mat w wi => if q = 0 then some (mat, w, wi, s + 0, be) else if nI c = 0 then some (mat, w, wi, s + r, be) else some (mat, w, wi, s + (-r), be))))
theorem clM_N {c : Nat} {rd lt Nm : AI} {sz wi s be mat w : Int32} : clM c rd sz wi s be Nm lt mat w = bd2 (fX8_takes rd sz mat w 32) (fun mat w => clN c rd sz wi s be Nm lt mat w) := rfl
theorem clN_d {c : Nat} {rd lt Nm : AI} {sz wi s be mat : Int32} : ∃ wi' s' be', clN c rd sz wi s be Nm lt mat 0 = some (mat, 0, wi', s', be') := by
  unfold clN
  rw [number_md, bd3_s]
  split
  · exact ⟨_, _, _, rfl⟩
  · rw [takes_d, bd2_s, any_d, bd4_s, if_pos rfl]
    exact ⟨_, _, _, rfl⟩
def COk (T rd lt bg wd : AI) (Lz a : Nat) : Prop :=
  (∃ (a' : Nat) (cs : List CD) (fb : Int32 → Int32), a < a' ∧ a' ≤ Lz ∧ cs.length ≤ a' - a ∧ okC cs ∧ (∀ S L N z bb lib, z ≤ a → fX4_takesClause FU T (nI Lz) (nI a) lib S L N (nI z) bb = some (1, nI a', aS S z cs, aL L z cs, aN N z cs, nI (z + cs.length), fb bb)) ∧ ∀ Nm wi s be, ∃ wi', fX8_clause FU rd (nI Lz) (nI a) 1 wi s be Nm lt bg wd = some (nI a', 1, wi', (evL Nm cs (s, 0)).1, fb be) ∧ (evL Nm cs (s, 0)).2 = 0) ∨
  ∃ a' : Nat, a' ≤ Lz ∧ (∀ S L N z bb lib, z ≤ a → ∃ S' L' N' z' bb', fX4_takesClause FU T (nI Lz) (nI a) lib S L N (nI z) bb = some (0, nI a', S', L', N', z', bb')) ∧ ∀ Nm wi s be, ∃ wi' s' be', fX8_clause FU rd (nI Lz) (nI a) 1 wi s be Nm lt bg wd = some (nI a', 0, wi', s', be')
theorem okSk {c : Nat} (hc : c < 3) : okS (tx (kw c)) (kn c + 1) := by
  rcases (show c = 0 ∨ c = 1 ∨ c = 2 by omega) with rfl | rfl | rfl
  · exact okS3
  · exact okS2
  · exact okS1
theorem kn_lt {c : Nat} : kn c + 1 < 10 := by unfold kn; split <;> omega
theorem kn_32 {c : Nat} (hc : c < 3) : tx (kw c) (kn c) = 32 := by
  rcases (show c = 0 ∨ c = 1 ∨ c = 2 by omega) with rfl | rfl | rfl <;> rfl
theorem add_m0 (s n : Int32) : s + (nI (2 * 0 + 0) &&& 1) * n = s + 0 := by
  rw [show (nI (2 * 0 + 0) &&& 1 : Int32) = 0 by decide, Int32.zero_mul]
theorem add_m1 (s n : Int32) : s + (nI (2 * 0 + 1) &&& 1) * n = s + n := by
  rw [show (nI (2 * 0 + 1) &&& 1 : Int32) = 1 by decide, Int32.one_mul]
theorem sub_m0 (s n : Int32) : s - (nI (2 * 0 + 0) &&& 1) * n = s + 0 := by
  rw [show (nI (2 * 0 + 0) &&& 1 : Int32) = 0 by decide, Int32.zero_mul, Int32.sub_zero, Int32.add_zero]
theorem sub_m1 (s n : Int32) : s - (nI (2 * 0 + 1) &&& 1) * n = s + (-n) := by
  rw [show (nI (2 * 0 + 1) &&& 1 : Int32) = 1 by decide, Int32.one_mul, Int32.sub_eq_add_neg]
theorem clause_ok {T rd lt bg wd : AI} {Lz : Nat} (hT : Txt T Lz) (hr : ∀ j, j < Lz → rd j = T j) (hb : Tb bg wd lt) (a : Nat) (ha : a ≤ Lz) : COk T rd lt bg wd Lz a := by
  have hL := hT.1
  rcases beg_or (T := T) (Lz := Lz) (a := a) with h | ⟨c, hc, h⟩
  · refine Or.inr ⟨a, ha, fun S L N z bb lib hz => ⟨S, L, N, nI z, bb, ?_⟩, fun Nm wi s be => ⟨_, _, _, clause_n hL ha hr hb h⟩⟩
    rw [clauseC hL ha (c := 0) (by omega) (Or.inl ⟨rfl, h.2.1, h.2.2⟩), word_n (j := 0) hL kn_lt (okSk (by omega)) ha (by omega) (fun k hk => by omega) h.1, bd2_s, if_pos rfl]
    rfl
  have hcc := fun S L N z bb lib => clauseC (S := S) (L := L) (N := N) (lib := lib) (z := nI z) (bb := bb) hL ha hc (Or.inr h)
  have hmm := fun Nm wi s be => clause_c (Nm := Nm) (wi := wi) (s := s) (be := be) hL ha hr hb hc h
  rcases word_or (T := T) (sb := tx (kw c)) (Lz := Lz) (a := a) (kn c + 1) with hw | ⟨j, hj, hw, hx⟩
  · have h32 := hw (kn c) (by omega)
    rw [kn_32 hc] at h32
    have hlz := h32.1
    have hc2 : ∀ S L N z bb lib, fX4_takesClause FU T (nI Lz) (nI a) lib S L N (nI z) bb = clC c T (nI Lz) lib S L N (nI z) bb (nI (a + (kn c + 1))) := by
      intro S L N z bb lib
      rw [hcc, word_y hL kn_lt (okSk hc) ha hw, bd2_s, if_neg (by decide)]
    have hm2 : ∀ Nm wi s be, fX8_clause FU rd (nI Lz) (nI a) 1 wi s be Nm lt bg wd = clN c rd (nI Lz) wi s be Nm lt (nI (a + (kn c + 1))) 1 := by
      intro Nm wi s be
      rw [hmm]
      have e1 := clLoop_w (Nm := Nm) (wi := wi) (s := s) (be := be) hL hr hb hc (Nat.le_refl _) (fun k hk => hw k (by omega)) (FU - kn c) 0 (by omega) (by omega)
      have e2 : FU - kn c + (kn c - 0) = FU := by have := kn_lt (c := c); unfold FU; omega
      rw [e2] at e1
      refine e1.trans ?_
      have e3 : FU - kn c = (FU - kn c - 1) + 1 := by have := kn_lt (c := c); unfold FU; omega
      rw [e3, clLoop_e hb hc rfl, clM_N, takes_y hL (by omega) hr h32, bd2_s]
      rfl
    have hb2 : ∃ b, b = a + (kn c + 1) := ⟨_, rfl⟩
    obtain ⟨b, hb2⟩ := hb2
    rw [← hb2] at hc2 hm2
    have hbL : b ≤ Lz := by omega
    have hba : a < b := by omega
    rcases num_or (a := b) hT with hn | ⟨v, b', hn⟩
    · refine Or.inr ⟨b, hbL, fun S L N z bb lib hz => ⟨S, L, N, nI z, bb, ?_⟩, fun Nm wi s be => ?_⟩
      · rw [hc2]
        unfold clC
        rw [number_cn hT hbL hn, bd2_s, if_neg (by decide)]
      · rw [hm2]
        unfold clN
        rw [number_mn hT hbL hr hn, bd3_s]
        split
        · exact ⟨_, _, _, rfl⟩
        · rw [takes_d, bd2_s, any_d, bd4_s, if_pos rfl]
          exact ⟨_, _, _, rfl⟩
    have hnb := numS_b hn
    have hc3 : ∀ S L N z bb lib, clC c T (nI Lz) lib S L N (nI z) bb (nI b) = if c = 2 then some (1, nI b', S, L, N, nI z, nI v) else bd2 (fX4_takesWord FU T (nI Lz) (nI b') 1 (tx 4)) (fun r dat => if r = 0 then some (0, dat, S, L, N, nI z, bb) else bd6 (fX4_takesAnyOf (fX4_takesPart FU 6) FU T (nI Lz) dat lib S L N (nI z) 0) (fun r dat S L N z => if r = 0 then some (0, dat, S, L, N, z, bb) else bd4 (fX3_put S L N z (if c = 0 then 6 else 7) 0 (nI v)) (fun S L N z => some (1, dat, S, L, N, z, bb)))) := by
      intro S L N z bb lib
      unfold clC
      rw [number_cy hT hn, bd2_s, if_pos (nI_0le (by omega))]
    have hm3 : ∀ Nm wi s be, clN c rd (nI Lz) wi s be Nm lt (nI b) 1 = if nI c = 2 then some (nI b', 1, wi, s, nI v) else bd2 (fX8_takes rd (nI Lz) (nI b') 1 32) (fun mat w => bd4 (fX8_any (fX8_factor FU 6) FU rd (nI Lz) mat w 0 Nm lt) (fun q mat w wi => if q = 0 then some (mat, w, wi, s + 0, be) else if nI c = 0 then some (mat, w, wi, s + nI v, be) else some (mat, w, wi, s + (-nI v), be))) := by
      intro Nm wi s be
      unfold clN
      rw [number_my hT hr hn, bd3_s]
    by_cases hc22 : c = 2
    · refine Or.inl ⟨b', [], fun _ => nI v, by omega, by omega, Nat.zero_le _, (fun c hc => absurd hc (List.not_mem_nil)), fun S L N z bb lib hz => ?_, fun Nm wi s be => ⟨wi, ?_, rfl⟩⟩
      · rw [hc2, hc3, if_pos hc22]; rfl
      · rw [hm2, hm3, if_pos (by rw [hc22]; rfl)]; rfl
    have hcn : ¬ nI c = 2 := fun z => hc22 (nI_inj (b := 2) (by omega) (by omega) z)
    by_cases hbl : isA T Lz b' 32
    · have hbl1 := hbl.1
      have hc4 : ∀ S L N z bb lib, clC c T (nI Lz) lib S L N (nI z) bb (nI b) = bd6 (fX4_takesAnyOf (fX4_takesPart FU 6) FU T (nI Lz) (nI (b' + 1)) lib S L N (nI z) (nI 0)) (fun r dat S L N z => if r = 0 then some (0, dat, S, L, N, z, bb) else bd4 (fX3_put S L N z (if c = 0 then 6 else 7) 0 (nI v)) (fun S L N z => some (1, dat, S, L, N, z, bb))) := by
        intro S L N z bb lib
        rw [hc3, if_neg hc22, word1_y hL okS4 (show tx 4 0 = 32 from rfl) (by omega) hbl, bd2_s, if_neg (by decide)]
        rfl
      have hm4 : ∀ Nm wi s be, clN c rd (nI Lz) wi s be Nm lt (nI b) 1 = bd4 (fX8_any (fX8_factor FU 6) FU rd (nI Lz) (nI (b' + 1)) 1 (nI 0) Nm lt) (fun q mat w wi => if q = 0 then some (mat, w, wi, s + 0, be) else if nI c = 0 then some (mat, w, wi, s + nI v, be) else some (mat, w, wi, s + (-nI v), be)) := by
        intro Nm wi s be
        rw [hm3, if_neg hcn, takes_y hL (by omega) hr hbl, bd2_s]
        rfl
      rcases any_top hT hr hb.lt (b' + 1) (by omega) with ⟨a1, c1, f1, f2, f3, f4, f5, f6⟩ | ⟨a1, f1, f2, f3⟩
      · dsimp only at f5 f6
        refine Or.inl ⟨a1, c1 ++ [((if c = 0 then 6 else 7 : Int32), 0, nI v)], id, by omega, f2, by rw [List.length_append]; show c1.length + 1 ≤ _; omega, okC_app f4 okC_0, fun S L N z bb lib hz => ?_, fun Nm wi s be => ?_⟩
        · rw [hc2, hc4, f5 S L N z lib (by omega), bd6_s, if_neg (by decide), put_c (by omega), bd4_s, aS_upd (y := 0) (w := nI v), aL_upd (x := if c = 0 then 6 else 7) (w := nI v), aN_upd (x := if c = 0 then 6 else 7) (y := 0), len_app1 (c := (if c = 0 then 6 else 7, 0, nI v))]
          rfl
        · obtain ⟨b1, p1, p2, p3⟩ := f6 Nm
          have p4 := p3 s 0 (by omega)
          have p5 : evL Nm c1 (s, 0) = (s, nI (2 * 0 + b1)) := p4
          refine ⟨nI 0, ?_, ?_⟩
          · rw [hm2, hm4, p2, bd4_s, evL_app, p5]
            rcases (show c = 0 ∨ c = 1 by omega) with rfl | rfl
            · show _ = some (nI a1, 1, nI 0, s + (nI (2 * 0 + b1) &&& 1) * nI v, be)
              rcases (show b1 = 0 ∨ b1 = 1 by omega) with rfl | rfl
              · rw [add_m0]; rfl
              · rw [add_m1]; rfl
            · show _ = some (nI a1, 1, nI 0, s - (nI (2 * 0 + b1) &&& 1) * nI v, be)
              rcases (show b1 = 0 ∨ b1 = 1 by omega) with rfl | rfl
              · rw [sub_m0]; rfl
              · rw [sub_m1]; rfl
          · rw [evL_app, p5]
            rcases (show c = 0 ∨ c = 1 by omega) with rfl | rfl <;> rfl
      · dsimp only at f2 f3
        refine Or.inr ⟨a1, f1, fun S L N z bb lib hz => ?_, fun Nm wi s be => ?_⟩
        · obtain ⟨S', L', N', z', e5⟩ := f2 S L N z lib (by omega)
          exact ⟨S', L', N', z', bb, by rw [hc2, hc4, e5, bd6_s, if_pos rfl]⟩
        · obtain ⟨r, p1, p2⟩ := f3 Nm
          rw [hm2, hm4, p2, bd4_s]
          repeat' split
          all_goals exact ⟨_, _, _, rfl⟩
    · refine Or.inr ⟨b', by omega, fun S L N z bb lib hz => ⟨S, L, N, nI z, bb, ?_⟩, fun Nm wi s be => ?_⟩
      · rw [hc2, hc3, if_neg hc22, word1_n hL okS4 (show tx 4 0 = 32 from rfl) (by omega) hbl, bd2_s, if_pos rfl]
      · rw [hm2, hm3, if_neg hcn, takes_n hL (by omega) hr hbl, bd2_s, any_d, bd4_s, if_pos rfl]
        exact ⟨_, _, _, rfl⟩
  · have hjl : a + j ≤ Lz := by
      by_cases e : j = 0
      · omega
      · have := (hw (j - 1) (by omega)).1; omega
    refine Or.inr ⟨a + j, hjl, fun S L N z bb lib hz => ⟨S, L, N, nI z, bb, ?_⟩, fun Nm wi s be => ?_⟩
    · rw [hcc, word_n hL kn_lt (okSk hc) ha hj hw hx, bd2_s, if_pos rfl]
    · rw [hmm]
      have e1 := clLoop_w (Nm := Nm) (wi := wi) (s := s) (be := be) hL hr hb hc (show j ≤ kn c by omega) hw (FU - j) 0 (by omega) (by omega)
      have e2 : FU - j + (j - 0) = FU := by have := kn_lt (c := c); unfold FU; omega
      rw [e2] at e1
      have e3 : FU - j = (FU - j - 1) + 1 := by have := kn_lt (c := c); unfold FU; omega
      by_cases ej : j = kn c
      · have h32 : ¬ isA T Lz (a + j) 32 := by rw [ej, kn_32 hc] at hx; rw [ej]; exact hx
        rw [show (LX8_clause_47 FU rd (nI Lz) wi s be Nm lt wd (nI c) FU 0 (nI a) 1) = _ from e1, e3, clLoop_e hb hc ej, clM_N, takes_n hL hjl hr h32, bd2_s]
        exact clN_d
      · rw [show (LX8_clause_47 FU rd (nI Lz) wi s be Nm lt wd (nI c) FU 0 (nI a) 1) = _ from e1, e3, clLoop_s hb hc (by omega), takes_n hL hjl hr hx, bd2_s]
        exact clLoop_d hb hc _ _ (by omega) (by have := kn_lt (c := c); unfold FU; omega)
/-! a whole text -/
def ROk (T rd lt bg wd : AI) (Lz b n c a : Nat) : Prop :=
  (∃ (cs : List CD) (fb : Int32 → Int32), cs.length ≤ Lz - a ∧ okC cs ∧ (∀ S L N z bb, z ≤ a → LX4_readInto_19 FU b T (nI Lz) n (nI c) (nI a) S L N (nI z) bb = some (-5, nI Lz, some b, aS S z cs, aL L z cs, aN N z cs, nI (z + cs.length), fb bb)) ∧ ∀ Nm wi s be, ∃ wi', bd5 (fX8_clause FU rd (nI Lz) (nI a) 1 wi s be Nm lt bg wd) (fun mat w wi s be => LX8_readAll_27 FU rd (nI Lz) Nm lt bg wd n (nI c) mat w wi s be) = some (1, nI Lz, 1, wi', (evL Nm cs (s, 0)).1, fb be)) ∨
  ∃ a' : Nat, a' ≤ Lz ∧ (∀ S L N z bb, z ≤ a → ∃ S' L' N' z' bb', LX4_readInto_19 FU b T (nI Lz) n (nI c) (nI a) S L N (nI z) bb = some (nI a', nI a', some b, S', L', N', z', bb')) ∧ ∀ Nm wi s be, ∃ w' wi' s' be', bd5 (fX8_clause FU rd (nI Lz) (nI a) 1 wi s be Nm lt bg wd) (fun mat w wi s be => LX8_readAll_27 FU rd (nI Lz) Nm lt bg wd n (nI c) mat w wi s be) = some (0, nI a', w', wi', s', be')
theorem c10 {c : Nat} (hc : c ≤ 10) : (10 : Int32) ≤ nI c ↔ c = 10 := by
  constructor
  · intro z
    have := (nI_leI (a := 10) (by omega) (by omega)).mp z
    omega
  · intro z; subst z; decide
theorem rdAll_e {T rd lt bg wd Nm : AI} {Lz n c a : Nat} {wi s be : Int32} (hL : Lz ≤ 100) (hr : ∀ j, j < Lz → rd j = T j) (hc : c ≤ 10) (ha : a ≤ Lz) (h : ¬ isA T Lz a 59 ∨ c = 10) : LX8_readAll_27 FU rd (nI Lz) Nm lt bg wd (n + 1) (nI c) (nI a) 1 wi s be = if nI a = nI Lz then some (1, nI a, 1, wi, s, be) else some (0, nI a, 1, wi, s, be) := by
  rw [LX8_readAll_27]
  by_cases e : c = 10
  · rw [if_pos ((c10 hc).mpr e), if_neg (by decide)]
  · have h59 : ¬ isA T Lz a 59 := h.elim id (fun z => absurd z e)
    rw [if_neg (fun z => e ((c10 hc).mp z)), isAt_m hL ha hr, bd1_s, bi_f h59, if_pos rfl, if_neg (by decide)]
theorem rdAll_d {rd lt bg wd Nm : AI} {n : Nat} {sz mat c wi s be : Int32} : LX8_readAll_27 FU rd sz Nm lt bg wd (n + 1) c mat 0 wi s be = some (0, mat, 0, wi, s, be) := by
  rw [LX8_readAll_27]
  by_cases e : 10 ≤ c
  · rw [if_pos e, if_pos rfl]
  · rw [if_neg e, isAt_d, bd1_s, if_pos rfl, if_pos rfl]
theorem read_ok {T rd lt bg wd : AI} {Lz b : Nat} (hT : Txt T Lz) (hr : ∀ j, j < Lz → rd j = T j) (hb : Tb bg wd lt) : ∀ (n c a : Nat), 1 ≤ c → c ≤ 10 → 10 - c < n → a ≤ Lz → ROk T rd lt bg wd Lz b n c a := by
  have hL := hT.1
  intro n
  induction n with
  | zero => intro c a _ _ h; omega
  | succ n ih =>
    intro c a hc1 hc hn ha
    have h10 : ¬ (10 : Int32) < nI c := fun z => by
      have := (nI_ltI (a := 10) (by omega) (by omega)).mp z
      omega
    rcases clause_ok hT hr hb a ha with ⟨a1, c1, fb, f1, f2, f3, f4, f5, f6⟩ | ⟨a1, f1, f2, f3⟩
    · by_cases e : a1 = Lz
      · subst e
        refine Or.inl ⟨c1, fb, f3, f4, fun S L N z bb hz => ?_, fun Nm wi s be => ?_⟩
        · rw [LX4_readInto_19, if_neg h10, f5 S L N z bb (some b) hz, bd7_s, if_neg (by decide), if_neg (fun z => by have := (nI_ltI (by omega) (by omega)).mp z; omega)]
        · obtain ⟨wi', p1, p2⟩ := f6 Nm wi s be
          exact ⟨wi', by rw [p1, bd5_s, rdAll_e hL hr hc (Nat.le_refl _) (Or.inl (fun z => absurd z.1 (Nat.lt_irrefl _))), if_pos rfl]⟩
      · have hlt : nI a1 < nI Lz := (nI_ltI (by omega) (by omega)).mpr (by omega)
        have hne : ¬ nI a1 = nI Lz := fun z => e (nI_inj (by omega) (by omega) z)
        by_cases e10 : c = 10
        · refine Or.inr ⟨a1, f2, fun S L N z bb hz => ?_, fun Nm wi s be => ?_⟩
          · rw [LX4_readInto_19, if_neg h10, f5 S L N z bb (some b) hz, bd7_s, if_neg (by decide), if_pos hlt, if_pos (by rw [e10]; rfl)]
            exact ⟨_, _, _, _, _, rfl⟩
          · obtain ⟨wi', p1, p2⟩ := f6 Nm wi s be
            exact ⟨_, _, _, _, by rw [p1, bd5_s, rdAll_e hL hr hc f2 (Or.inr e10), if_neg hne]⟩
        · have hn10 : ¬ nI c = 10 := fun z => e10 (nI_inj (b := 10) (by omega) (by omega) z)
          by_cases h59 : isA T Lz a1 59
          · have hcc : ∀ S L N z bb, z ≤ a → LX4_readInto_19 FU b T (nI Lz) (n + 1) (nI c) (nI a) S L N (nI z) bb = LX4_readInto_19 FU b T (nI Lz) n (nI (c + 1)) (nI (a1 + 1)) (aS S z c1) (aL L z c1) (aN N z c1) (nI (z + c1.length)) (fb bb) := by
              intro S L N z bb hz
              rw [LX4_readInto_19, if_neg h10, f5 S L N z bb (some b) hz, bd7_s, if_neg (by decide), if_pos hlt, if_neg hn10, word1_y hL okS0 (show tx 0 0 = 59 from rfl) f2 h59, bd2_s, if_neg (by decide), nI_1]
            have hmm : ∀ Nm wi s be, ∃ wi', bd5 (fX8_clause FU rd (nI Lz) (nI a) 1 wi s be Nm lt bg wd) (fun mat w wi s be => LX8_readAll_27 FU rd (nI Lz) Nm lt bg wd (n + 1) (nI c) mat w wi s be) = bd5 (fX8_clause FU rd (nI Lz) (nI (a1 + 1)) 1 wi' (evL Nm c1 (s, 0)).1 (fb be) Nm lt bg wd) (fun mat w wi s be => LX8_readAll_27 FU rd (nI Lz) Nm lt bg wd n (nI (c + 1)) mat w wi s be) := by
              intro Nm wi s be
              obtain ⟨wi', p1, p2⟩ := f6 Nm wi s be
              refine ⟨wi', ?_⟩
              rw [p1, bd5_s, LX8_readAll_27, if_neg (fun z => e10 ((c10 hc).mp z)), isAt_m hL f2 hr, bd1_s, bi_t h59, if_neg (by decide), nI_1, nI_1]
            have hz59 := h59.1
            rcases ih (c + 1) (a1 + 1) (by omega) (by omega) (by omega) (by omega) with ⟨c2, fb2, g1, g2, g3, g4⟩ | ⟨a2, g1, g2, g3⟩
            · refine Or.inl ⟨c1 ++ c2, fun x => fb2 (fb x), by rw [List.length_append]; omega, okC_app f4 g2, fun S L N z bb hz => ?_, fun Nm wi s be => ?_⟩
              · rw [hcc S L N z bb hz, g3 _ _ _ (z + c1.length) _ (by omega), aS_app, aL_app, aN_app, List.length_append, Nat.add_assoc]
              · obtain ⟨wi', p1⟩ := hmm Nm wi s be
                obtain ⟨wi2, p2⟩ := g4 Nm wi' (evL Nm c1 (s, 0)).1 (fb be)
                obtain ⟨wi3, p3, p4⟩ := f6 Nm wi s be
                have p5 : evL Nm c1 (s, 0) = ((evL Nm c1 (s, 0)).1, 0) := Prod.ext rfl p4
                exact ⟨wi2, by rw [p1, p2, evL_app, ← p5]⟩
            · refine Or.inr ⟨a2, g1, fun S L N z bb hz => ?_, fun Nm wi s be => ?_⟩
              · rw [hcc S L N z bb hz]
                exact g2 _ _ _ (z + c1.length) _ (by omega)
              · obtain ⟨wi', p1⟩ := hmm Nm wi s be
                rw [p1]
                exact g3 Nm wi' _ _
          · refine Or.inr ⟨a1, f2, fun S L N z bb hz => ?_, fun Nm wi s be => ?_⟩
            · rw [LX4_readInto_19, if_neg h10, f5 S L N z bb (some b) hz, bd7_s, if_neg (by decide), if_pos hlt, if_neg hn10, word1_n hL okS0 (show tx 0 0 = 59 from rfl) f2 h59, bd2_s, if_pos rfl]
              exact ⟨_, _, _, _, _, rfl⟩
            · obtain ⟨wi', p1, p2⟩ := f6 Nm wi s be
              exact ⟨_, _, _, _, by rw [p1, bd5_s, rdAll_e hL hr hc f2 (Or.inl h59), if_neg hne]⟩
    · refine Or.inr ⟨a1, f1, fun S L N z bb hz => ?_, fun Nm wi s be => ?_⟩
      · obtain ⟨S', L', N', z', bb', e5⟩ := f2 S L N z bb (some b) hz
        exact ⟨S', L', N', z', bb', by rw [LX4_readInto_19, if_neg h10, e5, bd7_s, if_pos rfl]⟩
      · obtain ⟨wi', s', be', p1⟩ := f3 Nm wi s be
        exact ⟨_, _, _, _, by rw [p1, bd5_s, rdAll_d]⟩
theorem app_get (g : CD → Int32) : ∀ (cs : List CD) (f : AI) (z i : Nat) (h : i < cs.length), app g f z cs (z + i) = g cs[i]
  | [], _, _, _, h => absurd h (Nat.not_lt_zero _)
  | c :: cs, f, z, 0, _ => by
    show app g (upd f z (g c)) (z + 1) cs z = g c
    rw [app_lo g cs _ _ z (by omega), upd_s]
  | c :: cs, f, z, i + 1, h => by
    have h' : i < cs.length := Nat.lt_of_succ_lt_succ h
    show app g (upd f z (g c)) (z + 1) cs (z + (i + 1)) = g cs[i]
    rw [← app_get g cs (upd f z (g c)) (z + 1) i h']
    congr 1
    omega
theorem cs_ext {c1 c2 : List CD} {f : AI} (hl : c1.length = c2.length) (h1 : aS f 0 c1 = aS f 0 c2) (h2 : aL f 0 c1 = aL f 0 c2) (h3 : aN f 0 c1 = aN f 0 c2) : c1 = c2 := by
  refine List.ext_getElem hl fun i i1 i2 => ?_
  have e1 := congrFun h1 (0 + i)
  have e2 := congrFun h2 (0 + i)
  have e3 := congrFun h3 (0 + i)
  have k1 : c1[i].1 = c2[i].1 := ((app_get (fun c => c.1) c1 f 0 i i1).symm.trans e1).trans (app_get (fun c => c.1) c2 f 0 i i2)
  have k2 : c1[i].2.1 = c2[i].2.1 := ((app_get (fun c => c.2.1) c1 f 0 i i1).symm.trans e2).trans (app_get (fun c => c.2.1) c2 f 0 i i2)
  have k3 : c1[i].2.2 = c2[i].2.2 := ((app_get (fun c => c.2.2) c1 f 0 i i1).symm.trans e3).trans (app_get (fun c => c.2.2) c2 f 0 i i2)
  exact Prod.ext k1 (Prod.ext k2 k3)
theorem readInto_c {T S L N : AI} {Lz dat z bb : Int32} {b : Nat} {lib : Option Nat} : fX4_readInto FU b T Lz dat lib S L N z bb = LX4_readInto_19 FU b T Lz FU (nI 1) (nI 0) S L N (nI 0) 6 := by
  unfold fX4_readInto fX3_empty
  rw [bd2_s, show (1 : Int32) = nI 1 from rfl, show (0 : Int32) = nI 0 from rfl]
theorem readAll_c {rd Nm lt bg wd : AI} {sz a w wi s be : Int32} : fX8_readAll FU rd sz a w wi s be Nm lt bg wd = bd5 (fX8_clause FU rd sz (nI 0) 1 wi 0 6 Nm lt bg wd) (fun mat w wi s be => LX8_readAll_27 FU rd sz Nm lt bg wd FU (nI 1) mat w wi s be) := by
  unfold fX8_readAll
  rw [show (1 : Int32) = nI 1 from rfl, show (0 : Int32) = nI 0 from rfl]
/-- what a text says, for the class and for the model -/
theorem text_ok {T lt bg wd : AI} {Lz b : Nat} (hT : Txt T Lz) (hb : Tb bg wd lt) :
    (∃ (cs : List CD) (BR : Int32), cs.length ≤ 100 ∧ okC cs ∧ (∀ dat lib S L N z bb, fX4_readInto FU b T (nI Lz) dat lib S L N z bb = some (-5, nI Lz, some b, aS S 0 cs, aL L 0 cs, aN N 0 cs, nI cs.length, BR)) ∧ ∀ (rd : AI) (a w wi s be : Int32) (Nm : AI), (∀ j, j < Lz → rd j = T j) → ∃ wi', fX8_readAll FU rd (nI Lz) a w wi s be Nm lt bg wd = some (1, nI Lz, 1, wi', (evL Nm cs (0, 0)).1, BR)) ∨
    ∃ a' : Nat, a' ≤ 100 ∧ (∀ dat lib S L N z bb, ∃ S' L' N' z' bb', fX4_readInto FU b T (nI Lz) dat lib S L N z bb = some (nI a', nI a', some b, S', L', N', z', bb')) ∧ ∀ (rd : AI) (a w wi s be : Int32) (Nm : AI), (∀ j, j < Lz → rd j = T j) → ∃ w' wi' s' be', fX8_readAll FU rd (nI Lz) a w wi s be Nm lt bg wd = some (0, nI a', w', wi', s', be') := by
  have hL := hT.1
  have hx := fun (rd : AI) (hr : ∀ j, j < Lz → rd j = T j) => read_ok (b := b) hT hr hb FU 1 0 (by omega) (by omega) (by unfold FU; omega) (by omega)
  rcases hx T (fun _ _ => rfl) with ⟨cs, fb, f1, f2, f3, f4⟩ | ⟨a', f1, f2, f3⟩
  · refine Or.inl ⟨cs, fb 6, by omega, f2, fun dat lib S L N z bb => ?_, fun rd a w wi s be Nm hr => ?_⟩
    · rw [readInto_c, f3 S L N 0 6 (Nat.le_refl _), Nat.zero_add]
    · rw [readAll_c]
      rcases hx rd hr with ⟨cs', fb', g1, g2, g3, g4⟩ | ⟨a', g1, g2, g3⟩
      · obtain ⟨wi', p1⟩ := g4 Nm wi 0 6
        have e := (f3 (fun _ => 0) (fun _ => 0) (fun _ => 0) 0 6 (Nat.le_refl _)).symm.trans (g3 (fun _ => 0) (fun _ => 0) (fun _ => 0) 0 6 (Nat.le_refl _))
        simp only [Option.some.injEq, Prod.mk.injEq, Nat.zero_add] at e
        obtain ⟨-, -, -, e1, e2, e3, e4, e5⟩ := e
        have e6 := cs_ext (nI_inj (by omega) (by omega) e4) e1 e2 e3
        exact ⟨wi', by rw [p1, e5, e6]⟩
      · obtain ⟨S', L', N', z', bb', e⟩ := g2 (fun _ => 0) (fun _ => 0) (fun _ => 0) 0 6 (Nat.le_refl _)
        rw [f3 (fun _ => 0) (fun _ => 0) (fun _ => 0) 0 6 (Nat.le_refl _)] at e
        simp only [Option.some.injEq, Prod.mk.injEq] at e
        exact absurd e.1.symm (nI_m5 (by omega))
  · refine Or.inr ⟨a', by omega, fun dat lib S L N z bb => ?_, fun rd a w wi s be Nm hr => ?_⟩
    · rw [readInto_c]
      exact f2 S L N 0 6 (Nat.le_refl _)
    · rw [readAll_c]
      rcases hx rd hr with ⟨cs', fb', g1, g2, g3, g4⟩ | ⟨a2, g1, g2, g3⟩
      · obtain ⟨S', L', N', z', bb', e⟩ := f2 (fun _ => 0) (fun _ => 0) (fun _ => 0) 0 6 (Nat.le_refl _)
        rw [g3 (fun _ => 0) (fun _ => 0) (fun _ => 0) 0 6 (Nat.le_refl _)] at e
        simp only [Option.some.injEq, Prod.mk.injEq] at e
        exact absurd e.1.symm (nI_m5 (by omega))
      · obtain ⟨S', L', N', z', bb', e⟩ := f2 (fun _ => 0) (fun _ => 0) (fun _ => 0) 0 6 (Nat.le_refl _)
        obtain ⟨S2, L2, N2, z2, bb2, e2⟩ := g2 (fun _ => 0) (fun _ => 0) (fun _ => 0) 0 6 (Nat.le_refl _)
        rw [e] at e2
        simp only [Option.some.injEq, Prod.mk.injEq] at e2
        rw [e2.1]
        exact g3 Nm wi 0 6
