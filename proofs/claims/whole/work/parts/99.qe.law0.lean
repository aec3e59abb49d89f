/-! ===== the law: its world, what holds of it ===== -/
abbrev N10 : Type := Int32 × AI × AI × AI × Int32 × AI × AI × Int32 × AI × AI
abbrev L5 : Type := AI × AI × AI × Int32 × Int32
abbrev Z3 : Type := Int32 × Int32 × AL
def lo (u : Nat → Nat) (k : Nat) : Nat := u (53 + 4 * k)
def zo (u : Nat → Nat) (k : Nat) : Nat := u (77 + 2 * k)
def yA (u : Nat → Nat) : Nat → Option Nat := fun i => some (lo u (if i < 6 then i else 0))
def zA (u : Nat → Nat) : Nat → Option Nat := fun i => some (zo u (if i < 6 then i else 0))
def gL (kc : Nat → ClassId) (u : Nat → Nat) (i : Nat) (l : L5) : va_W := wdX3 kc (lo u i) (u (54 + 4 * i)) (u (55 + 4 * i)) (u (56 + 4 * i)) l.1 l.2.1 l.2.2.1 l.2.2.2.1 l.2.2.2.2
def gZ (kc : Nat → ClassId) (u : Nat → Nat) (i : Nat) (z : Z3) : va_W := wdX6 kc (zo u i) (u (78 + 2 * i)) z.1 z.2.1 z.2.2
def updF {α : Type} (f : Nat → α) (k : Nat) (x : α) : Nat → α := fun i => if i = k then x else f i
theorem updF_s {α : Type} {f : Nat → α} {k : Nat} {x : α} : updF f k x k = x := if_pos rfl
theorem updF_n {α : Type} {f : Nat → α} {k i : Nat} {x : α} (h : i ≠ k) : updF f k x i = f i := if_neg h
def WG (kc : Nat → ClassId) (h : Nat) (u : Nat → Nat) (k : Nat) (v : Nat → Nat) (oh : Int32) (R : Nat) (P : Nat) (Lf : Nat) (S : Nat) (kind : AI) (vv : AI) (rows : AI) (len : AI) (q : Q5) (lib : Option Nat) (dr : AI) (tr : AI) (g : T14) (t : T14) (n : N10) (j : N10) (dt : AI) (nT : Nat) (da : Int32) (dl : Option Nat) (ct : AI) (ra : Nat) (nu : Int32) (cv : Int32) (ck : Int32) (LL : Nat → L5) (ZZ : Nat → Z3) (now : AI) (mi : AI) (th : AI) (kp : Int32) (mt : AI) (txd : Int32) (rules : AI) (sizes : AI) (rul : Int32) (jj : J9) (lt : AI) (bg : AI) (wd : AI) (ab : AI) (bo : AI) (mtr : AI) (mrn : Int32) (so : AI) (le : AI) (it : AL) (mo : AL) : List va_W := [wdX7 kc h (u 0) (u 10) (u 20) (u 31) (u 39) (u 47) (u 48) (u 50) (u 52) oh (nI R), wdX2 kc (u 0) (u 1) (u 2) (u 3) (u 4) (u 5) (u 6) (u 7) (u 8) (u 9) (nI P) kind vv q.1 rows (nI Lf) len q.2.1 q.2.2.1 q.2.2.2.1 q.2.2.2.2 lib dr tr, wdX2 kc (u 10) (u 11) (u 12) (u 13) (u 14) (u 15) (u 16) (u 17) (u 18) (u 19) g.1 g.2.1 g.2.2.1 g.2.2.2.1 g.2.2.2.2.1 g.2.2.2.2.2.1 g.2.2.2.2.2.2.1 g.2.2.2.2.2.2.2.1 g.2.2.2.2.2.2.2.2.1 g.2.2.2.2.2.2.2.2.2.1 g.2.2.2.2.2.2.2.2.2.2.1 g.2.2.2.2.2.2.2.2.2.2.2.1 g.2.2.2.2.2.2.2.2.2.2.2.2.1 g.2.2.2.2.2.2.2.2.2.2.2.2.2, wdX1 kc (u 20) (u 21), wdX2 kc (u 21) (u 22) (u 23) (u 24) (u 25) (u 26) (u 27) (u 28) (u 29) (u 30) t.1 t.2.1 t.2.2.1 t.2.2.2.1 t.2.2.2.2.1 t.2.2.2.2.2.1 t.2.2.2.2.2.2.1 t.2.2.2.2.2.2.2.1 t.2.2.2.2.2.2.2.2.1 t.2.2.2.2.2.2.2.2.2.1 t.2.2.2.2.2.2.2.2.2.2.1 t.2.2.2.2.2.2.2.2.2.2.2.1 t.2.2.2.2.2.2.2.2.2.2.2.2.1 t.2.2.2.2.2.2.2.2.2.2.2.2.2, wdX5 kc (u 31) (u 32) (u 33) (u 34) (u 35) (u 36) (u 37) (u 38) n.1 n.2.1 n.2.2.1 n.2.2.2.1 n.2.2.2.2.1 n.2.2.2.2.2.1 n.2.2.2.2.2.2.1 n.2.2.2.2.2.2.2.1 n.2.2.2.2.2.2.2.2.1 n.2.2.2.2.2.2.2.2.2, wdX5 kc (u 39) (u 40) (u 41) (u 42) (u 43) (u 44) (u 45) (u 46) j.1 j.2.1 j.2.2.1 j.2.2.2.1 j.2.2.2.2.1 j.2.2.2.2.2.1 j.2.2.2.2.2.2.1 j.2.2.2.2.2.2.2.1 j.2.2.2.2.2.2.2.2.1 j.2.2.2.2.2.2.2.2.2, wdQL kc (u 47) (yA u), wdX4 kc (u 48) (u 49) dt (nI nT) da dl, wdX0 kc (u 50) (u 51) ct (nI ra) nu cv ck, wdQT kc (u 52) (zA u), gL kc u 0 (LL 0), gL kc u 1 (LL 1), gL kc u 2 (LL 2), gL kc u 3 (LL 3), gL kc u 4 (LL 4), gL kc u 5 (LL 5), gZ kc u 0 (ZZ 0), gZ kc u 1 (ZZ 1), gZ kc u 2 (ZZ 2), gZ kc u 3 (ZZ 3), gZ kc u 4 (ZZ 4), gZ kc u 5 (ZZ 5), wdX8 kc k (v 0) (v 1) (v 2) (v 3) (v 4) (v 5) (v 6) (v 7) (v 8) (v 9) (v 10) (v 11) (v 12) (v 13) (v 14) (v 15) (v 16) (v 17) (v 18) now mi th kp mt txd rules sizes rul jj.1 jj.2.1 jj.2.2.1 jj.2.2.2.1 jj.2.2.2.2.1 jj.2.2.2.2.2.1 jj.2.2.2.2.2.2.1 jj.2.2.2.2.2.2.2.1 lt bg wd jj.2.2.2.2.2.2.2.2 ab bo mtr mrn so le it mo]
/-- the image, and what the model keeps -/
def IMG (u : Nat → Nat) (R : Nat) (oh kp : Int32) (g : T14) (j : N10) (th : AI) : Prop := (oh = 0 ∧ kp = 0) ∨ (oh = 1 ∧ kp = 1 ∧ ∃ P Lf S, g.1 = nI P ∧ g.2.2.2.2.2.1 = nI Lf ∧ S ≤ 9999 ∧ HR P Lf S g.2.1 g.2.2.1 g.2.2.2.2.1 g.2.2.2.2.2.2.1 (g.2.2.2.1, g.2.2.2.2.2.2.2.1, g.2.2.2.2.2.2.2.2.1, g.2.2.2.2.2.2.2.2.2.1, g.2.2.2.2.2.2.2.2.2.2.1) th ∧ NR P Lf j.1 j.2.1 j.2.2.1 j.2.2.2.1 j.2.2.2.2.1 j.2.2.2.2.2.1 j.2.2.2.2.2.2.1 j.2.2.2.2.2.2.2.1 j.2.2.2.2.2.2.2.2.1 j.2.2.2.2.2.2.2.2.2 th ∧ LC R (lo u) g.2.2.2.2.2.2.2.2.2.2.2.1 (th 58))
def REL (u : Nat → Nat) (oh : Int32) (R : Nat) (P : Nat) (Lf : Nat) (S : Nat) (kind : AI) (vv : AI) (rows : AI) (len : AI) (q : Q5) (lib : Option Nat) (dr : AI) (tr : AI) (g : T14) (t : T14) (n : N10) (j : N10) (dt : AI) (nT : Nat) (da : Int32) (dl : Option Nat) (ct : AI) (ra : Nat) (nu : Int32) (cv : Int32) (ck : Int32) (LL : Nat → L5) (ZZ : Nat → Z3) (now : AI) (mi : AI) (th : AI) (kp : Int32) (mt : AI) (txd : Int32) (rules : AI) (sizes : AI) (rul : Int32) (jj : J9) (lt : AI) (bg : AI) (wd : AI) (ab : AI) (bo : AI) (mtr : AI) (mrn : Int32) (so : AI) (le : AI) (it : AL) (mo : AL) : Prop := HR P Lf S kind vv rows len q now ∧ S ≤ 9999 ∧ NR P Lf n.1 n.2.1 n.2.2.1 n.2.2.2.1 n.2.2.2.2.1 n.2.2.2.2.2.1 n.2.2.2.2.2.2.1 n.2.2.2.2.2.2.2.1 n.2.2.2.2.2.2.2.2.1 n.2.2.2.2.2.2.2.2.2 now ∧ BL n.2.2.2.1 ∧ TX nT dt mt ∧ R ≤ 6 ∧ (∀ k, k < R → LIB k (LL k).1 (LL k).2.1 (LL k).2.2.1 (LL k).2.2.2.1 (LL k).2.2.2.2 rules sizes lt bg wd) ∧ LC R (lo u) lib (now 58) ∧ IMG u R oh kp g j th ∧ BL j.2.2.2.1 ∧ (∀ i, i < 7 → ab i = tabK i) ∧ (∀ i, i < 21 → bo i = tabB i) ∧ Tb bg wd lt ∧ (∀ k, k < 6 → TP k (ZZ k).1 (ZZ k).2.1 (ZZ k).2.2 so le it) ∧ ra < 2 ^ 29 ∧ txd = nI nT ∧ rul = nI R ∧ ct = mtr ∧ mrn = nI ra
/-- the law's frame: what its walk rests on -/
def lwH (p : Program) (s : State) (m : MethodId) (meth : Method) (c : Code) (b L : Nat) (xs : Nat → Int32) (dC : Nat → ClassId) (dI : Nat → Nat → Nat) (kc : Nat → ClassId) (A : Nat → Prop) (adK adV : Nat → Nat) (sf : Option Nat) (tB tK : Nat) : Prop := p.tables.exec = Jvm.exec ∧ c.code = code ∧ c.maxLocals = 4 ∧ s.vm.findClass RL = some m.cls ∧ (∀ w ∈ wsL_law, w.before #[Value.ref b] s = true) ∧ va_K (dC, dI) vwCl (tyA kc) s ∧ va_X b L xs s s.heap ∧ b < s.heap.size ∧ ¬ A b ∧ (∀ q : Nat, s.heap.size ≤ q → A q) ∧ xR adK adV sf A s s.heap ∧ xB tB tK A s s.heap ∧ L ≤ 3072
/-- from the loop's end on, with any state that is related -/
def lwG (p : Program) (l : Launch) (e : Env) (s : State) (m : MethodId) (b : Nat) (below : List Frame) (meth : Method) (c : Code) (Q : State → Prop) (dC : Nat → ClassId) (dI : Nat → Nat → Nat) (kc : Nat → ClassId) (A : Nat → Prop) (h : Nat) (u : Nat → Nat) (k : Nat) (v : Nat → Nat) (ls : Array Slot) : Prop := ∀ (oh : Int32) (R : Nat) (P : Nat) (Lf : Nat) (S : Nat) (kind : AI) (vv : AI) (rows : AI) (len : AI) (q : Q5) (lib : Option Nat) (dr : AI) (tr : AI) (g : T14) (t : T14) (n : N10) (j : N10) (dt : AI) (nT : Nat) (da : Int32) (dl : Option Nat) (ct : AI) (ra : Nat) (nu : Int32) (cv : Int32) (ck : Int32) (LL : Nat → L5) (ZZ : Nat → Z3) (now : AI) (mi : AI) (th : AI) (kp : Int32) (mt : AI) (txd : Int32) (rules : AI) (sizes : AI) (rul : Int32) (jj : J9) (lt : AI) (bg : AI) (wd : AI) (ab : AI) (bo : AI) (mtr : AI) (mrn : Int32) (so : AI) (le : AI) (it : AL) (mo : AL) (H : Heap) (locs : List Loc), REL u oh R P Lf S kind vv rows len q lib dr tr g t n j dt nT da dl ct ra nu cv ck LL ZZ now mi th kp mt txd rules sizes rul jj lt bg wd ab bo mtr mrn so le it mo → va_P (dC, dI) vwCl (fl (WG kc h u k v oh R P Lf S kind vv rows len q lib dr tr g t n j dt nT da dl ct ra nu cv ck LL ZZ now mi th kp mt txd rules sizes rul jj lt bg wd ab bo mtr mrn so le it mo)) H → va_D A (fl (WG kc h u k v oh R P Lf S kind vv rows len q lib dr tr g t n j dt nT da dl ct ra nu cv ck LL ZZ now mi th kp mt txd rules sizes rul jj lt bg wd ab bo mtr mrn so le it mo)) → va_S A s.heap H locs → W p l e room_1 s m #[Value.ref b] below meth c H locs 110 4413 Q (F0 m 1332 ls [])
theorem LC_mono {R R' : Nat} {lo : Nat → Nat} {lib : Option Nat} {code : Int32} (hR : R ≤ R') (h : LC R lo lib code) : LC R' lo lib code := by
  rcases h with h | ⟨k, k1, k2, k3⟩
  · exact Or.inl h
  · exact Or.inr ⟨k, by omega, k2, k3⟩
theorem IMG_mono {u : Nat → Nat} {R R' : Nat} {oh kp : Int32} {g : T14} {j : N10} {th : AI} (hR : R ≤ R') (h : IMG u R oh kp g j th) : IMG u R' oh kp g j th := by
  rcases h with h | ⟨h1, h2, P, Lf, S, a1, a2, a3, a4, a5, a6⟩
  · exact Or.inl h
  · exact Or.inr ⟨h1, h2, P, Lf, S, a1, a2, a3, a4, a5, LC_mono hR a6⟩
/-- which library holds, on both sides -/
theorem libSum {u : Nat → Nat} {R : Nat} {lib : Option Nat} {code : Int32} {LL : Nat → L5} {rules sizes lt bg wd : AI} (hR : R ≤ 6) (hLB : ∀ k, k < R → LIB k (LL k).1 (LL k).2.1 (LL k).2.2.1 (LL k).2.2.2.1 (LL k).2.2.2.2 rules sizes lt bg wd) (h : LC R (lo u) lib code) : ∃ kb SUM BR, kb < 6 ∧ (∀ q : Nat, lib = some q → q = lo u kb) ∧ SumC SUM BR FU lib (LL kb).1 (LL kb).2.1 (LL kb).2.2.1 (LL kb).2.2.2.1 (LL kb).2.2.2.2 ∧ SumM SUM BR FU code rules sizes lt bg wd := by
  rcases h with ⟨h1, h2⟩ | ⟨k, k1, k2, k3⟩
  · obtain ⟨c1, c2⟩ := sums_none (bs := (LL 0).1) (bl := (LL 0).2.1) (bn := (LL 0).2.2.1) (bz := (LL 0).2.2.2.1) (bb := (LL 0).2.2.2.2) (rules := rules) (sizes := sizes) (lt := lt) (bg := bg) (wd := wd) h2
    subst h1
    exact ⟨0, _, _, by omega, fun q hq => (by cases hq), c1, c2⟩
  · obtain ⟨SUM, BR, c1, c2⟩ := sums_some (l := lo u k) (show k < 6 by omega) k3 (hLB k k1)
    subst k2
    exact ⟨k, SUM, BR, by omega, fun q hq => (Option.some.inj hq).symm, c1, c2⟩
theorem zA_y {u : Nat → Nat} {k : Nat} (hk : k < 6) : zA u (nI k).toNatClampNeg = some (zo u k) := by
  unfold zA
  rw [nI_clamp (by omega), if_pos hk]
theorem zA_n {u : Nat → Nat} {x : Int32} (h : x < 0 ∨ nI 6 ≤ x) : zA u x.toNatClampNeg = some (zo u 0) := by
  unfold zA
  by_cases e : x.toNatClampNeg < 6
  · rw [if_pos e]
    rcases h with h | h
    · have h1 : x.toNatClampNeg = 0 := by
        have := Int32.lt_iff_toInt_lt.mp h
        have z : (0 : Int32).toInt = 0 := by decide
        rw [← Int32.toNat_toInt]
        omega
      rw [h1]
    · exfalso
      have h1 := Int32.le_iff_toInt_le.mp h
      rw [nI_toInt (by omega)] at h1
      rw [← Int32.toNat_toInt] at e
      omega
  · rw [if_neg e]
theorem yA_y {u : Nat → Nat} {k : Nat} (hk : k < 6) : yA u (nI k).toNatClampNeg = some (lo u k) := by
  unfold yA
  rw [nI_clamp (by omega), if_pos hk]
theorem yA_6 {u : Nat → Nat} : yA u (nI 6).toNatClampNeg = some (lo u 0) := by
  unfold yA
  rw [nI_clamp (by omega), if_neg (by omega)]
section LSCR
variable {p : Program} {l : Launch} {e : Env} {R : Room} {s : State} {m : MethodId} {below : List Frame} {meth : Method} {c : Code} {H : Heap} {locs : List Loc} {cells slots : Nat} {Q : State → Prop}
variable {pc : Nat} {ls : Array Slot} {rest : List Value}
/-- a script's int is loaded -/
theorem k_scr {A : Nat → Prop} {b L h k i : Nat} {xs : Nat → Int32} (j : Nat) (hx : p.tables.exec = Jvm.exec) (hb : c.code = code) (hX : va_X b L xs s s.heap) (hbl : b < s.heap.size) (hbA : ¬ A b) (hS : va_S A s.heap H locs) (hL : L ≤ 3072) (hi : i + 6 ≤ L) (hj : j < 6) (hl : lv_has ls 4 [(0, .ref b), (1, .ref h), (2, .ref k), (3, .int (nI i))])
    (d0 : decode code pc = .ok (.aload_n 0, 1)) (d1 : decode code (pc + 1) = .ok (.iload_n 3, 1)) (d2 : decode code (pc + 1 + 1) = .ok (.iconst (j : Int), 1)) (d3 : decode code (pc + 1 + 1 + 1) = .ok (.iadd, 1)) (d4 : decode code (pc + 1 + 1 + 1 + 1) = .ok (.iaload, 1))
    (kk : W p l e R s m #[Value.ref b] below meth c H locs cells slots Q (F0 m (pc + 1 + 1 + 1 + 1 + 1) ls (.int (xs (i + j)) :: rest))) : W p l e R s m #[Value.ref b] below meth c H locs cells slots Q (F0 m pc ls rest) := by
  refine lv_aload_n hx hb d0 rfl (lv_at hl 0 rfl) ?_
  refine lv_iload_n hx hb d1 rfl (lv_at hl 3 rfl) ?_
  refine lv_iconst (v := nI j) hx hb d2 rfl ?_
  refine lv_iadd hx hb d3 ?_
  rw [nI_add]
  refine va_sld hx hb hX hbl hbA hS (vp_in_nI (show i + j < L by omega) (by omega)) d4 ?_
  rw [nI_clamp (by omega)]
  exact kk
end LSCR
theorem arrV_eq {cI : ClassId} {N : Nat} {f g : Nat → Value} (h : ∀ j, j < N → f j = g j) : arrV cI N f = arrV cI N g := by
  unfold arrV
  congr 1
  congr 1
  funext j
  exact h j.val j.isLt
theorem va_P_swap {D : va_G} {cl : List vw_C} {Gs : List va_W} {H : Heap} {a n : Nat} {cA : ClassId} {f g : Nat → Option Nat} (i : Nat) (hi : Gs[i]? = some [(a, .inl (cA, n, .inr (.inr (.inr (.inr f)))))]) (hfg : ∀ j, j < n → f j = g j) (hP : va_P D cl (fl Gs) H) : va_P D cl (fl (Gs.set i [(a, .inl (cA, n, .inr (.inr (.inr (.inr g)))))])) H := by
  rw [va_P_mem] at hP ⊢
  intro q hq
  obtain ⟨G, hG, hqG⟩ := List.mem_flatten.mp hq
  rcases List.mem_or_eq_of_mem_set hG with h1 | h1
  · exact hP q (List.mem_flatten.mpr ⟨G, h1, hqG⟩)
  · subst h1
    have h2 : q = (a, .inl (cA, n, .inr (.inr (.inr (.inr g))))) := List.mem_singleton.mp hqG
    subst h2
    have h3 := hP (a, .inl (cA, n, .inr (.inr (.inr (.inr f))))) (fl_mem hi (List.mem_singleton.mpr rfl))
    have h4 : H[a]? = some (vp_cell cA (n, .inr (.inr (.inr (.inr f))))) := h3
    show H[a]? = some (vp_cell cA (n, .inr (.inr (.inr (.inr g)))))
    rw [h4, vp_cell_q, vp_cell_q, arrV_eq (fun j hj => by show va_rf (f j) = va_rf (g j); rw [hfg j hj])]
