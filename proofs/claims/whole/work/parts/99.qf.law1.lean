theorem six {k : Nat} (h : k < 6) : k = 0 ∨ k = 1 ∨ k = 2 ∨ k = 3 ∨ k = 4 ∨ k = 5 := by omega
theorem updF_id {α : Type} {f : Nat → α} {k : Nat} {x : α} (h : f k = x) : updF f k x = f := by
  funext i
  unfold updF
  by_cases e : i = k
  · rw [if_pos e, e, h]
  · rw [if_neg e]
section LWG
variable {kc : Nat → ClassId} {h k : Nat} {u v : Nat → Nat} {oh : Int32} {R : Nat} {P : Nat} {Lf : Nat} {S : Nat} {kind : AI} {vv : AI} {rows : AI} {len : AI} {q : Q5} {lib : Option Nat} {dr : AI} {tr : AI} {g : T14} {t : T14} {n : N10} {j : N10} {dt : AI} {nT : Nat} {da : Int32} {dl : Option Nat} {ct : AI} {ra : Nat} {nu : Int32} {cv : Int32} {ck : Int32} {LL : Nat → L5} {ZZ : Nat → Z3} {now : AI} {mi : AI} {th : AI} {kp : Int32} {mt : AI} {txd : Int32} {rules : AI} {sizes : AI} {rul : Int32} {jj : J9} {lt : AI} {bg : AI} {wd : AI} {ab : AI} {bo : AI} {mtr : AI} {mrn : Int32} {so : AI} {le : AI} {it : AL} {mo : AL}
theorem WG_lib {kb : Nat} (hk : kb < 6) : (WG kc h u k v oh R P Lf S kind vv rows len q lib dr tr g t n j dt nT da dl ct ra nu cv ck LL ZZ now mi th kp mt txd rules sizes rul jj lt bg wd ab bo mtr mrn so le it mo)[11 + kb]? = some (gL kc u kb (LL kb)) := by
  rcases six hk with rfl | rfl | rfl | rfl | rfl | rfl <;> rfl
theorem WG_tape {ka : Nat} (hk : ka < 6) : (WG kc h u k v oh R P Lf S kind vv rows len q lib dr tr g t n j dt nT da dl ct ra nu cv ck LL ZZ now mi th kp mt txd rules sizes rul jj lt bg wd ab bo mtr mrn so le it mo)[17 + ka]? = some (gZ kc u ka (ZZ ka)) := by
  rcases six hk with rfl | rfl | rfl | rfl | rfl | rfl <;> rfl
theorem WG_libset {kb : Nat} {x : L5} (hk : kb < 6) : (WG kc h u k v oh R P Lf S kind vv rows len q lib dr tr g t n j dt nT da dl ct ra nu cv ck LL ZZ now mi th kp mt txd rules sizes rul jj lt bg wd ab bo mtr mrn so le it mo).set (11 + kb) (gL kc u kb x) = WG kc h u k v oh R P Lf S kind vv rows len q lib dr tr g t n j dt nT da dl ct ra nu cv ck (updF LL kb x) ZZ now mi th kp mt txd rules sizes rul jj lt bg wd ab bo mtr mrn so le it mo := by
  rcases six hk with rfl | rfl | rfl | rfl | rfl | rfl <;> rfl
theorem WG_tapeset {ka : Nat} {x : Z3} (hk : ka < 6) : (WG kc h u k v oh R P Lf S kind vv rows len q lib dr tr g t n j dt nT da dl ct ra nu cv ck LL ZZ now mi th kp mt txd rules sizes rul jj lt bg wd ab bo mtr mrn so le it mo).set (17 + ka) (gZ kc u ka x) = WG kc h u k v oh R P Lf S kind vv rows len q lib dr tr g t n j dt nT da dl ct ra nu cv ck LL (updF ZZ ka x) now mi th kp mt txd rules sizes rul jj lt bg wd ab bo mtr mrn so le it mo := by
  rcases six hk with rfl | rfl | rfl | rfl | rfl | rfl <;> rfl
theorem nd1 : ∀ kb, kb < 6 → va_nd [0, 1, 11 + kb] = true := by decide +kernel
theorem nd2 : ∀ kb, kb < 6 → va_nd [0, 1, 3, 4, 11 + kb] = true := by decide +kernel
theorem nd3 : ∀ kb, kb < 6 → va_nd [0, 1, 3, 4, 5, 11 + kb] = true := by decide +kernel
theorem nd4 : ∀ kb, kb < 6 → va_nd [0, 1, 8, 7, 11 + kb] = true := by decide +kernel
theorem nd5 : ∀ ka, ka < 6 → va_nd [0, 10, 17 + ka] = true := by decide +kernel
theorem nd6 : ∀ ka, ka < 6 → va_nd [0, 1, 10, 17 + ka] = true := by decide +kernel
theorem nd7 : ∀ ka, ka < 6 → ∀ ke, ke < 6 → ka ≠ ke → va_nd [0, 10, 17 + ka, 17 + ke] = true := by decide +kernel
end LWG
theorem zres (u : Nat → Nat) (x : Int32) : ∃ ka, ka < 6 ∧ zA u x.toNatClampNeg = some (zo u ka) ∧ (x = nI ka ∨ (x < 0 ∨ nI 6 ≤ x)) := by
  rcases or_in x 6 (by omega) with e | ⟨k, k1, rfl⟩
  · exact ⟨0, by omega, zA_n e, Or.inr e⟩
  · exact ⟨k, k1, zA_y k1, Or.inl rfl⟩
theorem tapeR {zarr : Nat → Option Nat} {us uz : Int32} {ui it : AL} {so le : AI} {ka : Nat} {x1 : Int32} (x2 x3 : Int32) (hk : ka < 6) (hx : x1 = nI ka ∨ (x1 < 0 ∨ nI 6 ≤ x1)) (h : TP ka us uz ui so le it) : ∃ r us' uz' ui' so' le' it', fX7_tape FU zarr us uz ui x1 x2 x3 = some (r, us', uz', ui') ∧ fX8_tape FU so le it x1 x2 x3 = some (r, so', le', it') ∧ TP ka us' uz' ui' so' le' it' ∧ TO ka so le it so' le' it' := by
  rcases hx with rfl | hx
  · exact tape_y x2 x3 hk h
  · obtain ⟨g1, g2⟩ := tape_n (zarr := zarr) (us := us) (uz := uz) (ui := ui) (it := it) (so := so) (le := le) x2 x3 hx
    exact ⟨_, _, _, _, _, _, _, g1, g2, h, TO_refl⟩
theorem itemR {zarr : Nat → Option Nat} {us uz : Int32} {ui it : AL} {so le : AI} {ka : Nat} {x1 : Int32} (x2 : Int32) (x3 : Int64) (hk : ka < 6) (hx : x1 = nI ka ∨ (x1 < 0 ∨ nI 6 ≤ x1)) (h : TP ka us uz ui so le it) : ∃ r ui' it', fX7_item zarr us uz ui x1 x2 x3 = some (r, ui') ∧ fX8_item so le it x1 x2 x3 = some (r, it') ∧ TP ka us uz ui' so le it' ∧ TO ka so le it so le it' := by
  rcases hx with rfl | hx
  · exact item_y x2 x3 hk h
  · obtain ⟨g1, g2⟩ := item_n (zarr := zarr) (us := us) (uz := uz) (ui := ui) (it := it) (so := so) (le := le) x2 x3 hx
    exact ⟨_, _, _, g1, g2, h, TO_refl⟩
theorem readR {zarr : Nat → Option Nat} {us uz : Int32} {ui it : AL} {so le : AI} {ka : Nat} {x1 : Int32} (x2 : Int32) (hk : ka < 6) (hx : x1 = nI ka ∨ (x1 < 0 ∨ nI 6 ≤ x1)) (h : TP ka us uz ui so le it) : ∃ r, fX7_read zarr uz ui x1 x2 = some r ∧ fX8_read le it x1 x2 = some r := by
  rcases hx with rfl | hx
  · exact read_y x2 hk h
  · exact read_n x2 hx
theorem judgeR {P Lf S ka : Nat} {kind v rows len : AI} {q : Q5} {now so le : AI} {zarr : Nat → Option Nat} {us uz : Int32} {ui it : AL} {x1 : Int32} (x2 : Int32) (hk : ka < 6) (hx : x1 = nI ka ∨ (x1 < 0 ∨ nI 6 ≤ x1)) (H : HR P Lf S kind v rows len q now) (h : TP ka us uz ui so le it) : ∃ r, fX7_judge FU (nI P) q.1 zarr us uz ui x1 x2 = some r ∧ fX8_judge FU now so le it x1 x2 = some r := by
  rcases hx with rfl | hx
  · exact judge_y x2 hk H h
  · obtain ⟨g1, g2⟩ := judge_n (P := P) (pl := q.1) (now := now) (so := so) (le := le) (zarr := zarr) (us := us) (uz := uz) (ui := ui) (it := it) x2 hx
    exact ⟨_, g1, g2⟩
theorem shiftB_n {zarr : Nat → Option Nat} {us uz : Int32} {ui : AL} {x1 x3 : Int32} (x2 x4 x5 : Int32) (h : (x1 < 0 ∨ nI 6 ≤ x1) ∨ (x3 < 0 ∨ nI 6 ≤ x3)) : fX7_shiftB zarr us uz ui x1 x2 x3 x4 x5 = some (-1, ui) := by
  unfold fX7_shiftB
  rcases or_in x1 6 (by omega) with e | ⟨k, k1, rfl⟩
  · rw [(isTape_n e).1]; rfl
  · rcases or_in x3 6 (by omega) with e | ⟨m, m1, rfl⟩
    · rw [(isTape_n e).1, (isTape_y k1).1]; rfl
    · exfalso
      rcases h with (h | h) | (h | h)
      · exact nnI_lt0 (by omega) h
      · exact nle_nI k1 (by omega) h
      · exact nnI_lt0 (by omega) h
      · exact nle_nI m1 (by omega) h
theorem shiftBR {zarr : Nat → Option Nat} {us uz : Int32} {ui it mo : AL} {so le : AI} {ka : Nat} {x1 x3 : Int32} (x2 x4 x5 : Int32) (hk : ka < 6) (hx : x1 = nI ka ∨ (x1 < 0 ∨ nI 6 ≤ x1)) (hx3 : x3 = nI ka ∨ (x3 < 0 ∨ nI 6 ≤ x3)) (hu : TP ka us uz ui so le it) : ∃ r ui' it' mo', fX7_shiftB zarr us uz ui x1 x2 x3 x4 x5 = some (r, ui') ∧ fX8_shift FU so le it mo x1 x2 x3 x4 x5 = some (r, it', mo') ∧ TP ka us uz ui' so le it' ∧ TO ka so le it so le it' := by
  rcases hx with rfl | hx
  · rcases hx3 with rfl | hx3
    · exact shift_same x2 x4 x5 hk hu
    · exact ⟨_, _, _, _, shiftB_n x2 x4 x5 (Or.inr hx3), (shift_n (zarr := zarr) (us := us) (uz := uz) (vs := us) (vz := uz) (ui := ui) (vi := ui) (it := it) (mo := mo) (so := so) (le := le) x2 x4 x5 (Or.inr hx3)).2, hu, TO_refl⟩
  · exact ⟨_, _, _, _, shiftB_n x2 x4 x5 (Or.inl hx), (shift_n (zarr := zarr) (us := us) (uz := uz) (vs := us) (vz := uz) (ui := ui) (vi := ui) (it := it) (mo := mo) (so := so) (le := le) x2 x4 x5 (Or.inl hx)).2, hu, TO_refl⟩
theorem shiftR {zarr : Nat → Option Nat} {us uz vs vz : Int32} {ui vi it mo : AL} {so le : AI} {ka ke : Nat} {x1 x3 : Int32} (x2 x4 x5 : Int32) (hk : ka < 6) (hm : ke < 6) (hx : x1 = nI ka ∨ (x1 < 0 ∨ nI 6 ≤ x1)) (hx3 : x3 = nI ke ∨ (x3 < 0 ∨ nI 6 ≤ x3)) (hu : TP ka us uz ui so le it) (hv : TP ke vs vz vi so le it) : ∃ r vi' it' mo', fX7_shift zarr us uz ui vs vz vi x1 x2 x3 x4 x5 = some (r, vi') ∧ fX8_shift FU so le it mo x1 x2 x3 x4 x5 = some (r, it', mo') ∧ TP ke vs vz vi' so le it' ∧ TO ke so le it so le it' := by
  rcases hx with rfl | hx
  · rcases hx3 with rfl | hx3
    · exact shift_y x2 x4 x5 hk hm hu hv
    · obtain ⟨g1, g2⟩ := shift_n (zarr := zarr) (us := us) (uz := uz) (vs := vs) (vz := vz) (ui := ui) (vi := vi) (it := it) (mo := mo) (so := so) (le := le) x2 x4 x5 (Or.inr hx3)
      exact ⟨_, _, _, _, g1, g2, hv, TO_refl⟩
  · obtain ⟨g1, g2⟩ := shift_n (zarr := zarr) (us := us) (uz := uz) (vs := vs) (vz := vz) (ui := ui) (vi := vi) (it := it) (mo := mo) (so := so) (le := le) x2 x4 x5 (Or.inl hx)
    exact ⟨_, _, _, _, g1, g2, hv, TO_refl⟩
theorem TP_all {ZZ : Nat → Z3} {so le so' le' : AI} {it it' : AL} {ka : Nat} {z : Z3} (h : ∀ k, k < 6 → TP k (ZZ k).1 (ZZ k).2.1 (ZZ k).2.2 so le it) (hz : TP ka z.1 z.2.1 z.2.2 so' le' it') (ho : TO ka so le it so' le' it') : ∀ k, k < 6 → TP k (updF ZZ ka z k).1 (updF ZZ ka z k).2.1 (updF ZZ ka z k).2.2 so' le' it' := by
  intro k hk
  by_cases e : k = ka
  · subst e; rw [updF_s]; exact hz
  · rw [updF_n e]; exact TP_other e ho (h k hk)
theorem NR_59 {P Lf : Nat} {sc pc bc : Int32} {sl ss st pw po bp bl now now' : AI} (hs : ∀ i, 59 ≤ i → i < 113 → now' i = now i) (h : NR P Lf sc sl ss st pc pw po bc bp bl now) : NR P Lf sc sl ss st pc pw po bc bp bl now' := by
  obtain ⟨⟨a, a1, a2, a3, a4⟩, ⟨b, b1, b2, b3, b4⟩, c, c1, c2, c3, c4⟩ := h
  refine ⟨⟨a, a1, a2, (hs 59 (by omega) (by omega)).trans a3, fun i hi => ?_⟩, ⟨b, b1, b2, (hs 75 (by omega) (by omega)).trans b3, fun i hi => ?_⟩, c, c1, c2, (hs 96 (by omega) (by omega)).trans c3, fun i hi => ?_⟩
  · obtain ⟨z1, z2, z3, z4, z5, z6⟩ := a4 i hi
    exact ⟨z1, z2, z3, (hs _ (by omega) (by omega)).trans z4, (hs _ (by omega) (by omega)).trans z5, (hs _ (by omega) (by omega)).trans z6⟩
  · obtain ⟨z1, z2, z3⟩ := b4 i hi
    exact ⟨(hs _ (by omega) (by omega)).trans z1, (hs _ (by omega) (by omega)).trans z2, z3⟩
  · obtain ⟨z1, z2, z3⟩ := c4 i hi
    exact ⟨z1, (hs _ (by omega) (by omega)).trans z2, (hs _ (by omega) (by omega)).trans z3⟩
theorem BL_upd {st : AI} {k : Nat} {x : Int32} (h : BL st) (hx : x = 0 ∨ x = 1) : BL (upd st k x) := by
  intro i hi
  by_cases e : i = k
  · subst e; rw [upd_s]; exact hx
  · rw [upd_n e]; exact h i hi
theorem see_bl {lf sc x1 x2 x3 r sc' : Int32} {sl ss st sl' ss' st' : AI} (hx : x3 = 0 ∨ x3 = 1) (hb : BL st) (h : fX7_see lf sc sl ss st x1 x2 x3 = some (r, sc', sl', ss', st')) : BL st' := by
  have fin : ∀ {a b : Int32 × Int32 × AI × AI × AI}, some a = some b → a.2.2.2.2 = st → b.2.2.2.2 = st := by
    intro a b e1 e2
    rw [← Option.some.inj e1]; exact e2
  unfold fX7_see at h
  by_cases e0 : x1 = -1
  · rw [if_pos e0] at h
    have : st' = st := fin h rfl
    rw [this]; exact hb
  rw [if_neg e0] at h
  obtain ⟨a1, g1, h⟩ := bd1_e h
  by_cases e1 : a1 = 0
  · rw [if_pos e1] at h
    have : st' = st := fin h rfl
    rw [this]; exact hb
  rw [if_neg e1] at h
  obtain ⟨a2, g2, h⟩ := bd1_e h
  by_cases e2 : a2 = 0
  · rw [if_pos e2] at h
    have : st' = st := fin h rfl
    rw [this]; exact hb
  rw [if_neg e2] at h
  by_cases e3 : sc < 5
  · rw [if_pos e3] at h
    obtain ⟨b1, b2, b3, b4, b5, g3, h⟩ := bd5_e h
    have hb5 : b5 = st' := by have := Option.some.inj h; exact (Prod.mk.inj (Prod.mk.inj (Prod.mk.inj (Prod.mk.inj this).2).2).2).2
    unfold fX5_addSeen at g3
    obtain ⟨-, g3⟩ := gd_e g3
    obtain ⟨-, g3⟩ := gd_e g3
    obtain ⟨-, g3⟩ := gd_e g3
    have h5 := (Prod.mk.inj (Prod.mk.inj (Prod.mk.inj (Prod.mk.inj (Option.some.inj g3)).2).2).2).2
    rw [nar_bool hx] at h5
    rw [← hb5, ← h5]
    exact BL_upd hb hx
  · rw [if_neg e3] at h
    have : st' = st := fin h rfl
    rw [this]; exact hb
