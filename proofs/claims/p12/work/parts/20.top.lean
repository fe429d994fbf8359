def qz_PC (L : Nat) (xs : Nat → Int32) (i : Nat) (oo oa ob : Nat → Int32) : Prop :=
  ∀ t, t < i → (oo t = 0 ∨ oo t = 1 ∨ oo t = 12 ∨ oo t = 13 ∨ oo t = 14 ∨ oo t = 16 ∨ oo t = 17) ∧ ((qz_kd L xs t = 1 ∨ qz_kd L xs t = 7) → oo t = 13 ∧ oa t = 2 ∧ ob t = nI (qz_hb L xs t)) ∧ (qz_kd L xs t = 2 → oo t = 14 ∧ oa t = 2 ∧ ob t = nI (qz_hb L xs t))
theorem qz_PCs {L : Nat} {xs : Nat → Int32} {i : Nat} {oo oa ob : Nat → Int32} {o a b : Int32} (h : qz_PC L xs i oo oa ob) (mi : qz_mi L xs i o a b) : qz_PC L xs (i + 1) (upd oo i o) (upd oa i a) (upd ob i b) := by
  intro t ht
  by_cases z : t = i
  · rw [z, pk_us, pk_us, pk_us]; exact mi.2
  · rw [pk_un z, pk_un z, pk_un z]; exact h t (by omega)
theorem qz_PCc {L : Nat} {xs : Nat → Int32} {i : Nat} {oo oa ob oo' oa' ob' : Nat → Int32} (h : qz_PC L xs i oo oa ob) (e : ∀ t, t < i → oo' t = oo t ∧ oa' t = oa t ∧ ob' t = ob t) : qz_PC L xs i oo' oa' ob' := by
  intro t ht
  obtain ⟨e1, e2, e3⟩ := e t ht
  rw [e1, e2, e3]
  exact h t ht
def qz_gL (w : Int64) : Prop := qz_g (fun _ => 0) (fun _ => 0) 0 w
section
variable {mc md cl lc cu h B mp mL : Nat} {st rt lh rd re : Int32} {D : Nat → Prop} {oo oa ob oc lg rg tg : Nat → Int32} {hd d s lv rs bd yr p q n m : Nat → Nat} {c r t x a b : Nat} {l L : List Nat}
theorem qz_chkL (P : Int64 → Prop) {w : Int64} (m1 : 1 ≤ mc) (m4 : mc ≤ 4) (hs : ∀ t, t < 5 → s t = 3) (g : qz_gL w) (H : ∀ w', qz_gL w' → P w') : wpL_check P (nI mc, nI md, nI cl, nI 0, 0, 0, nI 0, nI 0, 0, 0, oo, oa, ob, oc, (fun _ => 0), (fun zz => nI (((fun _ => 0)) zz)), (fun zz => nI (s zz)), (fun zz => nI (((fun _ => 0)) zz)), (fun zz => nI (((fun _ => 0)) zz)), (fun zz => nI (((fun _ => 0)) zz)), (fun zz => nI (((fun _ => 0)) zz)), (fun zz => nI (((fun _ => 0)) zz)), (fun _ => 0), (fun _ => 0)) w (nI mc) :=
  qz_check (lv := fun _ => 0) (hd := fun _ => 0) (h := 0) (rs := fun _ => 0) (bd := fun _ => 0) (d := fun _ => 0) (p := fun _ => 0) (n := fun _ => 0) P (fun t _ t5 => .inl ⟨hs t t5, rfl⟩) (fun t _ _ z => absurd z (by decide)) (by omega) (fun t t' _ _ _ _ z => absurd z (by decide)) m1 m4 (fun _ _ _ => rfl) g H
theorem qz_I0 (hs : ∀ t, t < 5 → s t = 3) : qc_I mc md oo oa ob (fun _ => 0) s (fun _ => 0) (fun _ => 0) (fun _ => 0) (fun _ => 0) (fun _ => 0) (fun _ => 0) (fun _ => 0) [] :=
  ⟨trivial, List.nodup_nil, fun t ht => absurd ht List.not_mem_nil, fun _ _ _ => rfl, fun t t5 => .inl ⟨hs t t5, rfl, rfl⟩⟩
theorem qz_149 {L' : Nat} {xs : Nat → Int32} (hL : L' ≤ 260) {kc ks bb ll : Nat} (m1 : 1 ≤ mc) (m4 : mc ≤ 4) (d1 : 1 ≤ md) (d6 : md ≤ 6) (hs : ∀ t, t < 5 → s t = 3) (hm24 : mL ≤ 24) (l1 : 1 ≤ ll) (l64 : ll ≤ 64) :
    ∀ (k j : Nat) (w : Int64) (cl : Nat) (oo oa ob oc : Nat → Int32), j + k = ll → mL < cl → cl ≤ 64 → (∀ i, i < cl → qc_Fit (oo i) (oa i) (ob i) (oc i)) → qz_PC L' xs mL oo oa ob → oo mL = 8 → qz_gL w →
      wL_law_149 (fun r => r = 1) L' xs (nI mc) (nI mL) (nI bb) (nI ll) kc ks (k + 1) w (nI j) (nI mc) (nI md) (nI cl) (nI 0) 0 0 (nI 0) (nI 0) 0 0 oo oa ob oc (fun _ => 0) (fun zz => nI (((fun _ => 0)) zz)) (fun zz => nI (s zz)) (fun zz => nI (((fun _ => 0)) zz)) (fun zz => nI (((fun _ => 0)) zz)) (fun zz => nI (((fun _ => 0)) zz)) (fun zz => nI (((fun _ => 0)) zz)) (fun zz => nI (((fun _ => 0)) zz)) (fun _ => 0) (fun _ => 0) := by
  intro k
  induction k with
  | zero =>
    intro j w cl oo oa ob oc hj hcl c64 fit pc o8 g
    refine br_t (nI_le (by omega) (by omega)) ?_
    refine qz_cw _ (k := 3) rfl (by omega) hL ?_
    generalize qz_cell L' xs 3 &&& 255 = v
    obtain ⟨-, I'⟩ := qc_tr_start (b := 0) d6 d1 (qz_I0 (mc := mc) (md := md) (oo := oo) (oa := oa) (ob := ob) hs) (by omega)
    have K : qc_K mc md cl 0 0 0 oo oa ob oc (fun _ => 0) (fun _ => 0) := ⟨⟨m1, m4⟩, ⟨d1, d6⟩, c64, by omega, by omega, fit, fun _ => (by decide : 0 < 64), rfl⟩
    have Z : ∀ w : Int64, qz_gL w → qz_Z (fun _ => 0) (fun _ => 0) (qc_u (fun _ => 0) 0 (0 + 1)) (qc_u (fun _ => 0) (0 * 6 + 0) 0) 0 0 mL (qz_D w) [0] := fun w g =>
      ⟨⟨rfl, fun t _ _ z => absurd (show (0 : Nat) = 1 from z) (by decide), fun t t' _ _ _ _ z => absurd (show (0 : Nat) = 1 from z) (by decide)⟩, fun j hj => g.2 j hj.1 hj.2.1 hj.2.2, fun _ => ⟨rfl, rfl, by omega⟩⟩
    refine br_t rfl (br_f (by decide) (br_t (nI_lt (a := 0) (by omega) (by omega)) (qc_xpush (t := 0) (d := fun _ => 0) (p := fun _ => 0) (n := fun _ => 0) (a := 0) _ v (by omega) (by decide) (nm_r (qc_uI _ 0 1) ?_))))
    refine qz_chk (B := 0) (mp := 0) (mL := mL) (L := [0]) (lv := fun _ => 0) (hd := fun _ => 0) (w := w) _ K (by omega) I' (Z w g) g.1 (fun w' b' Z' => br_t ((qz_b0 w').mpr b') ⟨301, ?_⟩)
    exact qz_loop (mc := mc) (cl := cl) (oo := oo) (oa := oa) (ob := ob) (oc := oc) (mL := mL) hL ⟨hcl, o8, fun i hi => (pc i hi).1⟩ (fun i hi => (pc i hi).2) hm24 300 0 0 w' _ (by omega) b' (qz_Rmk K I' Z')
  | succ k ih =>
    intro j w cl oo oa ob oc hj hcl c64 fit pc o8 g
    refine br_f (nI_ge (by omega) (by omega)) ?_
    refine qz_emB _ hL (by omega) l1 l64 c64 (fun cl' oo' oa' ob' oc' h1 h2 h3 h4 => ?_)
    refine qz_chkL _ m1 m4 hs g (fun w' g' => br_t ((qz_b0 w').mpr g'.1) (nm_r (nI_1 j) (ih (j + 1) w' cl' oo' oa' ob' oc' (by omega) (by omega) h2 (h4 fit) (qz_PCc pc (fun t ht => h3 t (by omega))) (by rw [(h3 mL hcl).1]; exact o8) g')))
theorem qz_89 {L' : Nat} {xs : Nat → Int32} (hL : L' ≤ 260) {kc ks bb ll : Nat} (m1 : 1 ≤ mc) (m4 : mc ≤ 4) (d1 : 1 ≤ md) (d6 : md ≤ 6) (hs : ∀ t, t < 5 → s t = 3) (hm24 : mL ≤ 24) (l1 : 1 ≤ ll) (hbl : bb + ll = 64) :
    ∀ (k i : Nat) (w : Int64) (oo oa ob oc : Nat → Int32), i + k = mL → (∀ t, t < i → qc_Fit (oo t) (oa t) (ob t) (oc t)) → qz_PC L' xs i oo oa ob → qz_gL w →
      wL_law_89 (fun r => r = 1) L' xs (nI mc) (nI mL) (nI bb) (nI ll) kc ks (k + 1) w (nI i) (nI mc) (nI md) (nI i) (nI 0) 0 0 (nI 0) (nI 0) 0 0 oo oa ob oc (fun _ => 0) (fun zz => nI (((fun _ => 0)) zz)) (fun zz => nI (s zz)) (fun zz => nI (((fun _ => 0)) zz)) (fun zz => nI (((fun _ => 0)) zz)) (fun zz => nI (((fun _ => 0)) zz)) (fun zz => nI (((fun _ => 0)) zz)) (fun zz => nI (((fun _ => 0)) zz)) (fun _ => 0) (fun _ => 0) := by
  intro k
  induction k with
  | zero =>
    intro i w oo oa ob oc hi fit pc g
    have e : i = mL := by omega
    subst e
    have F : qc_Fit 8 2 0 0 := (qc_F8 _ _ _).mpr ⟨2, by omega, rfl⟩
    refine br_t (nI_le (by omega) (by omega)) ?_
    refine qz_em (cl := i) (lc := 0) (cu := 0) (rt := 0) (lh := nI 0) (rd := 0) (re := 0) (lg := fun _ => 0) (rg := fun _ => 0) (tg := fun _ => 0) (hd := fun _ => 0) (rs := fun _ => 0) (bd := fun _ => 0) (d := fun _ => 0) (p := fun _ => 0) (n := fun _ => 0) _ _ _ _ _ (by omega) (fun _ _ => ⟨ll + 1, ?_⟩) (fun w => absurd ⟨by omega, F⟩ w)
    refine qz_149 hL m1 m4 d1 d6 hs hm24 l1 (by omega) ll 0 w (i + 1) _ _ _ _ (by omega) (by omega) (by omega) (fun t ht => ?_) (qz_PCc pc (fun t ht => ⟨pk_un (by omega), pk_un (by omega), pk_un (by omega)⟩)) pk_us g
    by_cases z : t = i
    · rw [z, pk_us, pk_us, pk_us, pk_us]; exact F
    · rw [pk_un z, pk_un z, pk_un z, pk_un z]; exact fit t (by omega)
  | succ k ih =>
    intro i w oo oa ob oc hi fit pc g
    refine br_f (nI_ge (by omega) (by omega)) ?_
    refine qz_emM (cl := i) _ hL (by omega) hbl l1 (by omega) (fun o v2 v3 mi => ?_)
    refine qz_chkL _ m1 m4 hs g (fun w' g' => br_t ((qz_b0 w').mpr g'.1) (nm_r (nI_1 i) (ih (i + 1) w' _ _ _ _ (by omega) (fun t ht => ?_) (qz_PCs pc mi) g')))
    by_cases z : t = i
    · rw [z, pk_us, pk_us, pk_us, pk_us]; exact mi.1
    · rw [pk_un z, pk_un z, pk_un z, pk_un z]; exact fit t (by omega)
theorem qz_inl (P : St2 → Prop) {m0 m2 kc ks : Nat} : ∀ (k j : Nat) (s : Nat → Nat), j + k = 5 → (∀ s' : Nat → Nat, (∀ t, j ≤ t → t < 5 → s' t = 3) → (∀ t, t < j → s' t = s t) → P (nI mc, nI md, nI cl, nI lc, st, rt, nI cu, lh, rd, re, oo, oa, ob, oc, lg, (fun zz => nI (hd zz)), (fun zz => nI (s' zz)), (fun zz => nI (rs zz)), (fun zz => nI (bd zz)), (fun zz => nI (d zz)), (fun zz => nI (p zz)), (fun zz => nI (n zz)), rg, tg)) → wX_init_135 P m0 m2 kc ks (nI mc) (nI md) (nI cl) (nI lc) st rt (nI cu) lh rd re (k + 1) (nI j) oo oa ob oc lg (fun zz => nI (hd zz)) (fun zz => nI (s zz)) (fun zz => nI (rs zz)) (fun zz => nI (bd zz)) (fun zz => nI (d zz)) (fun zz => nI (p zz)) (fun zz => nI (n zz)) rg tg := by
  intro k
  induction k with
  | zero =>
    intro j s hj H
    exact br_t (nI_le (a := 5) (by omega) (by omega)) (H s (fun t a b => by omega) (fun t _ => rfl))
  | succ k ih =>
    intro j s hj H
    refine br_f (nI_ge (b := 5) (by omega) (by decide)) ⟨vp_in_nI (by omega) (by decide), nm_r (qc_st (x := 3) rfl rfl (by omega)) (nm_r (nI_1 j) (ih (j + 1) _ (by omega) (fun s' h1 h2 => H s' (fun t a b => ?_) (fun t a => ?_))))⟩
    · by_cases z : t = j
      · rw [z, h2 j (by omega), qc_us]
      · exact h1 t (by omega) b
    · rw [h2 t (by omega), qc_uo (by omega)]
theorem qz_init (P : St2 → Prop) {x1 x2 : Int32} (h1 : ∀ Q : Int32 → Prop, Q (nI mc) → wpX_clamp Q () x1 1 4) (h2 : ∀ Q : Int32 → Prop, Q (nI md) → wpX_clamp Q () x2 1 6)
    (H : ∀ s : Nat → Nat, (∀ t, t < 5 → s t = 3) → P (nI mc, nI md, nI 0, nI 0, 0, 0, nI 0, nI 0, 0, 0, (fun _ => 0), (fun _ => 0), (fun _ => 0), (fun _ => 0), (fun _ => 0), (fun zz => nI (((fun _ => 0)) zz)), (fun zz => nI (s zz)), (fun zz => nI (((fun _ => 0)) zz)), (fun zz => nI (((fun _ => 0)) zz)), (fun zz => nI (((fun _ => 0)) zz)), (fun zz => nI (((fun _ => 0)) zz)), (fun zz => nI (((fun _ => 0)) zz)), (fun _ => 0), (fun _ => 0))) :
    wpX_init P 14 765 (0, 0, 0, 0, 0, 0, 0, 0, 0, 0) x1 x2 := by
  unfold wpX_init
  refine ⟨by omega, by omega, by omega, by omega, by omega, by omega, by omega, by omega, by omega, by omega, by omega, by omega, by omega, by omega, by omega, by omega, by omega, by omega, by omega, by omega, by omega, by omega, by omega, by omega, by omega, by omega, by omega, by omega, ?_⟩
  refine h1 _ (h2 _ ⟨6, ?_⟩)
  exact qz_inl (mc := mc) (md := md) (cl := 0) (lc := 0) (cu := 0) (hd := fun _ => 0) (rs := fun _ => 0) (bd := fun _ => 0) (d := fun _ => 0) (p := fun _ => 0) (n := fun _ => 0) P 5 0 (fun _ => 0) rfl (fun s' a b => H s' (fun t t5 => a t (Nat.zero_le t) t5))
end
theorem qz_cla (v M : Int32) (N : Nat) (hM : M.toInt = N) (hN : 1 ≤ N) (hN2 : N < 100) : ∃ j, 1 ≤ j ∧ j ≤ N ∧ (∀ P : Int32 → Prop, P (nI j) → wpX_clamp P () v 1 M) ∧ (∀ P : Int32 → Prop, P (nI j) → wpL_clamp P () v 1 M) := by
  by_cases z1 : 1 ≤ v
  · by_cases z2 : v ≤ M
    · obtain ⟨j, hj, e⟩ := nI_of2 (x := v) (M := M) hM (fun w => absurd (Int32.lt_of_le_of_lt z1 w) (by decide)) z2
      refine ⟨j, ?_, hj, fun P h => br_t z1 (br_t z2 (by rw [e]; exact h)), fun P h => br_t z1 (br_t z2 (by rw [e]; exact h))⟩
      by_cases j0 : j = 0
      · rw [e, j0] at z1
        exact absurd z1 (by decide)
      · omega
    · have e : M = nI N := Int32.toInt_inj.mp (by rw [hM, nI_toInt (by omega)])
      exact ⟨N, hN, Nat.le_refl _, fun P h => br_t z1 (br_f z2 (by rw [e]; exact h)), fun P h => br_t z1 (br_f z2 (by rw [e]; exact h))⟩
  · exact ⟨1, Nat.le_refl _, hN, fun P h => br_f z1 h, fun P h => br_f z1 h⟩
theorem i_vc (xs : Nat → Int32) (L : Nat) (hL : L ≤ 260) : wpL_law (fun r => r = 1) L xs := by
  unfold wpL_law
  refine qz_pw _ (k := 0) rfl (by omega) hL ⟨by decide, fun x1 _ => ?_⟩
  refine qz_pw _ (k := 1) rfl (by omega) hL ⟨by decide, fun x2 _ => ?_⟩
  obtain ⟨mc, m1, m4, cX, cL⟩ := qz_cla x1 4 4 (by decide) (by omega) (by omega)
  obtain ⟨md, d1, d6, eX, -⟩ := qz_cla x2 6 6 (by decide) (by omega) (by omega)
  refine cL _ ⟨14, 765, by omega, by omega, ?_⟩
  refine qz_init _ cX eX (fun s hs => ?_)
  have g0 : qz_gL 0 := ⟨by decide, fun j _ _ hj => by simp at hj⟩
  refine qz_chkL _ m1 m4 hs g0 (fun w g => br_t ((qz_b0 w).mpr g.1) ?_)
  refine qz_pw _ (k := 2) rfl (by omega) hL ⟨by decide, ?_⟩
  have hp := qz_pl L xs 2
  have e1 : nI (qz_pos L xs 2) - nI (qz_pos L xs 2) / 17 * 17 = nI (qz_pos L xs 2 % 17) := pk_rem hp (d := 17) (by decide) (by decide)
  have hr : qz_pos L xs 2 % 17 < 17 := Nat.mod_lt _ (by decide)
  generalize qz_pos L xs 2 % 17 = r at *
  have e2 : 8 + nI r = nI (8 + r) := nI_add 8 r
  have e3 : 64 - nI (8 + r + 1) = nI (64 - (8 + r + 1)) := pk_sub (a := 64) (by omega)
  refine nm_r (by rw [e1, e2]) (nm_r (nI_1 _) (nm_r e3 ⟨8 + r + 1, ?_⟩))
  exact qz_89 (mc := mc) (md := md) (s := s) (mL := 8 + r) (bb := 8 + r + 1) (ll := 64 - (8 + r + 1)) hL m1 m4 d1 d6 hs (by omega) (by omega) (by omega) (8 + r) 0 w _ _ _ _ (by omega) (fun t ht => absurd ht (Nat.not_lt_zero t)) (fun t ht => absurd ht (Nat.not_lt_zero t)) g
