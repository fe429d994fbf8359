def qz_D (w : Int64) (j : Nat) : Prop := 1 ≤ j ∧ j ≤ 62 ∧ w.toBitVec.getLsbD j = true
def qz_v13 (u : St2) : Prop := match u with
  | (a0, a1, a2, a3, a4, a5, a6, a7, a8, a9, a10, a11, a12, a13, a14, a15, a16, a17, a18, a19, a20, a21, a22, a23) => a4 = 1 ∧ a6 = 0 ∧ a22 2 = -1 ∧ a22 3 = 0
def qz_v14 (u : St2) : Prop := match u with
  | (a0, a1, a2, a3, a4, a5, a6, a7, a8, a9, a10, a11, a12, a13, a14, a15, a16, a17, a18, a19, a20, a21, a22, a23) => a4 = 3 ∧ a5 = -1
section
variable {mc md cl lc cu h B mp mL : Nat} {st rt lh rd re : Int32} {D : Nat → Prop} {oo oa ob oc lg rg tg : Nat → Int32} {hd d s lv rs bd yr p q n m : Nat → Nat} {c r t x a b : Nat} {l L : List Nat}
theorem qz_Zg {w : Int64} (Z : qz_Z hd lv d p h mp mL D L) (g : qz_g lv hd h w) : qz_Z hd lv d p h mp mL (qz_D w) L := ⟨Z.1, fun j hj => g.2 j hj.1 hj.2.1 hj.2.2, Z.2.2⟩
theorem qz_gZ {w : Int64} (Z : qz_Z hd lv d p h mp mL (qz_D w) L) (b0 : w.toBitVec.getLsbD 0 = false) : qz_g lv hd h w := ⟨b0, fun j j1 j2 hj => Z.2.1 j ⟨j1, j2, hj⟩⟩
theorem qz_chk (P : Int64 → Prop) {w : Int64} (K : qc_K mc md cl lc h B oo oa ob oc lv bd) (hB : B ≤ 320) (I : qc_I mc md oo oa ob d s lv rs yr p q n m L) (Z : qz_Z hd lv d p h mp mL (qz_D w) L) (b0 : w.toBitVec.getLsbD 0 = false)
    (H : ∀ w' : Int64, w'.toBitVec.getLsbD 0 = false → qz_Z hd lv d p h mp mL (qz_D w') L → P w') : wpL_check P (nI mc, nI md, nI cl, nI lc, st, rt, nI cu, nI h, rd, re, oo, oa, ob, oc, lg, (fun zz => nI (hd zz)), (fun zz => nI (s zz)), (fun zz => nI (rs zz)), (fun zz => nI (bd zz)), (fun zz => nI (d zz)), (fun zz => nI (p zz)), (fun zz => nI (n zz)), rg, tg) w (nI mc) :=
  qz_check P (fun t => qc_al I) Z.1.2.1 (by have := K.2.2.2.2.1; omega) Z.1.2.2 K.1.1 K.1.2 I.2.2.2.1 (qz_gZ Z b0) (fun w' g => H w' g.1 (qz_Zg Z g))
theorem qz_gr (P : Int32 → Prop) {r : Nat} (r8 : r < 8) (d1 : d 0 = 1) (hP : P (rg r)) : wpX_getReg P (nI mc, nI md, nI cl, nI lc, st, rt, nI cu, lh, rd, re, oo, oa, ob, oc, lg, (fun zz => nI (hd zz)), (fun zz => nI (s zz)), (fun zz => nI (rs zz)), (fun zz => nI (bd zz)), (fun zz => nI (d zz)), (fun zz => nI (p zz)), (fun zz => nI (n zz)), rg, tg) 0 (nI r) := by
  unfold wpX_getReg
  have e : 0 * 6 + d 0 - 1 = 0 := by omega
  have eI : nI 0 * 8 + nI r = nI (0 * 8 + r) := qc_fr8 rfl rfl
  refine br_t rfl (br_f (by decide) ⟨vp_in_nI (n := 0) (by decide) (by decide), br_f ?_ (qc_isr _ _ (fun _ => br_f (by decide) ?_) (fun w => absurd ⟨r, r8, rfl⟩ w))⟩)
  · show ¬ nI (d 0) = 0
    rw [d1]
    decide
  · refine qc_xtf (t := 0) _ (by omega) (by omega) ?_
    rw [e]
    refine ⟨qc_vi eI (by omega) (by decide), ?_⟩
    rw [eI, nI_clamp (by omega)]
    have e2 : 0 * 8 + r = r := by omega
    rw [e2]
    exact hP
theorem qz_pr13 (K : qc_K mc md cl lc h B oo oa ob oc lv bd) (I : qc_I mc md oo oa ob d s lv rs yr p q n m (c :: l)) (hp : p (c * 6 + d c - 1) = x) (hx : x < cl) (Z : qz_Z hd lv d p h mp mL D (c :: l)) (hmL : c = 0 → mp + 1 ≤ mL) (c0 : c = 0) (ho : oo x = 13) (ha : oa x = nI 2) (hb : ob x = nI b) (b8 : b < 8) {g : Nat} (hc : oc x = nI g) (g8 : g < 8) {j : Nat} (j1 : 1 ≤ j) (j2 : j ≤ 62) (hj : rg b = nI j) (dj : D j) (hB : B ≤ 320) :
    ∃ u' : St2, qz_R mc cl oo oa ob oc (B + 1) (qz_mp c mp) mL D u' ∧ qz_v13 u' ∧ ∀ P : Int32 → St2 → Prop, P 1 u' → wpX_run P (nI mc, nI md, nI cl, nI lc, 1, 0, nI c, nI h, 0, re, oo, oa, ob, oc, lg, (fun zz => nI (hd zz)), (fun zz => nI (s zz)), (fun zz => nI (rs zz)), (fun zz => nI (bd zz)), (fun zz => nI (d zz)), (fun zz => nI (p zz)), (fun zz => nI (n zz)), rg, tg) 1 := by
  have c5 : c < 5 := I.2.2.1 c List.mem_cons_self
  obtain ⟨h1, hdm, hs1, hlv, hth⟩ := I.2.2.2.2.1
  have hm : md ≤ 6 := K.2.1.2
  have h6 : d c ≤ 6 := by omega
  have h64 : cl ≤ 64 := K.2.2.1
  have hl : lc ≤ 64 := K.2.2.2.1
  have hq : q (c * 6 + d c - 1) = x := (qc_qtop h1 hth).1.trans hp
  have hf : (c * 6 + d c - 1) < 30 := by omega
  have f0 : (c * 6 + d c - 1) = 0 := by have := (Z.2.2 (by simp)).1; rw [c0, this]
  have eB : nI ((c * 6 + d c - 1) * 8) + nI b = nI ((c * 6 + d c - 1) * 8 + b) := nI_add _ _
  have eC : nI ((c * 6 + d c - 1) * 8) + nI g = nI ((c * 6 + d c - 1) * 8 + g) := nI_add _ _
  have I1 := qc_tr_pc (x := x + 1) hm I (by omega)
  have hbb : rg ((c * 6 + d c - 1) * 8 + b) = nI j := by
    rw [f0, Nat.zero_mul, Nat.zero_add]; exact hj
  have a8 : 2 < 8 := by omega
  refine ⟨(nI mc, nI md, nI cl, nI lc, 1, 0, nI c, nI h, 0, re, oo, oa, ob, oc, lg, (fun zz => nI (hd zz)), (fun zz => nI (s zz)), (fun zz => nI (rs zz)), (fun zz => nI (bd zz)), (fun zz => nI (d zz)), (fun zz => nI ((qc_u p (c * 6 + d c - 1) (x + 1)) zz)), (fun zz => nI (n zz)), (upd (upd rg 2 (-1)) 3 0), tg), qz_Rmk (qc_K_up K) I1 (qz_Za Z (fun _ w => w) (fun _ => ⟨hmL, rfl, qz_p0 Z h1 hp⟩)), ⟨rfl, by rw [c0]; rfl, ?_, ?_⟩, fun P hP => ?_⟩
  · show upd (upd rg 2 (-1)) 3 0 2 = -1
    rw [pk_un (by omega), pk_us]
  · show upd (upd rg 2 (-1)) 3 0 3 = 0
    rw [pk_us]
  have st : ∀ Q : St2 → Prop, Q (nI mc, nI md, nI cl, nI lc, 1, 0, nI c, nI h, 0, re, oo, oa, ob, oc, lg, (fun zz => nI (hd zz)), (fun zz => nI (s zz)), (fun zz => nI (rs zz)), (fun zz => nI (bd zz)), (fun zz => nI (d zz)), (fun zz => nI ((qc_u p (c * 6 + d c - 1) (x + 1)) zz)), (fun zz => nI (n zz)), (upd (upd rg 2 (-1)) 3 0), tg) → wpX_step Q (nI mc, nI md, nI cl, nI lc, 1, 0, nI c, nI h, 0, re, oo, oa, ob, oc, lg, (fun zz => nI (hd zz)), (fun zz => nI (s zz)), (fun zz => nI (rs zz)), (fun zz => nI (bd zz)), (fun zz => nI (d zz)), (fun zz => nI (p zz)), (fun zz => nI (n zz)), rg, tg) := by
    intro P hP
    unfold wpX_step; refine qc_xtf _ c5 h1 ?_; refine ⟨vp_in_nI (by omega) (by decide), nm_r ((qc_rd p rfl (by omega)).trans (congrArg nI hp)) (br_t (nI_lt hx (by omega)) (nm_r (qc_m8 _) ⟨vp_in_nI (by omega) (by decide), nm_r ((qc_rr rfl (by omega)).trans ha) ⟨vp_in_nI (by omega) (by decide), nm_r ((qc_rr rfl (by omega)).trans hb) ⟨vp_in_nI (by omega) (by decide), nm_r ((qc_rr rfl (by omega)).trans hc) ⟨vp_in_nI (by omega) (by decide), nm_r (qc_st rfl (nI_1 x) (by omega)) ⟨vp_in_nI (by omega) (by decide), nm_r ((qc_rr rfl (by omega)).trans ho) (br_f (by decide) (br_f (by decide) (br_f (by decide) (br_f (by decide) (br_f (by decide) (br_f (by decide) (br_f (by decide) (br_f (by decide) (br_f (by decide) (br_f (by decide) (br_f (by decide) (br_f (by decide) (br_f (by decide) (br_f (by decide) (br_f (by decide) (br_t rfl ?_))))))))))))))))⟩⟩⟩⟩⟩))⟩
    refine ⟨qc_vi eB (by omega) (by decide), qc_vi eC (by omega) (by decide), ?_⟩
    rw [qc_rr (f := rg) eB (by omega), qc_rr (f := rg) eC (by omega), hbb]
    unfold wpX_resumeHandle
    rcases qz_thE (mc := mc) (md := md) (cl := cl) (lc := lc) (cu := c) (st := 1) (rt := 0) (lh := nI h) (rd := 0) (re := re) (oo := oo) (oa := oa) (ob := ob) (oc := oc) (lg := lg) (rg := rg) (tg := tg) (hd := hd) (d := d) (rs := rs) (bd := bd) (n := n) (p := qc_u p (c * 6 + d c - 1) (x + 1)) (fun t => qc_al I) (nI j) with ⟨t, t5, hg, hA, hE, hX⟩ | ⟨hg, hno, hX⟩
    · have t0 : t ≠ 0 := fun z => nI_ne0 (by omega) (by omega) (hg.mp z)
      have lt := (hA t0).1
      have bd := (Z.1.2.1 t t0 t5 lt).2
      have hh : h ≤ B := K.2.2.2.2.1
      exact absurd ((nI_eq (by omega) (by omega)).mp (hE t0)) ((Z.2.1 j dj).2 t t0 t5 lt)
    · refine hX _ (br_t rfl ?_)
      refine qc_xc13 _ c5 h1 (by omega) (qc_us _ _ _) (by omega) (by omega) ha a8 ho _ _ 0 (fun _ => rfl) (fun z => absurd rfl z) ?_
      have e2 : (c * 6 + d c - 1) * 8 + 2 = 2 := by rw [f0]
      have e3 : (c * 6 + d c - 1) * 8 + (2 + 1) % 8 = 3 := by rw [f0]
      rw [qc_ue hs1, e2, e3]
      exact hP
  unfold wpX_run
  exact br_t (by decide) (br_t (by decide) ⟨2, br_f (by decide) (br_t rfl (st _ (br_t rfl (nm_r (e' := 1) rfl (br_t (by decide) hP)))))⟩)
theorem qz_pr14 (K : qc_K mc md cl lc h B oo oa ob oc lv bd) (I : qc_I mc md oo oa ob d s lv rs yr p q n m (c :: l)) (hp : p (c * 6 + d c - 1) = x) (hx : x < cl) (Z : qz_Z hd lv d p h mp mL D (c :: l)) (hmL : c = 0 → mp + 1 ≤ mL) (c0 : c = 0) (ho : oo x = 14) (ha : oa x = nI 2) (hb : ob x = nI b) (b8 : b < 8) {g : Nat} (hc : oc x = nI g) (g8 : g < 8) {j : Nat} (j1 : 1 ≤ j) (j2 : j ≤ 62) (hj : rg b = nI j) (dj : D j) (hB : B ≤ 320) :
    ∃ u' : St2, qz_R mc cl oo oa ob oc (B + 1) (qz_mp c mp) mL D u' ∧ qz_v14 u' ∧ ∀ P : Int32 → St2 → Prop, P 1 u' → wpX_run P (nI mc, nI md, nI cl, nI lc, 1, 0, nI c, nI h, 0, re, oo, oa, ob, oc, lg, (fun zz => nI (hd zz)), (fun zz => nI (s zz)), (fun zz => nI (rs zz)), (fun zz => nI (bd zz)), (fun zz => nI (d zz)), (fun zz => nI (p zz)), (fun zz => nI (n zz)), rg, tg) 1 := by
  have c5 : c < 5 := I.2.2.1 c List.mem_cons_self
  obtain ⟨h1, hdm, hs1, hlv, hth⟩ := I.2.2.2.2.1
  have hm : md ≤ 6 := K.2.1.2
  have h6 : d c ≤ 6 := by omega
  have h64 : cl ≤ 64 := K.2.2.1
  have hl : lc ≤ 64 := K.2.2.2.1
  have hq : q (c * 6 + d c - 1) = x := (qc_qtop h1 hth).1.trans hp
  have hf : (c * 6 + d c - 1) < 30 := by omega
  have f0 : (c * 6 + d c - 1) = 0 := by have := (Z.2.2 (by simp)).1; rw [c0, this]
  have eB : nI ((c * 6 + d c - 1) * 8) + nI b = nI ((c * 6 + d c - 1) * 8 + b) := nI_add _ _
  have eC : nI ((c * 6 + d c - 1) * 8) + nI g = nI ((c * 6 + d c - 1) * 8 + g) := nI_add _ _
  have I1 := qc_tr_pc (x := x + 1) hm I (by omega)
  have hbb : rg ((c * 6 + d c - 1) * 8 + b) = nI j := by
    rw [f0, Nat.zero_mul, Nat.zero_add]; exact hj
  have Z1 : qz_Z hd lv d (qc_u p (c * 6 + d c - 1) (x + 1)) h (qz_mp c mp) mL D (c :: l) := qz_Za Z (fun _ w => w) (fun _ => ⟨hmL, rfl, qz_p0 Z h1 hp⟩)
  have st : ∀ Q : St2 → Prop, Q (nI mc, nI md, nI cl, nI lc, 1, 0, nI c, nI h, 1, (-1), oo, oa, ob, oc, lg, (fun zz => nI (hd zz)), (fun zz => nI (s zz)), (fun zz => nI (rs zz)), (fun zz => nI (bd zz)), (fun zz => nI (d zz)), (fun zz => nI ((qc_u p (c * 6 + d c - 1) (x + 1)) zz)), (fun zz => nI (n zz)), rg, tg) → wpX_step Q (nI mc, nI md, nI cl, nI lc, 1, 0, nI c, nI h, 0, re, oo, oa, ob, oc, lg, (fun zz => nI (hd zz)), (fun zz => nI (s zz)), (fun zz => nI (rs zz)), (fun zz => nI (bd zz)), (fun zz => nI (d zz)), (fun zz => nI (p zz)), (fun zz => nI (n zz)), rg, tg) := by
    intro P hP
    unfold wpX_step; refine qc_xtf _ c5 h1 ?_; refine ⟨vp_in_nI (by omega) (by decide), nm_r ((qc_rd p rfl (by omega)).trans (congrArg nI hp)) (br_t (nI_lt hx (by omega)) (nm_r (qc_m8 _) ⟨vp_in_nI (by omega) (by decide), nm_r ((qc_rr rfl (by omega)).trans ha) ⟨vp_in_nI (by omega) (by decide), nm_r ((qc_rr rfl (by omega)).trans hb) ⟨vp_in_nI (by omega) (by decide), nm_r ((qc_rr rfl (by omega)).trans hc) ⟨vp_in_nI (by omega) (by decide), nm_r (qc_st rfl (nI_1 x) (by omega)) ⟨vp_in_nI (by omega) (by decide), nm_r ((qc_rr rfl (by omega)).trans ho) (br_f (by decide) (br_f (by decide) (br_f (by decide) (br_f (by decide) (br_f (by decide) (br_f (by decide) (br_f (by decide) (br_f (by decide) (br_f (by decide) (br_f (by decide) (br_f (by decide) (br_f (by decide) (br_f (by decide) (br_f (by decide) (br_f (by decide) (br_f (by decide) (br_t rfl ?_)))))))))))))))))⟩⟩⟩⟩⟩))⟩
    refine ⟨qc_vi eB (by omega) (by decide), qc_vi eC (by omega) (by decide), ?_⟩
    rw [qc_rr (f := rg) eB (by omega), qc_rr (f := rg) eC (by omega), hbb]
    unfold wpX_resumeHandle
    rcases qz_thE (mc := mc) (md := md) (cl := cl) (lc := lc) (cu := c) (st := 1) (rt := 0) (lh := nI h) (rd := 0) (re := re) (oo := oo) (oa := oa) (ob := ob) (oc := oc) (lg := lg) (rg := rg) (tg := tg) (hd := hd) (d := d) (rs := rs) (bd := bd) (n := n) (p := qc_u p (c * 6 + d c - 1) (x + 1)) (fun t => qc_al I) (nI j) with ⟨t, t5, hg, hA, hE, hX⟩ | ⟨hg, hno, hX⟩
    · have t0 : t ≠ 0 := fun z => nI_ne0 (by omega) (by omega) (hg.mp z)
      have lt := (hA t0).1
      have bd := (Z.1.2.1 t t0 t5 lt).2
      have hh : h ≤ B := K.2.2.2.2.1
      exact absurd ((nI_eq (by omega) (by omega)).mp (hE t0)) ((Z.2.1 j dj).2 t t0 t5 lt)
    · refine hX _ (br_t rfl ?_)
      refine qc_xcr _ c5 h1 (by omega) (qc_us _ _ _) (by omega) (by omega) ho _ ?_
      rw [qc_ue hs1]
      exact hP
  have l0 : l = [] := by
    have := I.1
    rw [c0] at this
    exact qc_Lk_2 this
  subst c0 l0
  obtain ⟨R, W⟩ := qz_settle0 (e := -1) (lg := lg) (rg := rg) (tg := tg) (qc_K_up K) (qc_J_of I1) Z1
  refine ⟨_, R, ⟨rfl, rfl⟩, fun P hP => ?_⟩
  unfold wpX_run
  exact br_t (by decide) (br_t (by decide) ⟨2, br_f (by decide) (br_t rfl (st _ (br_f (by decide) (W _ (nm_r (e' := 1) rfl (br_t (by decide) hP))))))⟩)
theorem qz_379 {L' : Nat} {xs : Nat → Int32} {J : Int64 → Int32 → Int32 → Int32 → Int32 → Int32 → Int32 → Int32 → Int32 → Int32 → Int32 → Int32 → Int32 → (Nat → Int32) → (Nat → Int32) → (Nat → Int32) → (Nat → Int32) → (Nat → Int32) → (Nat → Int32) → (Nat → Int32) → (Nat → Int32) → (Nat → Int32) → (Nat → Int32) → (Nat → Int32) → (Nat → Int32) → (Nat → Int32) → (Nat → Int32) → Prop} {x10 x13 x14 : Int32} {kc ks j : Nat} {w : Int64} (K : qc_K mc md cl lc h B oo oa ob oc lv bd) (hB : B ≤ 320) (C : ∀ c l, L = c :: l → cu = c) (S : qc_S st rt L) (I : qc_I mc md oo oa ob d s lv rs yr p q n m L) (Z : qz_Z hd lv d p h mp mL (qz_D w) L) (b0 : w.toBitVec.getLsbD 0 = false)
    (hv : x13 = 0 ∨ (x14 = 2 ∧ st = 3 ∧ rt = -1) ∨ (¬ x14 = 2 ∧ st = 1 ∧ nI cu = 0 ∧ rg 2 = -1 ∧ rg 3 = 0))
    (H : ∀ w' : Int64, w'.toBitVec.getLsbD 0 = false → qz_Z hd lv d p h mp mL (qz_D w') L → J w' x10 (nI (j + 1)) (nI mc) (nI md) (nI cl) (nI lc) st rt (nI cu) (nI h) 0 re oo oa ob oc lg (fun zz => nI (hd zz)) (fun zz => nI (s zz)) (fun zz => nI (rs zz)) (fun zz => nI (bd zz)) (fun zz => nI (d zz)) (fun zz => nI (p zz)) (fun zz => nI (n zz)) rg tg) :
    wL_law_379 (fun r => r = 1) L' xs J (nI mc) w (nI mL) x10 (nI j) x13 x14 kc ks (nI mc) (nI md) (nI cl) (nI lc) st rt (nI cu) (nI h) 0 re oo oa ob oc lg (fun zz => nI (hd zz)) (fun zz => nI (s zz)) (fun zz => nI (rs zz)) (fun zz => nI (bd zz)) (fun zz => nI (d zz)) (fun zz => nI (p zz)) (fun zz => nI (n zz)) rg tg := by
  unfold wL_law_379
  refine qz_chk _ K hB I Z b0 (fun w' b' Z' => br_t ((qz_b0 w').mpr b') ?_)
  have N := H w' b' Z'
  rcases hv with hv | ⟨h14, hs, hr⟩ | ⟨h14, hs, hc, r2, r3⟩
  · exact br_t hv (nm_r (nI_1 j) N)
  · by_cases z : x13 = 0
    · exact br_t z (nm_r (nI_1 j) N)
    · exact br_f z (br_t h14 (br_t hs (br_t hr (nm_r (nI_1 j) N))))
  · by_cases z : x13 = 0
    · exact br_t z (nm_r (nI_1 j) N)
    · have hL : L ≠ [] := by
        rcases S with S | S | S
        · exact S.2.2
        · rw [hs] at S; exact absurd S.1 (by decide)
        · rw [hs] at S; rcases S.1 with e | e <;> exact absurd e (by decide)
      have d1 := (Z.2.2 hL).1
      refine br_f z (br_f h14 (br_t hs (br_t hs ⟨?_, br_t ?_ (qz_gr (r := 2) _ (by omega) d1 (br_t r2 (qz_gr (r := 3) _ (by omega) d1 (br_t r3 (nm_r (nI_1 j) N)))))⟩)))
      · rw [hc]; exact vp_in_nI (n := 0) (by decide) (by decide)
      · rw [hc]
        show nI (hd 0) = 0
        rw [Z.1.1]
        rfl
end
