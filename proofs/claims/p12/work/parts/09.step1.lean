def qz_Out (mc cl : Nat) (oo oa ob oc : Nat → Int32) (B mp mL : Nat) (D : Nat → Prop) (u : St2) : Prop :=
  (∃ u' : St2, qz_R mc cl oo oa ob oc (B + 1) mp mL D u' ∧ (∀ P : St2 → Prop, P u' → wpX_step P u)) ∨
  (∃ (u' : St2) (c : Nat) (e : Int32), qz_Q mc cl oo oa ob oc (B + 1) mp mL D u' c e ∧ (∀ P : St2 → Prop, P u' → wpX_step P u))
section
variable {mc md cl lc cu h B mp mL : Nat} {st rt lh rd re : Int32} {D : Nat → Prop} {oo oa ob oc lg rg tg : Nat → Int32} {hd d s lv rs bd yr p q n m : Nat → Nat} {c r t x a b : Nat} {l L : List Nat}
theorem qc_qtop {dt : Nat} (h1 : 0 < dt) (h : qc_Th oa p q n m t dt) : q (t * 6 + dt - 1) = p (t * 6 + dt - 1) ∧ m (t * 6 + dt - 1) = n (t * 6 + dt - 1) ∧ n (t * 6 + dt - 1) ≤ 4 := by
  have e : t * 6 + (dt - 1) = t * 6 + dt - 1 := by omega
  have := h (dt - 1) (by omega)
  rw [e] at this
  exact ⟨this.1, this.2.2.1, this.2.2.2.1⟩
theorem qz_Rmk (K : qc_K mc md cl lc h B oo oa ob oc lv bd) (I : qc_I mc md oo oa ob d s lv rs yr p q n m (c :: l)) (Z : qz_Z hd lv d p h mp mL D (c :: l)) :
    qz_R mc cl oo oa ob oc B mp mL D (nI mc, nI md, nI cl, nI lc, 1, 0, nI c, nI h, 0, re, oo, oa, ob, oc, lg, (fun zz => nI (hd zz)), (fun zz => nI (s zz)), (fun zz => nI (rs zz)), (fun zz => nI (bd zz)), (fun zz => nI (d zz)), (fun zz => nI (p zz)), (fun zz => nI (n zz)), rg, tg) :=
  ⟨_, _, _, _, _, _, _, _, _, _, _, _, _, _, _, _, _, _, _, _, _, c :: l, rfl, K, .inl ⟨rfl, rfl, by simp⟩, ⟨fun c l z => (by cases z; rfl), fun z => absurd z (by decide)⟩, I, Z⟩
theorem qz_Qmk {e : Int32} (K : qc_K mc md cl lc h B oo oa ob oc lv bd) (J : qc_J mc md oo oa ob d s lv rs yr p q n m (c :: l)) (Z : qz_Z hd lv d p h mp mL D (c :: l)) :
    qz_Q mc cl oo oa ob oc B mp mL D (nI mc, nI md, nI cl, nI lc, 1, 0, nI c, nI h, 1, e, oo, oa, ob, oc, lg, (fun zz => nI (hd zz)), (fun zz => nI (s zz)), (fun zz => nI (rs zz)), (fun zz => nI (bd zz)), (fun zz => nI (d zz)), (fun zz => nI (p zz)), (fun zz => nI (n zz)), rg, tg) c e :=
  ⟨_, _, _, _, _, _, _, _, _, _, _, _, _, _, _, _, _, l, rfl, K, J, Z⟩
theorem qc_K_up (K : qc_K mc md cl lc h B oo oa ob oc lv bd) : qc_K mc md cl lc h (B + 1) oo oa ob oc lv bd :=
  ⟨K.1, K.2.1, K.2.2.1, K.2.2.2.1, by have := K.2.2.2.2.1; omega, K.2.2.2.2.2.1, K.2.2.2.2.2.2.1, K.2.2.2.2.2.2.2⟩
theorem qc_bad (K : qc_K mc md cl lc h B oo oa ob oc lv bd) (I : qc_I mc md oo oa ob d s lv rs yr p q n m (c :: l)) (hp : p (c * 6 + d c - 1) = x) (hx : cl ≤ x) (Z : qz_Z hd lv d p h mp mL D (c :: l)) (c0 : c ≠ 0) : qz_Out mc cl oo oa ob oc B (qz_mp c mp) mL D (nI mc, nI md, nI cl, nI lc, 1, 0, nI c, nI h, 0, re, oo, oa, ob, oc, lg, (fun zz => nI (hd zz)), (fun zz => nI (s zz)), (fun zz => nI (rs zz)), (fun zz => nI (bd zz)), (fun zz => nI (d zz)), (fun zz => nI (p zz)), (fun zz => nI (n zz)), rg, tg) := by
  have c5 : c < 5 := I.2.2.1 c List.mem_cons_self
  obtain ⟨h1, hdm, hs1, hlv, hth⟩ := I.2.2.2.2.1
  have hm : md ≤ 6 := K.2.1.2
  have h6 : d c ≤ 6 := by omega
  have h64 : cl ≤ 64 := K.2.2.1
  have hl : lc ≤ 64 := K.2.2.2.1
  have hq : q (c * 6 + d c - 1) = x := (qc_qtop h1 hth).1.trans hp
  have hf : (c * 6 + d c - 1) < 30 := by omega
  have hmL : c = 0 → mp + 1 ≤ mL := fun z => absurd z c0
  have x64 : x ≤ 64 := by
    have e : c * 6 + (d c - 1) = (c * 6 + d c - 1) := by omega
    have := (hth (d c - 1) (by omega)).2.1
    rw [e, hp] at this
    exact this
  refine .inr ⟨(nI mc, nI md, nI cl, nI lc, 1, 0, nI c, nI h, 1, (-7), oo, oa, ob, oc, lg, (fun zz => nI (hd zz)), (fun zz => nI (s zz)), (fun zz => nI (rs zz)), (fun zz => nI (bd zz)), (fun zz => nI (d zz)), (fun zz => nI (p zz)), (fun zz => nI (n zz)), rg, tg), c, -7, qz_Qmk (qc_K_up K) (qc_J_of I) (qz_Za Z (fun _ w => w) (fun _ => ⟨hmL, rfl, by unfold qz_mp; rw [if_neg c0]⟩)), fun P hP => ?_⟩
  · unfold wpX_step
    refine qc_xtf _ c5 h1 ?_
    exact ⟨vp_in_nI (by omega) (by decide), nm_r ((qc_rd p rfl (by omega)).trans (congrArg nI hp)) (br_f (nI_nlt hx (by omega)) hP)⟩
theorem qc_o0 (K : qc_K mc md cl lc h B oo oa ob oc lv bd) (I : qc_I mc md oo oa ob d s lv rs yr p q n m (c :: l)) (hp : p (c * 6 + d c - 1) = x) (hx : x < cl) (Z : qz_Z hd lv d p h mp mL D (c :: l)) (hmL : c = 0 → mp + 1 ≤ mL) (ho : oo x = 0) (ha : oa x = nI a) (a8 : a < 8) : qz_Out mc cl oo oa ob oc B (qz_mp c mp) mL D (nI mc, nI md, nI cl, nI lc, 1, 0, nI c, nI h, 0, re, oo, oa, ob, oc, lg, (fun zz => nI (hd zz)), (fun zz => nI (s zz)), (fun zz => nI (rs zz)), (fun zz => nI (bd zz)), (fun zz => nI (d zz)), (fun zz => nI (p zz)), (fun zz => nI (n zz)), rg, tg) := by
  have c5 : c < 5 := I.2.2.1 c List.mem_cons_self
  obtain ⟨h1, hdm, hs1, hlv, hth⟩ := I.2.2.2.2.1
  have hm : md ≤ 6 := K.2.1.2
  have h6 : d c ≤ 6 := by omega
  have h64 : cl ≤ 64 := K.2.2.1
  have hl : lc ≤ 64 := K.2.2.2.1
  have hq : q (c * 6 + d c - 1) = x := (qc_qtop h1 hth).1.trans hp
  have hf : (c * 6 + d c - 1) < 30 := by omega
  have eA : nI ((c * 6 + d c - 1) * 8) + nI a = nI ((c * 6 + d c - 1) * 8 + a) := nI_add _ _
  refine .inl ⟨(nI mc, nI md, nI cl, nI lc, 1, 0, nI c, nI h, 0, re, oo, oa, ob, oc, lg, (fun zz => nI (hd zz)), (fun zz => nI (s zz)), (fun zz => nI (rs zz)), (fun zz => nI (bd zz)), (fun zz => nI (d zz)), (fun zz => nI ((qc_u p (c * 6 + d c - 1) (x + 1)) zz)), (fun zz => nI (n zz)), (upd rg ((c * 6 + d c - 1) * 8 + a) (ob x)), tg), qz_Rmk (qc_K_up K) (qc_tr_pc hm I (by omega)) (qz_Za Z (fun _ w => w) (fun _ => ⟨hmL, rfl, qz_p0 Z h1 hp⟩)), fun P hP => ?_⟩
  · unfold wpX_step; refine qc_xtf _ c5 h1 ?_; refine ⟨vp_in_nI (by omega) (by decide), nm_r ((qc_rd p rfl (by omega)).trans (congrArg nI hp)) (br_t (nI_lt hx (by omega)) (nm_r (qc_m8 _) ⟨vp_in_nI (by omega) (by decide), nm_r ((qc_rr rfl (by omega)).trans ha) ⟨vp_in_nI (by omega) (by decide), nm_r ((qc_rr rfl (by omega))) ⟨vp_in_nI (by omega) (by decide), nm_r ((qc_rr rfl (by omega))) ⟨vp_in_nI (by omega) (by decide), nm_r (qc_st rfl (nI_1 x) (by omega)) ⟨vp_in_nI (by omega) (by decide), nm_r ((qc_rr rfl (by omega)).trans ho) (br_f (by decide) (br_f (by decide) (br_t rfl ?_)))⟩⟩⟩⟩⟩))⟩
    exact ⟨qc_vi eA (by omega) (by decide), nm_r (qc_sr eA (by omega) rfl) hP⟩
theorem qc_o1 (K : qc_K mc md cl lc h B oo oa ob oc lv bd) (I : qc_I mc md oo oa ob d s lv rs yr p q n m (c :: l)) (hp : p (c * 6 + d c - 1) = x) (hx : x < cl) (Z : qz_Z hd lv d p h mp mL D (c :: l)) (hmL : c = 0 → mp + 1 ≤ mL) (ho : oo x = 1) (ha : oa x = nI a) (a8 : a < 8) (hb : ob x = nI b) (b8 : b < 8) : qz_Out mc cl oo oa ob oc B (qz_mp c mp) mL D (nI mc, nI md, nI cl, nI lc, 1, 0, nI c, nI h, 0, re, oo, oa, ob, oc, lg, (fun zz => nI (hd zz)), (fun zz => nI (s zz)), (fun zz => nI (rs zz)), (fun zz => nI (bd zz)), (fun zz => nI (d zz)), (fun zz => nI (p zz)), (fun zz => nI (n zz)), rg, tg) := by
  have c5 : c < 5 := I.2.2.1 c List.mem_cons_self
  obtain ⟨h1, hdm, hs1, hlv, hth⟩ := I.2.2.2.2.1
  have hm : md ≤ 6 := K.2.1.2
  have h6 : d c ≤ 6 := by omega
  have h64 : cl ≤ 64 := K.2.2.1
  have hl : lc ≤ 64 := K.2.2.2.1
  have hq : q (c * 6 + d c - 1) = x := (qc_qtop h1 hth).1.trans hp
  have hf : (c * 6 + d c - 1) < 30 := by omega
  have eA : nI ((c * 6 + d c - 1) * 8) + nI a = nI ((c * 6 + d c - 1) * 8 + a) := nI_add _ _
  have eB : nI ((c * 6 + d c - 1) * 8) + nI b = nI ((c * 6 + d c - 1) * 8 + b) := nI_add _ _
  refine .inl ⟨(nI mc, nI md, nI cl, nI lc, 1, 0, nI c, nI h, 0, re, oo, oa, ob, oc, lg, (fun zz => nI (hd zz)), (fun zz => nI (s zz)), (fun zz => nI (rs zz)), (fun zz => nI (bd zz)), (fun zz => nI (d zz)), (fun zz => nI ((qc_u p (c * 6 + d c - 1) (x + 1)) zz)), (fun zz => nI (n zz)), (upd rg ((c * 6 + d c - 1) * 8 + a) (rg ((c * 6 + d c - 1) * 8 + b))), tg), qz_Rmk (qc_K_up K) (qc_tr_pc hm I (by omega)) (qz_Za Z (fun _ w => w) (fun _ => ⟨hmL, rfl, qz_p0 Z h1 hp⟩)), fun P hP => ?_⟩
  · unfold wpX_step; refine qc_xtf _ c5 h1 ?_; refine ⟨vp_in_nI (by omega) (by decide), nm_r ((qc_rd p rfl (by omega)).trans (congrArg nI hp)) (br_t (nI_lt hx (by omega)) (nm_r (qc_m8 _) ⟨vp_in_nI (by omega) (by decide), nm_r ((qc_rr rfl (by omega)).trans ha) ⟨vp_in_nI (by omega) (by decide), nm_r ((qc_rr rfl (by omega)).trans hb) ⟨vp_in_nI (by omega) (by decide), nm_r ((qc_rr rfl (by omega))) ⟨vp_in_nI (by omega) (by decide), nm_r (qc_st rfl (nI_1 x) (by omega)) ⟨vp_in_nI (by omega) (by decide), nm_r ((qc_rr rfl (by omega)).trans ho) (br_f (by decide) (br_f (by decide) (br_f (by decide) (br_t rfl ?_))))⟩⟩⟩⟩⟩))⟩
    exact ⟨qc_vi eB (by omega) (by decide), qc_vi eA (by omega) (by decide), nm_r (qc_sr eA (by omega) (qc_rr eB (by omega))) hP⟩
theorem qc_o2 (K : qc_K mc md cl lc h B oo oa ob oc lv bd) (I : qc_I mc md oo oa ob d s lv rs yr p q n m (c :: l)) (hp : p (c * 6 + d c - 1) = x) (hx : x < cl) (Z : qz_Z hd lv d p h mp mL D (c :: l)) (c0 : c ≠ 0) (ho : oo x = 2) (ha : oa x = nI a) (a8 : a < 8) (hb : ob x = nI b) (b8 : b < 8) {g : Nat} (hc : oc x = nI g) (g8 : g < 8) : qz_Out mc cl oo oa ob oc B (qz_mp c mp) mL D (nI mc, nI md, nI cl, nI lc, 1, 0, nI c, nI h, 0, re, oo, oa, ob, oc, lg, (fun zz => nI (hd zz)), (fun zz => nI (s zz)), (fun zz => nI (rs zz)), (fun zz => nI (bd zz)), (fun zz => nI (d zz)), (fun zz => nI (p zz)), (fun zz => nI (n zz)), rg, tg) := by
  have c5 : c < 5 := I.2.2.1 c List.mem_cons_self
  obtain ⟨h1, hdm, hs1, hlv, hth⟩ := I.2.2.2.2.1
  have hm : md ≤ 6 := K.2.1.2
  have h6 : d c ≤ 6 := by omega
  have h64 : cl ≤ 64 := K.2.2.1
  have hl : lc ≤ 64 := K.2.2.2.1
  have hq : q (c * 6 + d c - 1) = x := (qc_qtop h1 hth).1.trans hp
  have hf : (c * 6 + d c - 1) < 30 := by omega
  have hmL : c = 0 → mp + 1 ≤ mL := fun z => absurd z c0
  have eA : nI ((c * 6 + d c - 1) * 8) + nI a = nI ((c * 6 + d c - 1) * 8 + a) := nI_add _ _
  have eB : nI ((c * 6 + d c - 1) * 8) + nI b = nI ((c * 6 + d c - 1) * 8 + b) := nI_add _ _
  have eC : nI ((c * 6 + d c - 1) * 8) + nI g = nI ((c * 6 + d c - 1) * 8 + g) := nI_add _ _
  have eV : rg (nI ((c * 6 + d c - 1) * 8) + nI b).toNatClampNeg + rg (nI ((c * 6 + d c - 1) * 8) + nI g).toNatClampNeg = rg ((c * 6 + d c - 1) * 8 + b) + rg ((c * 6 + d c - 1) * 8 + g) := by
    rw [qc_rr (f := rg) eB (by omega), qc_rr (f := rg) eC (by omega)]
  refine .inl ⟨(nI mc, nI md, nI cl, nI lc, 1, 0, nI c, nI h, 0, re, oo, oa, ob, oc, lg, (fun zz => nI (hd zz)), (fun zz => nI (s zz)), (fun zz => nI (rs zz)), (fun zz => nI (bd zz)), (fun zz => nI (d zz)), (fun zz => nI ((qc_u p (c * 6 + d c - 1) (x + 1)) zz)), (fun zz => nI (n zz)), (upd rg ((c * 6 + d c - 1) * 8 + a) (rg ((c * 6 + d c - 1) * 8 + b) + rg ((c * 6 + d c - 1) * 8 + g))), tg), qz_Rmk (qc_K_up K) (qc_tr_pc hm I (by omega)) (qz_Za Z (fun _ w => w) (fun _ => ⟨hmL, rfl, qz_p0 Z h1 hp⟩)), fun P hP => ?_⟩
  · unfold wpX_step; refine qc_xtf _ c5 h1 ?_; refine ⟨vp_in_nI (by omega) (by decide), nm_r ((qc_rd p rfl (by omega)).trans (congrArg nI hp)) (br_t (nI_lt hx (by omega)) (nm_r (qc_m8 _) ⟨vp_in_nI (by omega) (by decide), nm_r ((qc_rr rfl (by omega)).trans ha) ⟨vp_in_nI (by omega) (by decide), nm_r ((qc_rr rfl (by omega)).trans hb) ⟨vp_in_nI (by omega) (by decide), nm_r ((qc_rr rfl (by omega)).trans hc) ⟨vp_in_nI (by omega) (by decide), nm_r (qc_st rfl (nI_1 x) (by omega)) ⟨vp_in_nI (by omega) (by decide), nm_r ((qc_rr rfl (by omega)).trans ho) (br_f (by decide) (br_f (by decide) (br_f (by decide) (br_f (by decide) (br_t rfl ?_)))))⟩⟩⟩⟩⟩))⟩
    exact ⟨qc_vi eB (by omega) (by decide), qc_vi eC (by omega) (by decide), qc_vi eA (by omega) (by decide), nm_r (qc_sr eA (by omega) eV) hP⟩
theorem qc_o3 (K : qc_K mc md cl lc h B oo oa ob oc lv bd) (I : qc_I mc md oo oa ob d s lv rs yr p q n m (c :: l)) (hp : p (c * 6 + d c - 1) = x) (hx : x < cl) (Z : qz_Z hd lv d p h mp mL D (c :: l)) (c0 : c ≠ 0) (ho : oo x = 3) (ha : oa x = nI a) (a8 : a < 8) (hb : ob x = nI b) (b8 : b < 8) {g : Nat} (hc : oc x = nI g) (g8 : g < 8) : qz_Out mc cl oo oa ob oc B (qz_mp c mp) mL D (nI mc, nI md, nI cl, nI lc, 1, 0, nI c, nI h, 0, re, oo, oa, ob, oc, lg, (fun zz => nI (hd zz)), (fun zz => nI (s zz)), (fun zz => nI (rs zz)), (fun zz => nI (bd zz)), (fun zz => nI (d zz)), (fun zz => nI (p zz)), (fun zz => nI (n zz)), rg, tg) := by
  have c5 : c < 5 := I.2.2.1 c List.mem_cons_self
  obtain ⟨h1, hdm, hs1, hlv, hth⟩ := I.2.2.2.2.1
  have hm : md ≤ 6 := K.2.1.2
  have h6 : d c ≤ 6 := by omega
  have h64 : cl ≤ 64 := K.2.2.1
  have hl : lc ≤ 64 := K.2.2.2.1
  have hq : q (c * 6 + d c - 1) = x := (qc_qtop h1 hth).1.trans hp
  have hf : (c * 6 + d c - 1) < 30 := by omega
  have hmL : c = 0 → mp + 1 ≤ mL := fun z => absurd z c0
  have eA : nI ((c * 6 + d c - 1) * 8) + nI a = nI ((c * 6 + d c - 1) * 8 + a) := nI_add _ _
  have eB : nI ((c * 6 + d c - 1) * 8) + nI b = nI ((c * 6 + d c - 1) * 8 + b) := nI_add _ _
  have eC : nI ((c * 6 + d c - 1) * 8) + nI g = nI ((c * 6 + d c - 1) * 8 + g) := nI_add _ _
  have eV : rg (nI ((c * 6 + d c - 1) * 8) + nI b).toNatClampNeg - rg (nI ((c * 6 + d c - 1) * 8) + nI g).toNatClampNeg = rg ((c * 6 + d c - 1) * 8 + b) - rg ((c * 6 + d c - 1) * 8 + g) := by
    rw [qc_rr (f := rg) eB (by omega), qc_rr (f := rg) eC (by omega)]
  refine .inl ⟨(nI mc, nI md, nI cl, nI lc, 1, 0, nI c, nI h, 0, re, oo, oa, ob, oc, lg, (fun zz => nI (hd zz)), (fun zz => nI (s zz)), (fun zz => nI (rs zz)), (fun zz => nI (bd zz)), (fun zz => nI (d zz)), (fun zz => nI ((qc_u p (c * 6 + d c - 1) (x + 1)) zz)), (fun zz => nI (n zz)), (upd rg ((c * 6 + d c - 1) * 8 + a) (rg ((c * 6 + d c - 1) * 8 + b) - rg ((c * 6 + d c - 1) * 8 + g))), tg), qz_Rmk (qc_K_up K) (qc_tr_pc hm I (by omega)) (qz_Za Z (fun _ w => w) (fun _ => ⟨hmL, rfl, qz_p0 Z h1 hp⟩)), fun P hP => ?_⟩
  · unfold wpX_step; refine qc_xtf _ c5 h1 ?_; refine ⟨vp_in_nI (by omega) (by decide), nm_r ((qc_rd p rfl (by omega)).trans (congrArg nI hp)) (br_t (nI_lt hx (by omega)) (nm_r (qc_m8 _) ⟨vp_in_nI (by omega) (by decide), nm_r ((qc_rr rfl (by omega)).trans ha) ⟨vp_in_nI (by omega) (by decide), nm_r ((qc_rr rfl (by omega)).trans hb) ⟨vp_in_nI (by omega) (by decide), nm_r ((qc_rr rfl (by omega)).trans hc) ⟨vp_in_nI (by omega) (by decide), nm_r (qc_st rfl (nI_1 x) (by omega)) ⟨vp_in_nI (by omega) (by decide), nm_r ((qc_rr rfl (by omega)).trans ho) (br_f (by decide) (br_f (by decide) (br_f (by decide) (br_f (by decide) (br_f (by decide) (br_t rfl ?_))))))⟩⟩⟩⟩⟩))⟩
    exact ⟨qc_vi eB (by omega) (by decide), qc_vi eC (by omega) (by decide), qc_vi eA (by omega) (by decide), nm_r (qc_sr eA (by omega) eV) hP⟩
theorem qc_o4 (K : qc_K mc md cl lc h B oo oa ob oc lv bd) (I : qc_I mc md oo oa ob d s lv rs yr p q n m (c :: l)) (hp : p (c * 6 + d c - 1) = x) (hx : x < cl) (Z : qz_Z hd lv d p h mp mL D (c :: l)) (c0 : c ≠ 0) (ho : oo x = 4) (ha : oa x = nI a) (a8 : a < 8) (hb : ob x = nI b) (b8 : b < 8) {g : Nat} (hc : oc x = nI g) (g8 : g < 8) : qz_Out mc cl oo oa ob oc B (qz_mp c mp) mL D (nI mc, nI md, nI cl, nI lc, 1, 0, nI c, nI h, 0, re, oo, oa, ob, oc, lg, (fun zz => nI (hd zz)), (fun zz => nI (s zz)), (fun zz => nI (rs zz)), (fun zz => nI (bd zz)), (fun zz => nI (d zz)), (fun zz => nI (p zz)), (fun zz => nI (n zz)), rg, tg) := by
  have c5 : c < 5 := I.2.2.1 c List.mem_cons_self
  obtain ⟨h1, hdm, hs1, hlv, hth⟩ := I.2.2.2.2.1
  have hm : md ≤ 6 := K.2.1.2
  have h6 : d c ≤ 6 := by omega
  have h64 : cl ≤ 64 := K.2.2.1
  have hl : lc ≤ 64 := K.2.2.2.1
  have hq : q (c * 6 + d c - 1) = x := (qc_qtop h1 hth).1.trans hp
  have hf : (c * 6 + d c - 1) < 30 := by omega
  have hmL : c = 0 → mp + 1 ≤ mL := fun z => absurd z c0
  have eA : nI ((c * 6 + d c - 1) * 8) + nI a = nI ((c * 6 + d c - 1) * 8 + a) := nI_add _ _
  have eB : nI ((c * 6 + d c - 1) * 8) + nI b = nI ((c * 6 + d c - 1) * 8 + b) := nI_add _ _
  have eC : nI ((c * 6 + d c - 1) * 8) + nI g = nI ((c * 6 + d c - 1) * 8 + g) := nI_add _ _
  by_cases z : rg (nI ((c * 6 + d c - 1) * 8) + nI g).toNatClampNeg ≤ rg (nI ((c * 6 + d c - 1) * 8) + nI b).toNatClampNeg
  · refine .inl ⟨(nI mc, nI md, nI cl, nI lc, 1, 0, nI c, nI h, 0, re, oo, oa, ob, oc, lg, (fun zz => nI (hd zz)), (fun zz => nI (s zz)), (fun zz => nI (rs zz)), (fun zz => nI (bd zz)), (fun zz => nI (d zz)), (fun zz => nI ((qc_u p (c * 6 + d c - 1) (x + 1)) zz)), (fun zz => nI (n zz)), (upd rg ((c * 6 + d c - 1) * 8 + a) 0), tg), qz_Rmk (qc_K_up K) (qc_tr_pc hm I (by omega)) (qz_Za Z (fun _ w => w) (fun _ => ⟨hmL, rfl, qz_p0 Z h1 hp⟩)), fun P hP => ?_⟩
    · unfold wpX_step; refine qc_xtf _ c5 h1 ?_; refine ⟨vp_in_nI (by omega) (by decide), nm_r ((qc_rd p rfl (by omega)).trans (congrArg nI hp)) (br_t (nI_lt hx (by omega)) (nm_r (qc_m8 _) ⟨vp_in_nI (by omega) (by decide), nm_r ((qc_rr rfl (by omega)).trans ha) ⟨vp_in_nI (by omega) (by decide), nm_r ((qc_rr rfl (by omega)).trans hb) ⟨vp_in_nI (by omega) (by decide), nm_r ((qc_rr rfl (by omega)).trans hc) ⟨vp_in_nI (by omega) (by decide), nm_r (qc_st rfl (nI_1 x) (by omega)) ⟨vp_in_nI (by omega) (by decide), nm_r ((qc_rr rfl (by omega)).trans ho) (br_f (by decide) (br_f (by decide) (br_f (by decide) (br_f (by decide) (br_f (by decide) (br_f (by decide) (br_t rfl ?_)))))))⟩⟩⟩⟩⟩))⟩
      exact ⟨qc_vi eB (by omega) (by decide), qc_vi eC (by omega) (by decide), br_t z ⟨qc_vi eA (by omega) (by decide), nm_r (qc_sr eA (by omega) rfl) hP⟩⟩
  · refine .inl ⟨(nI mc, nI md, nI cl, nI lc, 1, 0, nI c, nI h, 0, re, oo, oa, ob, oc, lg, (fun zz => nI (hd zz)), (fun zz => nI (s zz)), (fun zz => nI (rs zz)), (fun zz => nI (bd zz)), (fun zz => nI (d zz)), (fun zz => nI ((qc_u p (c * 6 + d c - 1) (x + 1)) zz)), (fun zz => nI (n zz)), (upd rg ((c * 6 + d c - 1) * 8 + a) 1), tg), qz_Rmk (qc_K_up K) (qc_tr_pc hm I (by omega)) (qz_Za Z (fun _ w => w) (fun _ => ⟨hmL, rfl, qz_p0 Z h1 hp⟩)), fun P hP => ?_⟩
    · unfold wpX_step; refine qc_xtf _ c5 h1 ?_; refine ⟨vp_in_nI (by omega) (by decide), nm_r ((qc_rd p rfl (by omega)).trans (congrArg nI hp)) (br_t (nI_lt hx (by omega)) (nm_r (qc_m8 _) ⟨vp_in_nI (by omega) (by decide), nm_r ((qc_rr rfl (by omega)).trans ha) ⟨vp_in_nI (by omega) (by decide), nm_r ((qc_rr rfl (by omega)).trans hb) ⟨vp_in_nI (by omega) (by decide), nm_r ((qc_rr rfl (by omega)).trans hc) ⟨vp_in_nI (by omega) (by decide), nm_r (qc_st rfl (nI_1 x) (by omega)) ⟨vp_in_nI (by omega) (by decide), nm_r ((qc_rr rfl (by omega)).trans ho) (br_f (by decide) (br_f (by decide) (br_f (by decide) (br_f (by decide) (br_f (by decide) (br_f (by decide) (br_t rfl ?_)))))))⟩⟩⟩⟩⟩))⟩
      exact ⟨qc_vi eB (by omega) (by decide), qc_vi eC (by omega) (by decide), br_f z ⟨qc_vi eA (by omega) (by decide), nm_r (qc_sr eA (by omega) rfl) hP⟩⟩
theorem qc_o5 (K : qc_K mc md cl lc h B oo oa ob oc lv bd) (I : qc_I mc md oo oa ob d s lv rs yr p q n m (c :: l)) (hp : p (c * 6 + d c - 1) = x) (hx : x < cl) (Z : qz_Z hd lv d p h mp mL D (c :: l)) (c0 : c ≠ 0) (ho : oo x = 5) (ha : oa x = nI a) (a8 : a < 64) : qz_Out mc cl oo oa ob oc B (qz_mp c mp) mL D (nI mc, nI md, nI cl, nI lc, 1, 0, nI c, nI h, 0, re, oo, oa, ob, oc, lg, (fun zz => nI (hd zz)), (fun zz => nI (s zz)), (fun zz => nI (rs zz)), (fun zz => nI (bd zz)), (fun zz => nI (d zz)), (fun zz => nI (p zz)), (fun zz => nI (n zz)), rg, tg) := by
  have c5 : c < 5 := I.2.2.1 c List.mem_cons_self
  obtain ⟨h1, hdm, hs1, hlv, hth⟩ := I.2.2.2.2.1
  have hm : md ≤ 6 := K.2.1.2
  have h6 : d c ≤ 6 := by omega
  have h64 : cl ≤ 64 := K.2.2.1
  have hl : lc ≤ 64 := K.2.2.2.1
  have hq : q (c * 6 + d c - 1) = x := (qc_qtop h1 hth).1.trans hp
  have hf : (c * 6 + d c - 1) < 30 := by omega
  have hmL : c = 0 → mp + 1 ≤ mL := fun z => absurd z c0
  refine .inl ⟨(nI mc, nI md, nI cl, nI lc, 1, 0, nI c, nI h, 0, re, oo, oa, ob, oc, lg, (fun zz => nI (hd zz)), (fun zz => nI (s zz)), (fun zz => nI (rs zz)), (fun zz => nI (bd zz)), (fun zz => nI (d zz)), (fun zz => nI ((qc_u p (c * 6 + d c - 1) a) zz)), (fun zz => nI (n zz)), rg, tg), qz_Rmk (qc_K_up K) (qc_tr_pc hm I (by omega)) (qz_Za Z (fun _ w => w) (fun _ => ⟨hmL, rfl, qz_p1 c0 h1 _⟩)), fun P hP => ?_⟩
  · unfold wpX_step; refine qc_xtf _ c5 h1 ?_; refine ⟨vp_in_nI (by omega) (by decide), nm_r ((qc_rd p rfl (by omega)).trans (congrArg nI hp)) (br_t (nI_lt hx (by omega)) (nm_r (qc_m8 _) ⟨vp_in_nI (by omega) (by decide), nm_r ((qc_rr rfl (by omega)).trans ha) ⟨vp_in_nI (by omega) (by decide), nm_r ((qc_rr rfl (by omega))) ⟨vp_in_nI (by omega) (by decide), nm_r ((qc_rr rfl (by omega))) ⟨vp_in_nI (by omega) (by decide), nm_r (qc_st rfl (nI_1 x) (by omega)) ⟨vp_in_nI (by omega) (by decide), nm_r ((qc_rr rfl (by omega)).trans ho) (br_f (by decide) (br_f (by decide) (br_f (by decide) (br_f (by decide) (br_f (by decide) (br_f (by decide) (br_f (by decide) (br_t rfl ?_))))))))⟩⟩⟩⟩⟩))⟩
    exact ⟨vp_in_nI (by omega) (by decide), nm_r ((qc_st rfl rfl (by omega)).trans (by rw [qc_uu])) hP⟩
theorem qc_o6 (K : qc_K mc md cl lc h B oo oa ob oc lv bd) (I : qc_I mc md oo oa ob d s lv rs yr p q n m (c :: l)) (hp : p (c * 6 + d c - 1) = x) (hx : x < cl) (Z : qz_Z hd lv d p h mp mL D (c :: l)) (c0 : c ≠ 0) (ho : oo x = 6) (ha : oa x = nI a) (a8 : a < 8) (hb : ob x = nI b) (b6 : b < 64) : qz_Out mc cl oo oa ob oc B (qz_mp c mp) mL D (nI mc, nI md, nI cl, nI lc, 1, 0, nI c, nI h, 0, re, oo, oa, ob, oc, lg, (fun zz => nI (hd zz)), (fun zz => nI (s zz)), (fun zz => nI (rs zz)), (fun zz => nI (bd zz)), (fun zz => nI (d zz)), (fun zz => nI (p zz)), (fun zz => nI (n zz)), rg, tg) := by
  have c5 : c < 5 := I.2.2.1 c List.mem_cons_self
  obtain ⟨h1, hdm, hs1, hlv, hth⟩ := I.2.2.2.2.1
  have hm : md ≤ 6 := K.2.1.2
  have h6 : d c ≤ 6 := by omega
  have h64 : cl ≤ 64 := K.2.2.1
  have hl : lc ≤ 64 := K.2.2.2.1
  have hq : q (c * 6 + d c - 1) = x := (qc_qtop h1 hth).1.trans hp
  have hf : (c * 6 + d c - 1) < 30 := by omega
  have hmL : c = 0 → mp + 1 ≤ mL := fun z => absurd z c0
  have eA : nI ((c * 6 + d c - 1) * 8) + nI a = nI ((c * 6 + d c - 1) * 8 + a) := nI_add _ _
  by_cases z : rg (nI ((c * 6 + d c - 1) * 8) + nI a).toNatClampNeg = 0
  · refine .inl ⟨(nI mc, nI md, nI cl, nI lc, 1, 0, nI c, nI h, 0, re, oo, oa, ob, oc, lg, (fun zz => nI (hd zz)), (fun zz => nI (s zz)), (fun zz => nI (rs zz)), (fun zz => nI (bd zz)), (fun zz => nI (d zz)), (fun zz => nI ((qc_u p (c * 6 + d c - 1) b) zz)), (fun zz => nI (n zz)), rg, tg), qz_Rmk (qc_K_up K) (qc_tr_pc hm I (by omega)) (qz_Za Z (fun _ w => w) (fun _ => ⟨hmL, rfl, qz_p1 c0 h1 _⟩)), fun P hP => ?_⟩
    · unfold wpX_step; refine qc_xtf _ c5 h1 ?_; refine ⟨vp_in_nI (by omega) (by decide), nm_r ((qc_rd p rfl (by omega)).trans (congrArg nI hp)) (br_t (nI_lt hx (by omega)) (nm_r (qc_m8 _) ⟨vp_in_nI (by omega) (by decide), nm_r ((qc_rr rfl (by omega)).trans ha) ⟨vp_in_nI (by omega) (by decide), nm_r ((qc_rr rfl (by omega)).trans hb) ⟨vp_in_nI (by omega) (by decide), nm_r ((qc_rr rfl (by omega))) ⟨vp_in_nI (by omega) (by decide), nm_r (qc_st rfl (nI_1 x) (by omega)) ⟨vp_in_nI (by omega) (by decide), nm_r ((qc_rr rfl (by omega)).trans ho) (br_f (by decide) (br_f (by decide) (br_f (by decide) (br_f (by decide) (br_f (by decide) (br_f (by decide) (br_f (by decide) (br_f (by decide) (br_t rfl ?_)))))))))⟩⟩⟩⟩⟩))⟩
      exact ⟨qc_vi eA (by omega) (by decide), br_t z ⟨vp_in_nI (by omega) (by decide), nm_r ((qc_st rfl rfl (by omega)).trans (by rw [qc_uu])) hP⟩⟩
  · refine .inl ⟨(nI mc, nI md, nI cl, nI lc, 1, 0, nI c, nI h, 0, re, oo, oa, ob, oc, lg, (fun zz => nI (hd zz)), (fun zz => nI (s zz)), (fun zz => nI (rs zz)), (fun zz => nI (bd zz)), (fun zz => nI (d zz)), (fun zz => nI ((qc_u p (c * 6 + d c - 1) (x + 1)) zz)), (fun zz => nI (n zz)), rg, tg), qz_Rmk (qc_K_up K) (qc_tr_pc hm I (by omega)) (qz_Za Z (fun _ w => w) (fun _ => ⟨hmL, rfl, qz_p1 c0 h1 _⟩)), fun P hP => ?_⟩
    · unfold wpX_step; refine qc_xtf _ c5 h1 ?_; refine ⟨vp_in_nI (by omega) (by decide), nm_r ((qc_rd p rfl (by omega)).trans (congrArg nI hp)) (br_t (nI_lt hx (by omega)) (nm_r (qc_m8 _) ⟨vp_in_nI (by omega) (by decide), nm_r ((qc_rr rfl (by omega)).trans ha) ⟨vp_in_nI (by omega) (by decide), nm_r ((qc_rr rfl (by omega)).trans hb) ⟨vp_in_nI (by omega) (by decide), nm_r ((qc_rr rfl (by omega))) ⟨vp_in_nI (by omega) (by decide), nm_r (qc_st rfl (nI_1 x) (by omega)) ⟨vp_in_nI (by omega) (by decide), nm_r ((qc_rr rfl (by omega)).trans ho) (br_f (by decide) (br_f (by decide) (br_f (by decide) (br_f (by decide) (br_f (by decide) (br_f (by decide) (br_f (by decide) (br_f (by decide) (br_t rfl ?_)))))))))⟩⟩⟩⟩⟩))⟩
      exact ⟨qc_vi eA (by omega) (by decide), br_f z ⟨vp_in_nI (by omega) (by decide), nm_r ((qc_st rfl (nI_1 x) (by omega)).trans (by rw [qc_uu])) hP⟩⟩
theorem qc_o9 (K : qc_K mc md cl lc h B oo oa ob oc lv bd) (I : qc_I mc md oo oa ob d s lv rs yr p q n m (c :: l)) (hp : p (c * 6 + d c - 1) = x) (hx : x < cl) (Z : qz_Z hd lv d p h mp mL D (c :: l)) (c0 : c ≠ 0) (ho : oo x = 9) (ha : oa x = nI a) (a8 : a < 8) : qz_Out mc cl oo oa ob oc B (qz_mp c mp) mL D (nI mc, nI md, nI cl, nI lc, 1, 0, nI c, nI h, 0, re, oo, oa, ob, oc, lg, (fun zz => nI (hd zz)), (fun zz => nI (s zz)), (fun zz => nI (rs zz)), (fun zz => nI (bd zz)), (fun zz => nI (d zz)), (fun zz => nI (p zz)), (fun zz => nI (n zz)), rg, tg) := by
  have c5 : c < 5 := I.2.2.1 c List.mem_cons_self
  obtain ⟨h1, hdm, hs1, hlv, hth⟩ := I.2.2.2.2.1
  have hm : md ≤ 6 := K.2.1.2
  have h6 : d c ≤ 6 := by omega
  have h64 : cl ≤ 64 := K.2.2.1
  have hl : lc ≤ 64 := K.2.2.2.1
  have hq : q (c * 6 + d c - 1) = x := (qc_qtop h1 hth).1.trans hp
  have hf : (c * 6 + d c - 1) < 30 := by omega
  have hmL : c = 0 → mp + 1 ≤ mL := fun z => absurd z c0
  have eA : nI ((c * 6 + d c - 1) * 8) + nI a = nI ((c * 6 + d c - 1) * 8 + a) := nI_add _ _
  refine .inl ⟨(nI mc, nI md, nI cl, nI ((qc_ap (lg, lc) (rg ((c * 6 + d c - 1) * 8 + a))).2), 1, 0, nI c, nI h, 0, re, oo, oa, ob, oc, (qc_ap (lg, lc) (rg ((c * 6 + d c - 1) * 8 + a))).1, (fun zz => nI (hd zz)), (fun zz => nI (s zz)), (fun zz => nI (rs zz)), (fun zz => nI (bd zz)), (fun zz => nI (d zz)), (fun zz => nI ((qc_u p (c * 6 + d c - 1) (x + 1)) zz)), (fun zz => nI (n zz)), rg, tg), qz_Rmk (qc_K_c (qc_K_up K) (qc_ap_le hl) K.2.2.2.2.2.2.2) (qc_tr_pc hm I (by omega)) (qz_Za Z (fun _ w => w) (fun _ => ⟨hmL, rfl, qz_p0 Z h1 hp⟩)), fun P hP => ?_⟩
  · unfold wpX_step; refine qc_xtf _ c5 h1 ?_; refine ⟨vp_in_nI (by omega) (by decide), nm_r ((qc_rd p rfl (by omega)).trans (congrArg nI hp)) (br_t (nI_lt hx (by omega)) (nm_r (qc_m8 _) ⟨vp_in_nI (by omega) (by decide), nm_r ((qc_rr rfl (by omega)).trans ha) ⟨vp_in_nI (by omega) (by decide), nm_r ((qc_rr rfl (by omega))) ⟨vp_in_nI (by omega) (by decide), nm_r ((qc_rr rfl (by omega))) ⟨vp_in_nI (by omega) (by decide), nm_r (qc_st rfl (nI_1 x) (by omega)) ⟨vp_in_nI (by omega) (by decide), nm_r ((qc_rr rfl (by omega)).trans ho) (br_f (by decide) (br_f (by decide) (br_f (by decide) (br_f (by decide) (br_f (by decide) (br_f (by decide) (br_f (by decide) (br_f (by decide) (br_f (by decide) (br_f (by decide) (br_f (by decide) (br_t rfl ?_))))))))))))⟩⟩⟩⟩⟩))⟩
    exact ⟨qc_vi eA (by omega) (by decide), qc_xap _ (qc_rr eA (by omega)) hl hP⟩
theorem qc_o11 (K : qc_K mc md cl lc h B oo oa ob oc lv bd) (I : qc_I mc md oo oa ob d s lv rs yr p q n m (c :: l)) (hp : p (c * 6 + d c - 1) = x) (hx : x < cl) (Z : qz_Z hd lv d p h mp mL D (c :: l)) (c0 : c ≠ 0) (ho : oo x = 11) (ha : oa x = nI a) (a8 : a < 8) : qz_Out mc cl oo oa ob oc B (qz_mp c mp) mL D (nI mc, nI md, nI cl, nI lc, 1, 0, nI c, nI h, 0, re, oo, oa, ob, oc, lg, (fun zz => nI (hd zz)), (fun zz => nI (s zz)), (fun zz => nI (rs zz)), (fun zz => nI (bd zz)), (fun zz => nI (d zz)), (fun zz => nI (p zz)), (fun zz => nI (n zz)), rg, tg) := by
  have c5 : c < 5 := I.2.2.1 c List.mem_cons_self
  obtain ⟨h1, hdm, hs1, hlv, hth⟩ := I.2.2.2.2.1
  have hm : md ≤ 6 := K.2.1.2
  have h6 : d c ≤ 6 := by omega
  have h64 : cl ≤ 64 := K.2.2.1
  have hl : lc ≤ 64 := K.2.2.2.1
  have hq : q (c * 6 + d c - 1) = x := (qc_qtop h1 hth).1.trans hp
  have hf : (c * 6 + d c - 1) < 30 := by omega
  have hmL : c = 0 → mp + 1 ≤ mL := fun z => absurd z c0
  have eA : nI ((c * 6 + d c - 1) * 8) + nI a = nI ((c * 6 + d c - 1) * 8 + a) := nI_add _ _
  refine .inr ⟨(nI mc, nI md, nI cl, nI lc, 1, 0, nI c, nI h, 1, (rg ((c * 6 + d c - 1) * 8 + a)), oo, oa, ob, oc, lg, (fun zz => nI (hd zz)), (fun zz => nI (s zz)), (fun zz => nI (rs zz)), (fun zz => nI (bd zz)), (fun zz => nI (d zz)), (fun zz => nI ((qc_u p (c * 6 + d c - 1) (x + 1)) zz)), (fun zz => nI (n zz)), rg, tg), c, rg ((c * 6 + d c - 1) * 8 + a), qz_Qmk (qc_K_up K) (qc_tr_j hm I) (qz_Za Z (fun _ w => w) (fun _ => ⟨hmL, rfl, qz_p0 Z h1 hp⟩)), fun P hP => ?_⟩
  · unfold wpX_step; refine qc_xtf _ c5 h1 ?_; refine ⟨vp_in_nI (by omega) (by decide), nm_r ((qc_rd p rfl (by omega)).trans (congrArg nI hp)) (br_t (nI_lt hx (by omega)) (nm_r (qc_m8 _) ⟨vp_in_nI (by omega) (by decide), nm_r ((qc_rr rfl (by omega)).trans ha) ⟨vp_in_nI (by omega) (by decide), nm_r ((qc_rr rfl (by omega))) ⟨vp_in_nI (by omega) (by decide), nm_r ((qc_rr rfl (by omega))) ⟨vp_in_nI (by omega) (by decide), nm_r (qc_st rfl (nI_1 x) (by omega)) ⟨vp_in_nI (by omega) (by decide), nm_r ((qc_rr rfl (by omega)).trans ho) (br_f (by decide) (br_f (by decide) (br_f (by decide) (br_f (by decide) (br_f (by decide) (br_f (by decide) (br_f (by decide) (br_f (by decide) (br_f (by decide) (br_f (by decide) (br_f (by decide) (br_f (by decide) (br_f (by decide) (br_t rfl ?_))))))))))))))⟩⟩⟩⟩⟩))⟩
    refine ⟨qc_vi eA (by omega) (by decide), ?_⟩
    rw [qc_rr (f := rg) eA (by omega)]
    exact hP
theorem qc_o18 (K : qc_K mc md cl lc h B oo oa ob oc lv bd) (I : qc_I mc md oo oa ob d s lv rs yr p q n m (c :: l)) (hp : p (c * 6 + d c - 1) = x) (hx : x < cl) (Z : qz_Z hd lv d p h mp mL D (c :: l)) (c0 : c ≠ 0) (ho : oo x = 18) (ha : oa x = nI a) (a8 : a < 8) : qz_Out mc cl oo oa ob oc B (qz_mp c mp) mL D (nI mc, nI md, nI cl, nI lc, 1, 0, nI c, nI h, 0, re, oo, oa, ob, oc, lg, (fun zz => nI (hd zz)), (fun zz => nI (s zz)), (fun zz => nI (rs zz)), (fun zz => nI (bd zz)), (fun zz => nI (d zz)), (fun zz => nI (p zz)), (fun zz => nI (n zz)), rg, tg) := by
  have c5 : c < 5 := I.2.2.1 c List.mem_cons_self
  obtain ⟨h1, hdm, hs1, hlv, hth⟩ := I.2.2.2.2.1
  have hm : md ≤ 6 := K.2.1.2
  have h6 : d c ≤ 6 := by omega
  have h64 : cl ≤ 64 := K.2.2.1
  have hl : lc ≤ 64 := K.2.2.2.1
  have hq : q (c * 6 + d c - 1) = x := (qc_qtop h1 hth).1.trans hp
  have hf : (c * 6 + d c - 1) < 30 := by omega
  have hmL : c = 0 → mp + 1 ≤ mL := fun z => absurd z c0
  have eA : nI ((c * 6 + d c - 1) * 8) + nI a = nI ((c * 6 + d c - 1) * 8 + a) := nI_add _ _
  refine .inl ⟨(nI mc, nI md, nI cl, nI lc, 1, 0, nI c, nI h, 0, re, oo, oa, ob, oc, lg, (fun zz => nI (hd zz)), (fun zz => nI (s zz)), (fun zz => nI (rs zz)), (fun zz => nI (bd zz)), (fun zz => nI (d zz)), (fun zz => nI ((qc_u p (c * 6 + d c - 1) (x + 1)) zz)), (fun zz => nI (n zz)), (upd rg ((c * 6 + d c - 1) * 8 + a) (nI (hd c))), tg), qz_Rmk (qc_K_up K) (qc_tr_pc hm I (by omega)) (qz_Za Z (fun _ w => w) (fun _ => ⟨hmL, rfl, qz_p0 Z h1 hp⟩)), fun P hP => ?_⟩
  · unfold wpX_step; refine qc_xtf _ c5 h1 ?_; refine ⟨vp_in_nI (by omega) (by decide), nm_r ((qc_rd p rfl (by omega)).trans (congrArg nI hp)) (br_t (nI_lt hx (by omega)) (nm_r (qc_m8 _) ⟨vp_in_nI (by omega) (by decide), nm_r ((qc_rr rfl (by omega)).trans ha) ⟨vp_in_nI (by omega) (by decide), nm_r ((qc_rr rfl (by omega))) ⟨vp_in_nI (by omega) (by decide), nm_r ((qc_rr rfl (by omega))) ⟨vp_in_nI (by omega) (by decide), nm_r (qc_st rfl (nI_1 x) (by omega)) ⟨vp_in_nI (by omega) (by decide), nm_r ((qc_rr rfl (by omega)).trans ho) (br_f (by decide) (br_f (by decide) (br_f (by decide) (br_f (by decide) (br_f (by decide) (br_f (by decide) (br_f (by decide) (br_f (by decide) (br_f (by decide) (br_f (by decide) (br_f (by decide) (br_f (by decide) (br_f (by decide) (br_f (by decide) (br_f (by decide) (br_f (by decide) (br_f (by decide) (br_f (by decide) (br_f (by decide) (br_f (by decide) (br_t rfl ?_)))))))))))))))))))))⟩⟩⟩⟩⟩))⟩
    exact ⟨vp_in_nI (by omega) (by decide), qc_vi eA (by omega) (by decide), nm_r (qc_sr eA (by omega) (qc_rd hd rfl (by omega))) hP⟩
end
