section
variable {mc md cl lc cu h B mp mL : Nat} {st rt lh rd re : Int32} {D : Nat → Prop} {oo oa ob oc lg rg tg : Nat → Int32} {hd d s lv rs bd yr p q n m : Nat → Nat} {c r t x a b : Nat} {l L : List Nat}
theorem qc_o13 (K : qc_K mc md cl lc h B oo oa ob oc lv bd) (I : qc_I mc md oo oa ob d s lv rs yr p q n m (c :: l)) (hp : p (c * 6 + d c - 1) = x) (hx : x < cl) (Z : qz_Z hd lv d p h mp mL D (c :: l)) (hmL : c = 0 → mp + 1 ≤ mL) (ho : oo x = 13) (ha : oa x = nI a) (a8 : a < 8) (hb : ob x = nI b) (b8 : b < 8) {g : Nat} (hc : oc x = nI g) (g8 : g < 8) : qz_Out mc cl oo oa ob oc B (qz_mp c mp) mL D (nI mc, nI md, nI cl, nI lc, 1, 0, nI c, nI h, 0, re, oo, oa, ob, oc, lg, (fun zz => nI (hd zz)), (fun zz => nI (s zz)), (fun zz => nI (rs zz)), (fun zz => nI (bd zz)), (fun zz => nI (d zz)), (fun zz => nI (p zz)), (fun zz => nI (n zz)), rg, tg) := by
  have c5 : c < 5 := I.2.2.1 c List.mem_cons_self
  obtain ⟨h1, hdm, hs1, hlv, hth⟩ := I.2.2.2.2.1
  have hm : md ≤ 6 := K.2.1.2
  have h6 : d c ≤ 6 := by omega
  have h64 : cl ≤ 64 := K.2.2.1
  have hl : lc ≤ 64 := K.2.2.2.1
  have hq : q (c * 6 + d c - 1) = x := (qc_qtop h1 hth).1.trans hp
  have hf : (c * 6 + d c - 1) < 30 := by omega
  have eA : nI ((c * 6 + d c - 1) * 8) + nI a = nI ((c * 6 + d c - 1) * 8 + a) := nI_add _ _
  have eA1 : nI ((c * 6 + d c - 1) * 8) + ((nI a + 1) &&& 7) = nI ((c * 6 + d c - 1) * 8 + (a + 1) % 8) := by rw [qc_a17 a8, nI_add]
  have eB : nI ((c * 6 + d c - 1) * 8) + nI b = nI ((c * 6 + d c - 1) * 8 + b) := nI_add _ _
  have eC : nI ((c * 6 + d c - 1) * 8) + nI g = nI ((c * 6 + d c - 1) * 8 + g) := nI_add _ _
  have I1 := qc_tr_pc (x := x + 1) hm I (by omega)
  have hxx : qc_RA oa (x + 1) := ⟨by omega, by omega, a, a8, ha⟩
  rcases qz_thr (mc := mc) (md := md) (cl := cl) (lc := lc) (cu := c) (st := 1) (rt := 0) (lh := nI h) (rd := 0) (re := re) (oo := oo) (oa := oa) (ob := ob) (oc := oc) (lg := lg) (rg := rg) (tg := tg) (hd := hd) (d := d) (rs := rs) (bd := bd) (n := n) (p := qc_u p (c * 6 + d c - 1) (x + 1)) (fun t => qc_al I) (rg ((c * 6 + d c - 1) * 8 + b)) with ⟨t, t5, hg, hA, hX⟩ | ⟨hg, hno, hX⟩
  rotate_left
  · refine .inl ⟨(nI mc, nI md, nI cl, nI lc, 1, 0, nI c, nI h, 0, re, oo, oa, ob, oc, lg, (fun zz => nI (hd zz)), (fun zz => nI (s zz)), (fun zz => nI (rs zz)), (fun zz => nI (bd zz)), (fun zz => nI (d zz)), (fun zz => nI ((qc_u p (c * 6 + d c - 1) (x + 1)) zz)), (fun zz => nI (n zz)), (upd (upd rg ((c * 6 + d c - 1) * 8 + a) (-1)) ((c * 6 + d c - 1) * 8 + (a + 1) % 8) 0), tg), qz_Rmk (qc_K_up K) I1 (qz_Za Z (fun _ w => w) (fun _ => ⟨hmL, rfl, qz_p0 Z h1 hp⟩)), fun P hP => ?_⟩
    · unfold wpX_step; refine qc_xtf _ c5 h1 ?_; refine ⟨vp_in_nI (by omega) (by decide), nm_r ((qc_rd p rfl (by omega)).trans (congrArg nI hp)) (br_t (nI_lt hx (by omega)) (nm_r (qc_m8 _) ⟨vp_in_nI (by omega) (by decide), nm_r ((qc_rr rfl (by omega)).trans ha) ⟨vp_in_nI (by omega) (by decide), nm_r ((qc_rr rfl (by omega)).trans hb) ⟨vp_in_nI (by omega) (by decide), nm_r ((qc_rr rfl (by omega)).trans hc) ⟨vp_in_nI (by omega) (by decide), nm_r (qc_st rfl (nI_1 x) (by omega)) ⟨vp_in_nI (by omega) (by decide), nm_r ((qc_rr rfl (by omega)).trans ho) (br_f (by decide) (br_f (by decide) (br_f (by decide) (br_f (by decide) (br_f (by decide) (br_f (by decide) (br_f (by decide) (br_f (by decide) (br_f (by decide) (br_f (by decide) (br_f (by decide) (br_f (by decide) (br_f (by decide) (br_f (by decide) (br_f (by decide) (br_t rfl ?_))))))))))))))))⟩⟩⟩⟩⟩))⟩
      refine ⟨qc_vi eB (by omega) (by decide), qc_vi eC (by omega) (by decide), ?_⟩
      rw [qc_rr (f := rg) eB (by omega), qc_rr (f := rg) eC (by omega)]
      unfold wpX_resumeHandle
      refine hX _ (br_t rfl ?_)
      refine qc_xc13 _ c5 h1 (by omega) (qc_us _ _ _) (by omega) (by omega) ha a8 ho _ _ 0 (fun _ => rfl) (fun z => absurd rfl z) ?_
      rw [qc_ue hs1]
      exact hP
  by_cases s0 : s t = 0
  rotate_left
  · have s3 : s t ≠ 3 := by
      by_cases t0 : t = 0
      · rw [t0]
        have := qc_s00 I
        omega
      · have := (hA t0).2; omega
    have s4 : s t ≤ 3 := by
      by_cases t0 : t = 0
      · rw [t0]
        have := qc_s00 I
        omega
      · have := (hA t0).2; omega
    · refine .inl ⟨(nI mc, nI md, nI cl, nI lc, 1, 0, nI c, nI h, 0, re, oo, oa, ob, oc, lg, (fun zz => nI (hd zz)), (fun zz => nI (s zz)), (fun zz => nI (rs zz)), (fun zz => nI (bd zz)), (fun zz => nI (d zz)), (fun zz => nI ((qc_u p (c * 6 + d c - 1) (x + 1)) zz)), (fun zz => nI (n zz)), (upd (upd rg ((c * 6 + d c - 1) * 8 + a) (-2)) ((c * 6 + d c - 1) * 8 + (a + 1) % 8) 0), tg), qz_Rmk (qc_K_up K) I1 (qz_Za Z (fun _ w => w) (fun _ => ⟨hmL, rfl, qz_p0 Z h1 hp⟩)), fun P hP => ?_⟩
      · unfold wpX_step; refine qc_xtf _ c5 h1 ?_; refine ⟨vp_in_nI (by omega) (by decide), nm_r ((qc_rd p rfl (by omega)).trans (congrArg nI hp)) (br_t (nI_lt hx (by omega)) (nm_r (qc_m8 _) ⟨vp_in_nI (by omega) (by decide), nm_r ((qc_rr rfl (by omega)).trans ha) ⟨vp_in_nI (by omega) (by decide), nm_r ((qc_rr rfl (by omega)).trans hb) ⟨vp_in_nI (by omega) (by decide), nm_r ((qc_rr rfl (by omega)).trans hc) ⟨vp_in_nI (by omega) (by decide), nm_r (qc_st rfl (nI_1 x) (by omega)) ⟨vp_in_nI (by omega) (by decide), nm_r ((qc_rr rfl (by omega)).trans ho) (br_f (by decide) (br_f (by decide) (br_f (by decide) (br_f (by decide) (br_f (by decide) (br_f (by decide) (br_f (by decide) (br_f (by decide) (br_f (by decide) (br_f (by decide) (br_f (by decide) (br_f (by decide) (br_f (by decide) (br_f (by decide) (br_f (by decide) (br_t rfl ?_))))))))))))))))⟩⟩⟩⟩⟩))⟩
        refine ⟨qc_vi eB (by omega) (by decide), qc_vi eC (by omega) (by decide), ?_⟩
        rw [qc_rr (f := rg) eB (by omega), qc_rr (f := rg) eC (by omega)]
        unfold wpX_resumeHandle
        refine hX _ (br_f (qc_nm1 t5) ⟨vp_in_nI (by omega) (by decide), br_f ?_ ?_⟩)
        · rw [qc_rd s rfl (by omega)]
          exact fun z => s0 ((nI_eq (b := 0) (by omega) (by omega)).mp z)
        refine qc_xc13 _ c5 h1 (by omega) (qc_us _ _ _) (by omega) (by omega) ha a8 ho _ _ 0 (fun _ => rfl) (fun z => absurd rfl z) ?_
        rw [qc_ue hs1]
        exact hP
  obtain ⟨htl, t0⟩ := qc_s0 I s0
  rcases I.2.2.2.2.2.2 t t5 htl with o | ⟨-, -, -, o1, o2, o3⟩
  · omega
  have htc : t ≠ c := fun z => htl (by rw [z]; exact List.mem_cons_self)
  have hbd : bd t < 64 := K.2.2.2.2.2.2.1 t
  have xs : (fun zz => nI (s zz)) (nI t).toNatClampNeg = 0 := by rw [qc_rd s rfl (by omega), s0]; rfl
  by_cases dt : d t = 0
  · have I' := qc_tr_en1 (b := bd t) hm K.2.1.1 I hxx (.inl ho) t5 htl s0 dt (by omega)
    have xd : (fun zz => nI (d zz)) (nI t).toNatClampNeg = 0 := by rw [qc_rd d rfl (by omega), dt]; rfl
    refine .inl ⟨(nI mc, nI md, nI cl, nI lc, 1, 0, nI t, nI h, 0, re, oo, oa, ob, oc, lg, (fun zz => nI (hd zz)), (fun zz => nI ((qc_u (qc_u s c 2) t 1) zz)), (fun zz => nI ((qc_u rs t c) zz)), (fun zz => nI (bd zz)), (fun zz => nI ((qc_u d t (d t + 1)) zz)), (fun zz => nI ((qc_u (qc_u p (c * 6 + d c - 1) (x + 1)) (t * 6 + d t) (bd t)) zz)), (fun zz => nI ((qc_u n (t * 6 + d t) 0) zz)), (qc_pr rg ((t * 6 + d t) * 8) (rg ((c * 6 + d c - 1) * 8 + g))), tg), qz_Rmk (qc_K_up K) I' (qz_Za Z (fun _ w => w) (fun _ => ⟨hmL, qc_uo (by omega), (qc_uo (by omega)).trans (qz_p0 Z h1 hp)⟩)), fun P hP => ?_⟩
    · unfold wpX_step; refine qc_xtf _ c5 h1 ?_; refine ⟨vp_in_nI (by omega) (by decide), nm_r ((qc_rd p rfl (by omega)).trans (congrArg nI hp)) (br_t (nI_lt hx (by omega)) (nm_r (qc_m8 _) ⟨vp_in_nI (by omega) (by decide), nm_r ((qc_rr rfl (by omega)).trans ha) ⟨vp_in_nI (by omega) (by decide), nm_r ((qc_rr rfl (by omega)).trans hb) ⟨vp_in_nI (by omega) (by decide), nm_r ((qc_rr rfl (by omega)).trans hc) ⟨vp_in_nI (by omega) (by decide), nm_r (qc_st rfl (nI_1 x) (by omega)) ⟨vp_in_nI (by omega) (by decide), nm_r ((qc_rr rfl (by omega)).trans ho) (br_f (by decide) (br_f (by decide) (br_f (by decide) (br_f (by decide) (br_f (by decide) (br_f (by decide) (br_f (by decide) (br_f (by decide) (br_f (by decide) (br_f (by decide) (br_f (by decide) (br_f (by decide) (br_f (by decide) (br_f (by decide) (br_f (by decide) (br_t rfl ?_))))))))))))))))⟩⟩⟩⟩⟩))⟩
      refine ⟨qc_vi eB (by omega) (by decide), qc_vi eC (by omega) (by decide), ?_⟩
      rw [qc_rr (f := rg) eB (by omega), qc_rr (f := rg) eC (by omega)]
      unfold wpX_resumeHandle
      refine hX _ (br_f (qc_nm1 t5) ⟨vp_in_nI (by omega) (by decide), br_t xs ⟨vp_in_nI (by omega) (by decide), nm_r (qc_st (x := 2) rfl rfl (by omega)) ⟨vp_in_nI (by omega) (by decide), nm_r (qc_st rfl rfl (by omega)) ⟨vp_in_nI (by omega) (by decide), nm_r (qc_st (x := 1) rfl rfl (by omega)) ⟨vp_in_nI (by omega) (by decide), br_t xd ⟨vp_in_nI (by omega) (by decide), ?_⟩⟩⟩⟩⟩⟩)
      rw [qc_rd bd rfl (by omega)]
      exact qc_xpush _ _ t5 (by omega) hP
  · have I' := qc_tr_en2 hm I hxx (.inl ho) t5 htl s0 (by omega)
    obtain ⟨y1, yr8, yb⟩ := o3 (by omega)
    obtain ⟨yq, -, -⟩ := qc_qtop (by omega) o2
    have y64 : p (t * 6 + d t - 1) ≤ 64 := by
      have e : t * 6 + (d t - 1) = t * 6 + d t - 1 := by omega
      have := (o2 (d t - 1) (by omega)).2.1
      rw [e] at this
      exact this
    have xd : ¬ (fun zz => nI (d zz)) (nI t).toNatClampNeg = 0 := by
      rw [qc_rd d rfl (by omega)]
      exact fun z => dt ((nI_eq (b := 0) (by omega) (by omega)).mp z)
    have hp2 : qc_u p (c * 6 + d c - 1) (x + 1) (t * 6 + d t - 1) = p (t * 6 + d t - 1) := qc_uo (by omega)
    have eI : nI (t * 6 + d t - 1) * 8 + ob (nI (p (t * 6 + d t - 1) - 1)).toNatClampNeg = nI ((t * 6 + d t - 1) * 8 + yr t) := qc_fr8 rfl ((qc_rr rfl (by omega)).trans yb)
    have eY : (nI t * 6 + (fun zz => nI (d zz)) (nI t).toNatClampNeg - 1) * 8 + (fun zz => nI (yr zz)) (nI t).toNatClampNeg = nI ((t * 6 + d t - 1) * 8 + yr t) := by
      rw [qc_rd d rfl (by omega), qc_rd yr rfl (by omega), qc_tf (by omega)]
      exact qc_fr8 rfl rfl
    refine .inl ⟨(nI mc, nI md, nI cl, nI lc, 1, 0, nI t, nI h, 0, re, oo, oa, ob, oc, lg, (fun zz => nI (hd zz)), (fun zz => nI ((qc_u (qc_u s c 2) t 1) zz)), (fun zz => nI ((qc_u rs t c) zz)), (fun zz => nI (bd zz)), (fun zz => nI (d zz)), (fun zz => nI ((qc_u p (c * 6 + d c - 1) (x + 1)) zz)), (fun zz => nI (n zz)), (upd rg ((t * 6 + d t - 1) * 8 + yr t) (rg ((c * 6 + d c - 1) * 8 + g))), tg), qz_Rmk (qc_K_up K) I' (qz_Za Z (fun _ w => w) (fun _ => ⟨hmL, rfl, qz_p0 Z h1 hp⟩)), fun P hP => ?_⟩
    · unfold wpX_step; refine qc_xtf _ c5 h1 ?_; refine ⟨vp_in_nI (by omega) (by decide), nm_r ((qc_rd p rfl (by omega)).trans (congrArg nI hp)) (br_t (nI_lt hx (by omega)) (nm_r (qc_m8 _) ⟨vp_in_nI (by omega) (by decide), nm_r ((qc_rr rfl (by omega)).trans ha) ⟨vp_in_nI (by omega) (by decide), nm_r ((qc_rr rfl (by omega)).trans hb) ⟨vp_in_nI (by omega) (by decide), nm_r ((qc_rr rfl (by omega)).trans hc) ⟨vp_in_nI (by omega) (by decide), nm_r (qc_st rfl (nI_1 x) (by omega)) ⟨vp_in_nI (by omega) (by decide), nm_r ((qc_rr rfl (by omega)).trans ho) (br_f (by decide) (br_f (by decide) (br_f (by decide) (br_f (by decide) (br_f (by decide) (br_f (by decide) (br_f (by decide) (br_f (by decide) (br_f (by decide) (br_f (by decide) (br_f (by decide) (br_f (by decide) (br_f (by decide) (br_f (by decide) (br_f (by decide) (br_t rfl ?_))))))))))))))))⟩⟩⟩⟩⟩))⟩
      refine ⟨qc_vi eB (by omega) (by decide), qc_vi eC (by omega) (by decide), ?_⟩
      rw [qc_rr (f := rg) eB (by omega), qc_rr (f := rg) eC (by omega)]
      unfold wpX_resumeHandle
      refine hX _ (br_f (qc_nm1 t5) ⟨vp_in_nI (by omega) (by decide), br_t xs ⟨vp_in_nI (by omega) (by decide), nm_r (qc_st (x := 2) rfl rfl (by omega)) ⟨vp_in_nI (by omega) (by decide), nm_r (qc_st rfl rfl (by omega)) ⟨vp_in_nI (by omega) (by decide), nm_r (qc_st (x := 1) rfl rfl (by omega)) ⟨vp_in_nI (by omega) (by decide), br_f xd ?_⟩⟩⟩⟩⟩)
      refine qc_xtf _ t5 (by omega) ?_
      exact ⟨vp_in_nI (by omega) (by decide), nm_r (qc_de1 ((qc_rd (qc_u p (c * 6 + d c - 1) (x + 1)) rfl (by omega)).trans (congrArg nI hp2)) y1) ⟨vp_in_nI (by omega) (by decide), qc_vi eI (by omega) (by decide), nm_r (qc_sr eI (by omega) rfl) hP⟩⟩
theorem qc_o14 (K : qc_K mc md cl lc h B oo oa ob oc lv bd) (I : qc_I mc md oo oa ob d s lv rs yr p q n m (c :: l)) (hp : p (c * 6 + d c - 1) = x) (hx : x < cl) (Z : qz_Z hd lv d p h mp mL D (c :: l)) (hmL : c = 0 → mp + 1 ≤ mL) (ho : oo x = 14) (ha : oa x = nI a) (a8 : a < 8) (hb : ob x = nI b) (b8 : b < 8) {g : Nat} (hc : oc x = nI g) (g8 : g < 8) : qz_Out mc cl oo oa ob oc B (qz_mp c mp) mL D (nI mc, nI md, nI cl, nI lc, 1, 0, nI c, nI h, 0, re, oo, oa, ob, oc, lg, (fun zz => nI (hd zz)), (fun zz => nI (s zz)), (fun zz => nI (rs zz)), (fun zz => nI (bd zz)), (fun zz => nI (d zz)), (fun zz => nI (p zz)), (fun zz => nI (n zz)), rg, tg) := by
  have c5 : c < 5 := I.2.2.1 c List.mem_cons_self
  obtain ⟨h1, hdm, hs1, hlv, hth⟩ := I.2.2.2.2.1
  have hm : md ≤ 6 := K.2.1.2
  have h6 : d c ≤ 6 := by omega
  have h64 : cl ≤ 64 := K.2.2.1
  have hl : lc ≤ 64 := K.2.2.2.1
  have hq : q (c * 6 + d c - 1) = x := (qc_qtop h1 hth).1.trans hp
  have hf : (c * 6 + d c - 1) < 30 := by omega
  have eA : nI ((c * 6 + d c - 1) * 8) + nI a = nI ((c * 6 + d c - 1) * 8 + a) := nI_add _ _
  have eA1 : nI ((c * 6 + d c - 1) * 8) + ((nI a + 1) &&& 7) = nI ((c * 6 + d c - 1) * 8 + (a + 1) % 8) := by rw [qc_a17 a8, nI_add]
  have eB : nI ((c * 6 + d c - 1) * 8) + nI b = nI ((c * 6 + d c - 1) * 8 + b) := nI_add _ _
  have eC : nI ((c * 6 + d c - 1) * 8) + nI g = nI ((c * 6 + d c - 1) * 8 + g) := nI_add _ _
  have I1 := qc_tr_pc (x := x + 1) hm I (by omega)
  have hxx : qc_RA oa (x + 1) := ⟨by omega, by omega, a, a8, ha⟩
  rcases qz_thr (mc := mc) (md := md) (cl := cl) (lc := lc) (cu := c) (st := 1) (rt := 0) (lh := nI h) (rd := 0) (re := re) (oo := oo) (oa := oa) (ob := ob) (oc := oc) (lg := lg) (rg := rg) (tg := tg) (hd := hd) (d := d) (rs := rs) (bd := bd) (n := n) (p := qc_u p (c * 6 + d c - 1) (x + 1)) (fun t => qc_al I) (rg ((c * 6 + d c - 1) * 8 + b)) with ⟨t, t5, hg, hA, hX⟩ | ⟨hg, hno, hX⟩
  rotate_left
  · refine .inr ⟨(nI mc, nI md, nI cl, nI lc, 1, 0, nI c, nI h, 1, (-1), oo, oa, ob, oc, lg, (fun zz => nI (hd zz)), (fun zz => nI (s zz)), (fun zz => nI (rs zz)), (fun zz => nI (bd zz)), (fun zz => nI (d zz)), (fun zz => nI ((qc_u p (c * 6 + d c - 1) (x + 1)) zz)), (fun zz => nI (n zz)), rg, tg), c, -1, qz_Qmk (qc_K_up K) (qc_J_of I1) (qz_Za Z (fun _ w => w) (fun _ => ⟨hmL, rfl, qz_p0 Z h1 hp⟩)), fun P hP => ?_⟩
    · unfold wpX_step; refine qc_xtf _ c5 h1 ?_; refine ⟨vp_in_nI (by omega) (by decide), nm_r ((qc_rd p rfl (by omega)).trans (congrArg nI hp)) (br_t (nI_lt hx (by omega)) (nm_r (qc_m8 _) ⟨vp_in_nI (by omega) (by decide), nm_r ((qc_rr rfl (by omega)).trans ha) ⟨vp_in_nI (by omega) (by decide), nm_r ((qc_rr rfl (by omega)).trans hb) ⟨vp_in_nI (by omega) (by decide), nm_r ((qc_rr rfl (by omega)).trans hc) ⟨vp_in_nI (by omega) (by decide), nm_r (qc_st rfl (nI_1 x) (by omega)) ⟨vp_in_nI (by omega) (by decide), nm_r ((qc_rr rfl (by omega)).trans ho) (br_f (by decide) (br_f (by decide) (br_f (by decide) (br_f (by decide) (br_f (by decide) (br_f (by decide) (br_f (by decide) (br_f (by decide) (br_f (by decide) (br_f (by decide) (br_f (by decide) (br_f (by decide) (br_f (by decide) (br_f (by decide) (br_f (by decide) (br_f (by decide) (br_t rfl ?_)))))))))))))))))⟩⟩⟩⟩⟩))⟩
      refine ⟨qc_vi eB (by omega) (by decide), qc_vi eC (by omega) (by decide), ?_⟩
      rw [qc_rr (f := rg) eB (by omega), qc_rr (f := rg) eC (by omega)]
      unfold wpX_resumeHandle
      refine hX _ (br_t rfl ?_)
      refine qc_xcr _ c5 h1 (by omega) (qc_us _ _ _) (by omega) (by omega) ho _ ?_
      rw [qc_ue hs1]
      exact hP
  by_cases s0 : s t = 0
  rotate_left
  · have s3 : s t ≠ 3 := by
      by_cases t0 : t = 0
      · rw [t0]
        have := qc_s00 I
        omega
      · have := (hA t0).2; omega
    have s4 : s t ≤ 3 := by
      by_cases t0 : t = 0
      · rw [t0]
        have := qc_s00 I
        omega
      · have := (hA t0).2; omega
    · refine .inr ⟨(nI mc, nI md, nI cl, nI lc, 1, 0, nI c, nI h, 1, (-2), oo, oa, ob, oc, lg, (fun zz => nI (hd zz)), (fun zz => nI (s zz)), (fun zz => nI (rs zz)), (fun zz => nI (bd zz)), (fun zz => nI (d zz)), (fun zz => nI ((qc_u p (c * 6 + d c - 1) (x + 1)) zz)), (fun zz => nI (n zz)), rg, tg), c, -2, qz_Qmk (qc_K_up K) (qc_J_of I1) (qz_Za Z (fun _ w => w) (fun _ => ⟨hmL, rfl, qz_p0 Z h1 hp⟩)), fun P hP => ?_⟩
      · unfold wpX_step; refine qc_xtf _ c5 h1 ?_; refine ⟨vp_in_nI (by omega) (by decide), nm_r ((qc_rd p rfl (by omega)).trans (congrArg nI hp)) (br_t (nI_lt hx (by omega)) (nm_r (qc_m8 _) ⟨vp_in_nI (by omega) (by decide), nm_r ((qc_rr rfl (by omega)).trans ha) ⟨vp_in_nI (by omega) (by decide), nm_r ((qc_rr rfl (by omega)).trans hb) ⟨vp_in_nI (by omega) (by decide), nm_r ((qc_rr rfl (by omega)).trans hc) ⟨vp_in_nI (by omega) (by decide), nm_r (qc_st rfl (nI_1 x) (by omega)) ⟨vp_in_nI (by omega) (by decide), nm_r ((qc_rr rfl (by omega)).trans ho) (br_f (by decide) (br_f (by decide) (br_f (by decide) (br_f (by decide) (br_f (by decide) (br_f (by decide) (br_f (by decide) (br_f (by decide) (br_f (by decide) (br_f (by decide) (br_f (by decide) (br_f (by decide) (br_f (by decide) (br_f (by decide) (br_f (by decide) (br_f (by decide) (br_t rfl ?_)))))))))))))))))⟩⟩⟩⟩⟩))⟩
        refine ⟨qc_vi eB (by omega) (by decide), qc_vi eC (by omega) (by decide), ?_⟩
        rw [qc_rr (f := rg) eB (by omega), qc_rr (f := rg) eC (by omega)]
        unfold wpX_resumeHandle
        refine hX _ (br_f (qc_nm1 t5) ⟨vp_in_nI (by omega) (by decide), br_f ?_ ?_⟩)
        · rw [qc_rd s rfl (by omega)]
          exact fun z => s0 ((nI_eq (b := 0) (by omega) (by omega)).mp z)
        refine qc_xcr _ c5 h1 (by omega) (qc_us _ _ _) (by omega) (by omega) ho _ ?_
        rw [qc_ue hs1]
        exact hP
  obtain ⟨htl, t0⟩ := qc_s0 I s0
  rcases I.2.2.2.2.2.2 t t5 htl with o | ⟨-, -, -, o1, o2, o3⟩
  · omega
  have htc : t ≠ c := fun z => htl (by rw [z]; exact List.mem_cons_self)
  have hbd : bd t < 64 := K.2.2.2.2.2.2.1 t
  have xs : (fun zz => nI (s zz)) (nI t).toNatClampNeg = 0 := by rw [qc_rd s rfl (by omega), s0]; rfl
  by_cases dt : d t = 0
  · have I' := qc_tr_en1 (b := bd t) hm K.2.1.1 I hxx (.inr ho) t5 htl s0 dt (by omega)
    have xd : (fun zz => nI (d zz)) (nI t).toNatClampNeg = 0 := by rw [qc_rd d rfl (by omega), dt]; rfl
    refine .inl ⟨(nI mc, nI md, nI cl, nI lc, 1, 0, nI t, nI h, 0, re, oo, oa, ob, oc, lg, (fun zz => nI (hd zz)), (fun zz => nI ((qc_u (qc_u s c 2) t 1) zz)), (fun zz => nI ((qc_u rs t c) zz)), (fun zz => nI (bd zz)), (fun zz => nI ((qc_u d t (d t + 1)) zz)), (fun zz => nI ((qc_u (qc_u p (c * 6 + d c - 1) (x + 1)) (t * 6 + d t) (bd t)) zz)), (fun zz => nI ((qc_u n (t * 6 + d t) 0) zz)), (qc_pr rg ((t * 6 + d t) * 8) (rg ((c * 6 + d c - 1) * 8 + g))), tg), qz_Rmk (qc_K_up K) I' (qz_Za Z (fun _ w => w) (fun _ => ⟨hmL, qc_uo (by omega), (qc_uo (by omega)).trans (qz_p0 Z h1 hp)⟩)), fun P hP => ?_⟩
    · unfold wpX_step; refine qc_xtf _ c5 h1 ?_; refine ⟨vp_in_nI (by omega) (by decide), nm_r ((qc_rd p rfl (by omega)).trans (congrArg nI hp)) (br_t (nI_lt hx (by omega)) (nm_r (qc_m8 _) ⟨vp_in_nI (by omega) (by decide), nm_r ((qc_rr rfl (by omega)).trans ha) ⟨vp_in_nI (by omega) (by decide), nm_r ((qc_rr rfl (by omega)).trans hb) ⟨vp_in_nI (by omega) (by decide), nm_r ((qc_rr rfl (by omega)).trans hc) ⟨vp_in_nI (by omega) (by decide), nm_r (qc_st rfl (nI_1 x) (by omega)) ⟨vp_in_nI (by omega) (by decide), nm_r ((qc_rr rfl (by omega)).trans ho) (br_f (by decide) (br_f (by decide) (br_f (by decide) (br_f (by decide) (br_f (by decide) (br_f (by decide) (br_f (by decide) (br_f (by decide) (br_f (by decide) (br_f (by decide) (br_f (by decide) (br_f (by decide) (br_f (by decide) (br_f (by decide) (br_f (by decide) (br_f (by decide) (br_t rfl ?_)))))))))))))))))⟩⟩⟩⟩⟩))⟩
      refine ⟨qc_vi eB (by omega) (by decide), qc_vi eC (by omega) (by decide), ?_⟩
      rw [qc_rr (f := rg) eB (by omega), qc_rr (f := rg) eC (by omega)]
      unfold wpX_resumeHandle
      refine hX _ (br_f (qc_nm1 t5) ⟨vp_in_nI (by omega) (by decide), br_t xs ⟨vp_in_nI (by omega) (by decide), nm_r (qc_st (x := 2) rfl rfl (by omega)) ⟨vp_in_nI (by omega) (by decide), nm_r (qc_st rfl rfl (by omega)) ⟨vp_in_nI (by omega) (by decide), nm_r (qc_st (x := 1) rfl rfl (by omega)) ⟨vp_in_nI (by omega) (by decide), br_t xd ⟨vp_in_nI (by omega) (by decide), ?_⟩⟩⟩⟩⟩⟩)
      rw [qc_rd bd rfl (by omega)]
      exact qc_xpush _ _ t5 (by omega) hP
  · have I' := qc_tr_en2 hm I hxx (.inr ho) t5 htl s0 (by omega)
    obtain ⟨y1, yr8, yb⟩ := o3 (by omega)
    obtain ⟨yq, -, -⟩ := qc_qtop (by omega) o2
    have y64 : p (t * 6 + d t - 1) ≤ 64 := by
      have e : t * 6 + (d t - 1) = t * 6 + d t - 1 := by omega
      have := (o2 (d t - 1) (by omega)).2.1
      rw [e] at this
      exact this
    have xd : ¬ (fun zz => nI (d zz)) (nI t).toNatClampNeg = 0 := by
      rw [qc_rd d rfl (by omega)]
      exact fun z => dt ((nI_eq (b := 0) (by omega) (by omega)).mp z)
    have hp2 : qc_u p (c * 6 + d c - 1) (x + 1) (t * 6 + d t - 1) = p (t * 6 + d t - 1) := qc_uo (by omega)
    have eI : nI (t * 6 + d t - 1) * 8 + ob (nI (p (t * 6 + d t - 1) - 1)).toNatClampNeg = nI ((t * 6 + d t - 1) * 8 + yr t) := qc_fr8 rfl ((qc_rr rfl (by omega)).trans yb)
    have eY : (nI t * 6 + (fun zz => nI (d zz)) (nI t).toNatClampNeg - 1) * 8 + (fun zz => nI (yr zz)) (nI t).toNatClampNeg = nI ((t * 6 + d t - 1) * 8 + yr t) := by
      rw [qc_rd d rfl (by omega), qc_rd yr rfl (by omega), qc_tf (by omega)]
      exact qc_fr8 rfl rfl
    refine .inl ⟨(nI mc, nI md, nI cl, nI lc, 1, 0, nI t, nI h, 0, re, oo, oa, ob, oc, lg, (fun zz => nI (hd zz)), (fun zz => nI ((qc_u (qc_u s c 2) t 1) zz)), (fun zz => nI ((qc_u rs t c) zz)), (fun zz => nI (bd zz)), (fun zz => nI (d zz)), (fun zz => nI ((qc_u p (c * 6 + d c - 1) (x + 1)) zz)), (fun zz => nI (n zz)), (upd rg ((t * 6 + d t - 1) * 8 + yr t) (rg ((c * 6 + d c - 1) * 8 + g))), tg), qz_Rmk (qc_K_up K) I' (qz_Za Z (fun _ w => w) (fun _ => ⟨hmL, rfl, qz_p0 Z h1 hp⟩)), fun P hP => ?_⟩
    · unfold wpX_step; refine qc_xtf _ c5 h1 ?_; refine ⟨vp_in_nI (by omega) (by decide), nm_r ((qc_rd p rfl (by omega)).trans (congrArg nI hp)) (br_t (nI_lt hx (by omega)) (nm_r (qc_m8 _) ⟨vp_in_nI (by omega) (by decide), nm_r ((qc_rr rfl (by omega)).trans ha) ⟨vp_in_nI (by omega) (by decide), nm_r ((qc_rr rfl (by omega)).trans hb) ⟨vp_in_nI (by omega) (by decide), nm_r ((qc_rr rfl (by omega)).trans hc) ⟨vp_in_nI (by omega) (by decide), nm_r (qc_st rfl (nI_1 x) (by omega)) ⟨vp_in_nI (by omega) (by decide), nm_r ((qc_rr rfl (by omega)).trans ho) (br_f (by decide) (br_f (by decide) (br_f (by decide) (br_f (by decide) (br_f (by decide) (br_f (by decide) (br_f (by decide) (br_f (by decide) (br_f (by decide) (br_f (by decide) (br_f (by decide) (br_f (by decide) (br_f (by decide) (br_f (by decide) (br_f (by decide) (br_f (by decide) (br_t rfl ?_)))))))))))))))))⟩⟩⟩⟩⟩))⟩
      refine ⟨qc_vi eB (by omega) (by decide), qc_vi eC (by omega) (by decide), ?_⟩
      rw [qc_rr (f := rg) eB (by omega), qc_rr (f := rg) eC (by omega)]
      unfold wpX_resumeHandle
      refine hX _ (br_f (qc_nm1 t5) ⟨vp_in_nI (by omega) (by decide), br_t xs ⟨vp_in_nI (by omega) (by decide), nm_r (qc_st (x := 2) rfl rfl (by omega)) ⟨vp_in_nI (by omega) (by decide), nm_r (qc_st rfl rfl (by omega)) ⟨vp_in_nI (by omega) (by decide), nm_r (qc_st (x := 1) rfl rfl (by omega)) ⟨vp_in_nI (by omega) (by decide), br_f xd ?_⟩⟩⟩⟩⟩)
      refine qc_xtf _ t5 (by omega) ?_
      exact ⟨vp_in_nI (by omega) (by decide), nm_r (qc_de1 ((qc_rd (qc_u p (c * 6 + d c - 1) (x + 1)) rfl (by omega)).trans (congrArg nI hp2)) y1) ⟨vp_in_nI (by omega) (by decide), qc_vi eI (by omega) (by decide), nm_r (qc_sr eI (by omega) rfl) hP⟩⟩
end
