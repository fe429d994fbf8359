theorem qc_nm1 {t : Nat} (h : t < 5) : ¬ nI t = -1 := by
  have e : t = 0 ∨ t = 1 ∨ t = 2 ∨ t = 3 ∨ t = 4 := by omega
  rcases e with rfl | rfl | rfl | rfl | rfl <;> decide
section
variable {mc md cl lc cu h B mp mL : Nat} {st rt lh rd re : Int32} {D : Nat → Prop} {oo oa ob oc lg rg tg : Nat → Int32} {hd d s lv rs bd yr p q n m : Nat → Nat} {c r t x a b : Nat} {l L : List Nat}
theorem qc_o16 (K : qc_K mc md cl lc h B oo oa ob oc lv bd) (I : qc_I mc md oo oa ob d s lv rs yr p q n m (c :: l)) (hp : p (c * 6 + d c - 1) = x) (hx : x < cl) (Z : qz_Z hd lv d p h mp mL D (c :: l)) (hmL : c = 0 → mp + 1 ≤ mL) (ho : oo x = 16) (ha : oa x = nI a) (a8 : a < 8) (hb : ob x = nI b) (b8 : b < 8) : qz_Out mc cl oo oa ob oc B (qz_mp c mp) mL D (nI mc, nI md, nI cl, nI lc, 1, 0, nI c, nI h, 0, re, oo, oa, ob, oc, lg, (fun zz => nI (hd zz)), (fun zz => nI (s zz)), (fun zz => nI (rs zz)), (fun zz => nI (bd zz)), (fun zz => nI (d zz)), (fun zz => nI (p zz)), (fun zz => nI (n zz)), rg, tg) := by
  have c5 : c < 5 := I.2.2.1 c List.mem_cons_self
  obtain ⟨h1, hdm, hs1, hlv, hth⟩ := I.2.2.2.2.1
  have hm : md ≤ 6 := K.2.1.2
  have h6 : d c ≤ 6 := by omega
  have h64 : cl ≤ 64 := K.2.2.1
  have hl : lc ≤ 64 := K.2.2.2.1
  have hq : q (c * 6 + d c - 1) = x := (qc_qtop h1 hth).1.trans hp
  have hf : (c * 6 + d c - 1) < 30 := by omega
  have eA : nI ((c * 6 + d c - 1) * 8) + nI a = nI ((c * 6 + d c - 1) * 8 + a) := nI_add _ _
  have eB : nI ((c * 6 + d c - 1) * 8) + nI b = nI ((c * 6 + d c - 1) * 8 + b) := nI_add _ _
  rcases qz_thr (mc := mc) (md := md) (cl := cl) (lc := lc) (cu := c) (st := 1) (rt := 0) (lh := nI h) (rd := 0) (re := re) (oo := oo) (oa := oa) (ob := ob) (oc := oc) (lg := lg) (rg := rg) (tg := tg) (hd := hd) (d := d) (rs := rs) (bd := bd) (n := n) (p := qc_u p (c * 6 + d c - 1) (x + 1)) (fun t => qc_al I) (rg ((c * 6 + d c - 1) * 8 + b)) with ⟨t, t5, hg, hA, hX⟩ | ⟨hg, hno, hX⟩
  · refine .inl ⟨(nI mc, nI md, nI cl, nI lc, 1, 0, nI c, nI h, 0, re, oo, oa, ob, oc, lg, (fun zz => nI (hd zz)), (fun zz => nI (s zz)), (fun zz => nI (rs zz)), (fun zz => nI (bd zz)), (fun zz => nI (d zz)), (fun zz => nI ((qc_u p (c * 6 + d c - 1) (x + 1)) zz)), (fun zz => nI (n zz)), (upd rg ((c * 6 + d c - 1) * 8 + a) (nI (s t))), tg), qz_Rmk (qc_K_up K) (qc_tr_pc hm I (by omega)) (qz_Za Z (fun _ w => w) (fun _ => ⟨hmL, rfl, qz_p0 Z h1 hp⟩)), fun P hP => ?_⟩
    · unfold wpX_step; refine qc_xtf _ c5 h1 ?_; refine ⟨vp_in_nI (by omega) (by decide), nm_r ((qc_rd p rfl (by omega)).trans (congrArg nI hp)) (br_t (nI_lt hx (by omega)) (nm_r (qc_m8 _) ⟨vp_in_nI (by omega) (by decide), nm_r ((qc_rr rfl (by omega)).trans ha) ⟨vp_in_nI (by omega) (by decide), nm_r ((qc_rr rfl (by omega)).trans hb) ⟨vp_in_nI (by omega) (by decide), nm_r ((qc_rr rfl (by omega))) ⟨vp_in_nI (by omega) (by decide), nm_r (qc_st rfl (nI_1 x) (by omega)) ⟨vp_in_nI (by omega) (by decide), nm_r ((qc_rr rfl (by omega)).trans ho) (br_f (by decide) (br_f (by decide) (br_f (by decide) (br_f (by decide) (br_f (by decide) (br_f (by decide) (br_f (by decide) (br_f (by decide) (br_f (by decide) (br_f (by decide) (br_f (by decide) (br_f (by decide) (br_f (by decide) (br_f (by decide) (br_f (by decide) (br_f (by decide) (br_f (by decide) (br_f (by decide) (br_t rfl ?_)))))))))))))))))))⟩⟩⟩⟩⟩))⟩
      refine ⟨qc_vi eB (by omega) (by decide), ?_⟩
      rw [qc_rr (f := rg) eB (by omega)]
      unfold wpX_coStatus
      refine hX _ (br_f (qc_nm1 t5) ⟨vp_in_nI (by omega) (by decide), ?_⟩)
      rw [qc_rd s rfl (by omega)]
      exact ⟨qc_vi eA (by omega) (by decide), nm_r (qc_sr eA (by omega) rfl) hP⟩
  · refine .inl ⟨(nI mc, nI md, nI cl, nI lc, 1, 0, nI c, nI h, 0, re, oo, oa, ob, oc, lg, (fun zz => nI (hd zz)), (fun zz => nI (s zz)), (fun zz => nI (rs zz)), (fun zz => nI (bd zz)), (fun zz => nI (d zz)), (fun zz => nI ((qc_u p (c * 6 + d c - 1) (x + 1)) zz)), (fun zz => nI (n zz)), (upd rg ((c * 6 + d c - 1) * 8 + a) 3), tg), qz_Rmk (qc_K_up K) (qc_tr_pc hm I (by omega)) (qz_Za Z (fun _ w => w) (fun _ => ⟨hmL, rfl, qz_p0 Z h1 hp⟩)), fun P hP => ?_⟩
    · unfold wpX_step; refine qc_xtf _ c5 h1 ?_; refine ⟨vp_in_nI (by omega) (by decide), nm_r ((qc_rd p rfl (by omega)).trans (congrArg nI hp)) (br_t (nI_lt hx (by omega)) (nm_r (qc_m8 _) ⟨vp_in_nI (by omega) (by decide), nm_r ((qc_rr rfl (by omega)).trans ha) ⟨vp_in_nI (by omega) (by decide), nm_r ((qc_rr rfl (by omega)).trans hb) ⟨vp_in_nI (by omega) (by decide), nm_r ((qc_rr rfl (by omega))) ⟨vp_in_nI (by omega) (by decide), nm_r (qc_st rfl (nI_1 x) (by omega)) ⟨vp_in_nI (by omega) (by decide), nm_r ((qc_rr rfl (by omega)).trans ho) (br_f (by decide) (br_f (by decide) (br_f (by decide) (br_f (by decide) (br_f (by decide) (br_f (by decide) (br_f (by decide) (br_f (by decide) (br_f (by decide) (br_f (by decide) (br_f (by decide) (br_f (by decide) (br_f (by decide) (br_f (by decide) (br_f (by decide) (br_f (by decide) (br_f (by decide) (br_f (by decide) (br_t rfl ?_)))))))))))))))))))⟩⟩⟩⟩⟩))⟩
      refine ⟨qc_vi eB (by omega) (by decide), ?_⟩
      rw [qc_rr (f := rg) eB (by omega)]
      unfold wpX_coStatus
      exact hX _ (br_t rfl ⟨qc_vi eA (by omega) (by decide), nm_r (qc_sr eA (by omega) rfl) hP⟩)
theorem qc_o17 (K : qc_K mc md cl lc h B oo oa ob oc lv bd) (I : qc_I mc md oo oa ob d s lv rs yr p q n m (c :: l)) (hp : p (c * 6 + d c - 1) = x) (hx : x < cl) (Z : qz_Z hd lv d p h mp mL D (c :: l)) (hmL : c = 0 → mp + 1 ≤ mL) (ho : oo x = 17) (ha : oa x = nI a) (a8 : a < 8) (hb : ob x = nI b) (b8 : b < 8) : qz_Out mc cl oo oa ob oc B (qz_mp c mp) mL D (nI mc, nI md, nI cl, nI lc, 1, 0, nI c, nI h, 0, re, oo, oa, ob, oc, lg, (fun zz => nI (hd zz)), (fun zz => nI (s zz)), (fun zz => nI (rs zz)), (fun zz => nI (bd zz)), (fun zz => nI (d zz)), (fun zz => nI (p zz)), (fun zz => nI (n zz)), rg, tg) := by
  have c5 : c < 5 := I.2.2.1 c List.mem_cons_self
  obtain ⟨h1, hdm, hs1, hlv, hth⟩ := I.2.2.2.2.1
  have hm : md ≤ 6 := K.2.1.2
  have h6 : d c ≤ 6 := by omega
  have h64 : cl ≤ 64 := K.2.2.1
  have hl : lc ≤ 64 := K.2.2.2.1
  have hq : q (c * 6 + d c - 1) = x := (qc_qtop h1 hth).1.trans hp
  have hf : (c * 6 + d c - 1) < 30 := by omega
  have eA : nI ((c * 6 + d c - 1) * 8) + nI a = nI ((c * 6 + d c - 1) * 8 + a) := nI_add _ _
  have eB : nI ((c * 6 + d c - 1) * 8) + nI b = nI ((c * 6 + d c - 1) * 8 + b) := nI_add _ _
  rcases qz_thr (mc := mc) (md := md) (cl := cl) (lc := lc) (cu := c) (st := 1) (rt := 0) (lh := nI h) (rd := 0) (re := re) (oo := oo) (oa := oa) (ob := ob) (oc := oc) (lg := lg) (rg := rg) (tg := tg) (hd := hd) (d := d) (rs := rs) (bd := bd) (n := n) (p := qc_u p (c * 6 + d c - 1) (x + 1)) (fun t => qc_al I) (rg ((c * 6 + d c - 1) * 8 + b)) with ⟨t, t5, hg, hA, hX⟩ | ⟨hg, hno, hX⟩
  · by_cases s0 : s t = 0
    · obtain ⟨htl, t0⟩ := qc_s0 I s0
      rcases I.2.2.2.2.2.2 t t5 htl with o | ⟨-, -, -, o1, o2, -⟩
      · omega
      have I' := qc_tr_close (t := t) hm (qc_tr_pc (x := x + 1) hm I (by omega)) htl (by omega)
      have K' : qc_K mc md cl (qc_uw tg n t (d t) (lg, lc)).2 h (B + 1) oo oa ob oc (qc_u lv t 0) bd := qc_K_c (qc_K_up K) (qc_uw_le _ _ hl) (by rw [qc_uo (by omega)]; exact K.2.2.2.2.2.2.2)
      refine .inl ⟨(nI mc, nI md, nI cl, nI ((qc_uw tg n t (d t) (lg, lc)).2), 1, 0, nI c, nI h, 0, re, oo, oa, ob, oc, (qc_uw tg n t (d t) (lg, lc)).1, (fun zz => nI (hd zz)), (fun zz => nI ((qc_u s t 3) zz)), (fun zz => nI (rs zz)), (fun zz => nI (bd zz)), (fun zz => nI ((qc_u d t 0) zz)), (fun zz => nI ((qc_u p (c * 6 + d c - 1) (x + 1)) zz)), (fun zz => nI (n zz)), (upd rg ((c * 6 + d c - 1) * 8 + a) 1), tg), qz_Rmk K' I' (qz_Za Z (fun _ w => qz_lv0 w) (fun _ => ⟨hmL, qc_uo (by omega), qz_p0 Z h1 hp⟩)), fun P hP => ?_⟩
      · unfold wpX_step; refine qc_xtf _ c5 h1 ?_; refine ⟨vp_in_nI (by omega) (by decide), nm_r ((qc_rd p rfl (by omega)).trans (congrArg nI hp)) (br_t (nI_lt hx (by omega)) (nm_r (qc_m8 _) ⟨vp_in_nI (by omega) (by decide), nm_r ((qc_rr rfl (by omega)).trans ha) ⟨vp_in_nI (by omega) (by decide), nm_r ((qc_rr rfl (by omega)).trans hb) ⟨vp_in_nI (by omega) (by decide), nm_r ((qc_rr rfl (by omega))) ⟨vp_in_nI (by omega) (by decide), nm_r (qc_st rfl (nI_1 x) (by omega)) ⟨vp_in_nI (by omega) (by decide), nm_r ((qc_rr rfl (by omega)).trans ho) (br_f (by decide) (br_f (by decide) (br_f (by decide) (br_f (by decide) (br_f (by decide) (br_f (by decide) (br_f (by decide) (br_f (by decide) (br_f (by decide) (br_f (by decide) (br_f (by decide) (br_f (by decide) (br_f (by decide) (br_f (by decide) (br_f (by decide) (br_f (by decide) (br_f (by decide) (br_f (by decide) (br_f (by decide) (br_t rfl ?_))))))))))))))))))))⟩⟩⟩⟩⟩))⟩
        refine ⟨qc_vi eB (by omega) (by decide), ?_⟩
        rw [qc_rr (f := rg) eB (by omega)]
        unfold wpX_closeHandle
        refine hX _ (br_f (qc_nm1 t5) ⟨vp_in_nI (by omega) (by decide), br_t ?_ ?_⟩)
        · rw [qc_rd s rfl (by omega), s0]; rfl
        · exact qc_xunw _ t5 (by omega) (fun k hk => (o2 k hk).2.2.2.1) hl ⟨vp_in_nI (by omega) (by decide), nm_r (qc_st (x := 3) rfl rfl (by omega)) ⟨qc_vi eA (by omega) (by decide), nm_r (qc_sr eA (by omega) rfl) hP⟩⟩
    · have s12 : s t = 1 ∨ s t = 2 := by
        by_cases t0 : t = 0
        · rw [t0]; exact qc_s00 I
        · have := (hA t0).2; omega
      refine .inr ⟨(nI mc, nI md, nI cl, nI lc, 1, 0, nI c, nI h, 1, (-8), oo, oa, ob, oc, lg, (fun zz => nI (hd zz)), (fun zz => nI (s zz)), (fun zz => nI (rs zz)), (fun zz => nI (bd zz)), (fun zz => nI (d zz)), (fun zz => nI ((qc_u p (c * 6 + d c - 1) (x + 1)) zz)), (fun zz => nI (n zz)), rg, tg), c, -8, qz_Qmk (qc_K_up K) (qc_tr_j hm I) (qz_Za Z (fun _ w => w) (fun _ => ⟨hmL, rfl, qz_p0 Z h1 hp⟩)), fun P hP => ?_⟩
      · unfold wpX_step; refine qc_xtf _ c5 h1 ?_; refine ⟨vp_in_nI (by omega) (by decide), nm_r ((qc_rd p rfl (by omega)).trans (congrArg nI hp)) (br_t (nI_lt hx (by omega)) (nm_r (qc_m8 _) ⟨vp_in_nI (by omega) (by decide), nm_r ((qc_rr rfl (by omega)).trans ha) ⟨vp_in_nI (by omega) (by decide), nm_r ((qc_rr rfl (by omega)).trans hb) ⟨vp_in_nI (by omega) (by decide), nm_r ((qc_rr rfl (by omega))) ⟨vp_in_nI (by omega) (by decide), nm_r (qc_st rfl (nI_1 x) (by omega)) ⟨vp_in_nI (by omega) (by decide), nm_r ((qc_rr rfl (by omega)).trans ho) (br_f (by decide) (br_f (by decide) (br_f (by decide) (br_f (by decide) (br_f (by decide) (br_f (by decide) (br_f (by decide) (br_f (by decide) (br_f (by decide) (br_f (by decide) (br_f (by decide) (br_f (by decide) (br_f (by decide) (br_f (by decide) (br_f (by decide) (br_f (by decide) (br_f (by decide) (br_f (by decide) (br_f (by decide) (br_t rfl ?_))))))))))))))))))))⟩⟩⟩⟩⟩))⟩
        refine ⟨qc_vi eB (by omega) (by decide), ?_⟩
        rw [qc_rr (f := rg) eB (by omega)]
        unfold wpX_closeHandle
        refine hX _ (br_f (qc_nm1 t5) ⟨vp_in_nI (by omega) (by decide), br_f ?_ hP⟩)
        rw [qc_rd s rfl (by omega)]
        exact fun z => s0 ((nI_eq (b := 0) (by omega) (by omega)).mp z)
  · refine .inl ⟨(nI mc, nI md, nI cl, nI lc, 1, 0, nI c, nI h, 0, re, oo, oa, ob, oc, lg, (fun zz => nI (hd zz)), (fun zz => nI (s zz)), (fun zz => nI (rs zz)), (fun zz => nI (bd zz)), (fun zz => nI (d zz)), (fun zz => nI ((qc_u p (c * 6 + d c - 1) (x + 1)) zz)), (fun zz => nI (n zz)), (upd rg ((c * 6 + d c - 1) * 8 + a) 0), tg), qz_Rmk (qc_K_up K) (qc_tr_pc hm I (by omega)) (qz_Za Z (fun _ w => w) (fun _ => ⟨hmL, rfl, qz_p0 Z h1 hp⟩)), fun P hP => ?_⟩
    · unfold wpX_step; refine qc_xtf _ c5 h1 ?_; refine ⟨vp_in_nI (by omega) (by decide), nm_r ((qc_rd p rfl (by omega)).trans (congrArg nI hp)) (br_t (nI_lt hx (by omega)) (nm_r (qc_m8 _) ⟨vp_in_nI (by omega) (by decide), nm_r ((qc_rr rfl (by omega)).trans ha) ⟨vp_in_nI (by omega) (by decide), nm_r ((qc_rr rfl (by omega)).trans hb) ⟨vp_in_nI (by omega) (by decide), nm_r ((qc_rr rfl (by omega))) ⟨vp_in_nI (by omega) (by decide), nm_r (qc_st rfl (nI_1 x) (by omega)) ⟨vp_in_nI (by omega) (by decide), nm_r ((qc_rr rfl (by omega)).trans ho) (br_f (by decide) (br_f (by decide) (br_f (by decide) (br_f (by decide) (br_f (by decide) (br_f (by decide) (br_f (by decide) (br_f (by decide) (br_f (by decide) (br_f (by decide) (br_f (by decide) (br_f (by decide) (br_f (by decide) (br_f (by decide) (br_f (by decide) (br_f (by decide) (br_f (by decide) (br_f (by decide) (br_f (by decide) (br_t rfl ?_))))))))))))))))))))⟩⟩⟩⟩⟩))⟩
      refine ⟨qc_vi eB (by omega) (by decide), ?_⟩
      rw [qc_rr (f := rg) eB (by omega)]
      unfold wpX_closeHandle
      exact hX _ (br_t rfl ⟨qc_vi eA (by omega) (by decide), nm_r (qc_sr eA (by omega) rfl) hP⟩)
end
