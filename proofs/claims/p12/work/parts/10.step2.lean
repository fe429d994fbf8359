section
variable {mc md cl lc cu h B mp mL : Nat} {st rt lh rd re : Int32} {D : Nat → Prop} {oo oa ob oc lg rg tg : Nat → Int32} {hd d s lv rs bd yr p q n m : Nat → Nat} {c r t x a b : Nat} {l L : List Nat}
theorem qc_o7 (K : qc_K mc md cl lc h B oo oa ob oc lv bd) (I : qc_I mc md oo oa ob d s lv rs yr p q n m (c :: l)) (hp : p (c * 6 + d c - 1) = x) (hx : x < cl) (Z : qz_Z hd lv d p h mp mL D (c :: l)) (c0 : c ≠ 0) (ho : oo x = 7) (ha : oa x = nI a) (a8 : a < 8) (hb : ob x = nI b) (b6 : b < 64) {g : Nat} (hc : oc x = nI g) (g8 : g < 8) : qz_Out mc cl oo oa ob oc B (qz_mp c mp) mL D (nI mc, nI md, nI cl, nI lc, 1, 0, nI c, nI h, 0, re, oo, oa, ob, oc, lg, (fun zz => nI (hd zz)), (fun zz => nI (s zz)), (fun zz => nI (rs zz)), (fun zz => nI (bd zz)), (fun zz => nI (d zz)), (fun zz => nI (p zz)), (fun zz => nI (n zz)), rg, tg) := by
  have c5 : c < 5 := I.2.2.1 c List.mem_cons_self
  obtain ⟨h1, hdm, hs1, hlv, hth⟩ := I.2.2.2.2.1
  have hm : md ≤ 6 := K.2.1.2
  have h6 : d c ≤ 6 := by omega
  have h64 : cl ≤ 64 := K.2.2.1
  have hl : lc ≤ 64 := K.2.2.2.1
  have hq : q (c * 6 + d c - 1) = x := (qc_qtop h1 hth).1.trans hp
  have hf : (c * 6 + d c - 1) < 30 := by omega
  have hmL : c = 0 → mp + 1 ≤ mL := fun z => absurd z c0
  have eC : nI ((c * 6 + d c - 1) * 8) + nI g = nI ((c * 6 + d c - 1) * 8 + g) := nI_add _ _
  by_cases hd1 : d c < md
  · have cd : (fun zz => nI (d zz)) (nI c).toNatClampNeg < nI md := by rw [qc_rd d rfl (by omega)]; exact nI_lt hd1 (by omega)
    refine .inl ⟨(nI mc, nI md, nI cl, nI lc, 1, 0, nI c, nI h, 0, re, oo, oa, ob, oc, lg, (fun zz => nI (hd zz)), (fun zz => nI (s zz)), (fun zz => nI (rs zz)), (fun zz => nI (bd zz)), (fun zz => nI ((qc_u d c (d c + 1)) zz)), (fun zz => nI ((qc_u (qc_u p (c * 6 + d c - 1) (x + 1)) (c * 6 + d c) b) zz)), (fun zz => nI ((qc_u n (c * 6 + d c) 0) zz)), (qc_pr rg ((c * 6 + d c) * 8) (rg ((c * 6 + d c - 1) * 8 + g))), tg), qz_Rmk (qc_K_up K) (qc_tr_call hm I hd1 ⟨by omega, by omega, a, a8, ha⟩ (by omega)) (qz_Za Z (fun _ w => w) (fun _ => ⟨hmL, qc_uo (by omega), (qc_uo (by omega)).trans (qz_p1 c0 h1 _)⟩)), fun P hP => ?_⟩
    · unfold wpX_step; refine qc_xtf _ c5 h1 ?_; refine ⟨vp_in_nI (by omega) (by decide), nm_r ((qc_rd p rfl (by omega)).trans (congrArg nI hp)) (br_t (nI_lt hx (by omega)) (nm_r (qc_m8 _) ⟨vp_in_nI (by omega) (by decide), nm_r ((qc_rr rfl (by omega)).trans ha) ⟨vp_in_nI (by omega) (by decide), nm_r ((qc_rr rfl (by omega)).trans hb) ⟨vp_in_nI (by omega) (by decide), nm_r ((qc_rr rfl (by omega)).trans hc) ⟨vp_in_nI (by omega) (by decide), nm_r (qc_st rfl (nI_1 x) (by omega)) ⟨vp_in_nI (by omega) (by decide), nm_r ((qc_rr rfl (by omega)).trans ho) (br_f (by decide) (br_f (by decide) (br_f (by decide) (br_f (by decide) (br_f (by decide) (br_f (by decide) (br_f (by decide) (br_f (by decide) (br_f (by decide) (br_t rfl ?_))))))))))⟩⟩⟩⟩⟩))⟩
      refine ⟨qc_vi eC (by omega) (by decide), ?_⟩
      rw [qc_rr (f := rg) eC (by omega)]
      exact ⟨vp_in_nI (by omega) (by decide), br_t cd (qc_xpush _ _ c5 (by omega) hP)⟩
  · have cd : ¬ (fun zz => nI (d zz)) (nI c).toNatClampNeg < nI md := by rw [qc_rd d rfl (by omega)]; exact nI_nlt (by omega) (by omega)
    refine .inr ⟨(nI mc, nI md, nI cl, nI lc, 1, 0, nI c, nI h, 1, (-4), oo, oa, ob, oc, lg, (fun zz => nI (hd zz)), (fun zz => nI (s zz)), (fun zz => nI (rs zz)), (fun zz => nI (bd zz)), (fun zz => nI (d zz)), (fun zz => nI ((qc_u p (c * 6 + d c - 1) (x + 1)) zz)), (fun zz => nI (n zz)), rg, tg), c, -4, qz_Qmk (qc_K_up K) (qc_tr_j hm I) (qz_Za Z (fun _ w => w) (fun _ => ⟨hmL, rfl, qz_p0 Z h1 hp⟩)), fun P hP => ?_⟩
    · unfold wpX_step; refine qc_xtf _ c5 h1 ?_; refine ⟨vp_in_nI (by omega) (by decide), nm_r ((qc_rd p rfl (by omega)).trans (congrArg nI hp)) (br_t (nI_lt hx (by omega)) (nm_r (qc_m8 _) ⟨vp_in_nI (by omega) (by decide), nm_r ((qc_rr rfl (by omega)).trans ha) ⟨vp_in_nI (by omega) (by decide), nm_r ((qc_rr rfl (by omega)).trans hb) ⟨vp_in_nI (by omega) (by decide), nm_r ((qc_rr rfl (by omega)).trans hc) ⟨vp_in_nI (by omega) (by decide), nm_r (qc_st rfl (nI_1 x) (by omega)) ⟨vp_in_nI (by omega) (by decide), nm_r ((qc_rr rfl (by omega)).trans ho) (br_f (by decide) (br_f (by decide) (br_f (by decide) (br_f (by decide) (br_f (by decide) (br_f (by decide) (br_f (by decide) (br_f (by decide) (br_f (by decide) (br_t rfl ?_))))))))))⟩⟩⟩⟩⟩))⟩
      exact ⟨qc_vi eC (by omega) (by decide), vp_in_nI (by omega) (by decide), br_f cd hP⟩
theorem qc_o8a (K : qc_K mc md cl lc h B oo oa ob oc lv bd) (I : qc_I mc md oo oa ob d s lv rs yr p q n m (c :: l)) (hp : p (c * 6 + d c - 1) = x) (hx : x < cl) (Z : qz_Z hd lv d p h mp mL D (c :: l)) (ho : oo x = 8) (ha : oa x = nI a) (a8 : a < 8) (hd1 : 1 < d c) : qz_Out mc cl oo oa ob oc B (qz_mp c mp) mL D (nI mc, nI md, nI cl, nI lc, 1, 0, nI c, nI h, 0, re, oo, oa, ob, oc, lg, (fun zz => nI (hd zz)), (fun zz => nI (s zz)), (fun zz => nI (rs zz)), (fun zz => nI (bd zz)), (fun zz => nI (d zz)), (fun zz => nI (p zz)), (fun zz => nI (n zz)), rg, tg) := by
  have c5 : c < 5 := I.2.2.1 c List.mem_cons_self
  obtain ⟨h1, hdm, hs1, hlv, hth⟩ := I.2.2.2.2.1
  have hm : md ≤ 6 := K.2.1.2
  have h6 : d c ≤ 6 := by omega
  have h64 : cl ≤ 64 := K.2.2.1
  have hl : lc ≤ 64 := K.2.2.2.1
  have hq : q (c * 6 + d c - 1) = x := (qc_qtop h1 hth).1.trans hp
  have hf : (c * 6 + d c - 1) < 30 := by omega
  have c0 : c ≠ 0 := fun z => by
    have w := (Z.2.2 (by simp)).1
    rw [z] at hd1
    omega
  have hmL : c = 0 → mp + 1 ≤ mL := fun z => absurd z c0
  have eA : nI ((c * 6 + d c - 1) * 8) + nI a = nI ((c * 6 + d c - 1) * 8 + a) := nI_add _ _
  obtain ⟨-, hmn, hn4⟩ := qc_qtop h1 hth
  obtain ⟨y0, -, -, -, y3⟩ := hth (d c - 2) (by omega)
  obtain ⟨y1, y64, a', a'8, ha'⟩ := y3 (by omega)
  have G : c * 6 + (d c - 2) = c * 6 + d c - 2 := by omega
  rw [G] at y0 y1 y64 ha'
  have eI : nI (c * 6 + d c - 2) * 8 + oa (nI (p (c * 6 + d c - 2) - 1)).toNatClampNeg = nI ((c * 6 + d c - 2) * 8 + a') := qc_fr8 rfl ((qc_rr rfl (by omega)).trans ha')
  have eJ : nI (c * 6 + d c - 2) * 8 + (oa (nI (p (c * 6 + d c - 2) - 1)).toNatClampNeg &&& 7) = nI ((c * 6 + d c - 2) * 8 + a') := qc_fr8 rfl (by rw [nI_clamp (by omega), ha', qc_a7 a'8])
  have cd : ¬ (fun zz => nI (qc_u d c (d c - 1) zz)) (nI c).toNatClampNeg ≤ 0 := by
    rw [qc_rd (qc_u d c (d c - 1)) rfl (by omega), qc_us]
    exact nI_nle (by omega) (by omega)
  have eF : c * 6 + qc_u d c (d c - 1) c - 1 = c * 6 + d c - 2 := by rw [qc_us]; omega
  refine .inl ⟨(nI mc, nI md, nI cl, nI ((qc_cl tg (c * 6 + d c - 1) (n (c * 6 + d c - 1)) (lg, lc)).2), 1, 0, nI c, nI h, 0, re, oo, oa, ob, oc, (qc_cl tg (c * 6 + d c - 1) (n (c * 6 + d c - 1)) (lg, lc)).1, (fun zz => nI (hd zz)), (fun zz => nI (s zz)), (fun zz => nI (rs zz)), (fun zz => nI (bd zz)), (fun zz => nI ((qc_u d c (d c - 1)) zz)), (fun zz => nI ((qc_u p (c * 6 + d c - 1) (x + 1)) zz)), (fun zz => nI (n zz)), (upd rg ((c * 6 + d c - 2) * 8 + a') (rg ((c * 6 + d c - 1) * 8 + a))), tg), qz_Rmk (qc_K_c (qc_K_up K) (qc_cl_le _ _ hl) K.2.2.2.2.2.2.2) (qc_tr_ret1 hm I hd1) (qz_Za Z (fun _ w => w) (fun _ => ⟨hmL, qc_uo (by omega), qz_p0 Z h1 hp⟩)), fun P hP => ?_⟩
  · unfold wpX_step; refine qc_xtf _ c5 h1 ?_; refine ⟨vp_in_nI (by omega) (by decide), nm_r ((qc_rd p rfl (by omega)).trans (congrArg nI hp)) (br_t (nI_lt hx (by omega)) (nm_r (qc_m8 _) ⟨vp_in_nI (by omega) (by decide), nm_r ((qc_rr rfl (by omega)).trans ha) ⟨vp_in_nI (by omega) (by decide), nm_r ((qc_rr rfl (by omega))) ⟨vp_in_nI (by omega) (by decide), nm_r ((qc_rr rfl (by omega))) ⟨vp_in_nI (by omega) (by decide), nm_r (qc_st rfl (nI_1 x) (by omega)) ⟨vp_in_nI (by omega) (by decide), nm_r ((qc_rr rfl (by omega)).trans ho) (br_f (by decide) (br_f (by decide) (br_f (by decide) (br_f (by decide) (br_f (by decide) (br_f (by decide) (br_f (by decide) (br_f (by decide) (br_f (by decide) (br_f (by decide) (br_t rfl ?_)))))))))))⟩⟩⟩⟩⟩))⟩
    refine ⟨qc_vi eA (by omega) (by decide), ?_⟩
    rw [qc_rr (f := rg) eA (by omega)]
    unfold wpX_leaveFunction
    refine qc_xpop _ c5 h1 h6 hn4 hl ?_
    refine ⟨vp_in_nI (by omega) (by decide), br_f cd ?_⟩
    refine qc_xtf (d := qc_u d c (d c - 1)) _ c5 (by rw [qc_us]; omega) ?_
    rw [eF]
    exact ⟨vp_in_nI (by omega) (by decide), nm_r (qc_de1 ((qc_rd (qc_u p (c * 6 + d c - 1) (x + 1)) rfl (by omega)).trans (congrArg nI (qc_uo (by omega)))) y1) ⟨vp_in_nI (by omega) (by decide), qc_vi eI (by omega) (by decide), nm_r (qc_sr eI (by omega) rfl) hP⟩⟩
theorem qc_tr_ret4 (hm : md ≤ 6) (I : qc_I mc md oo oa ob d s lv rs yr p q n m [c]) (h0 : lv 0 = 0) (hd : d c = 1) :
    qc_I mc md oo oa ob (qc_u d c (d c - 1)) (qc_u s c 3) lv rs yr (qc_u p (c * 6 + d c - 1) x) q n (qc_u m (c * 6 + d c - 1) 0) [] := by
  have c0 : c = 0 := I.1
  subst c0
  exact qc_tr_ret3 hm I h0 hd
theorem qc_o8b (K : qc_K mc md cl lc h B oo oa ob oc lv bd) (I : qc_I mc md oo oa ob d s lv rs yr p q n m (c :: l)) (hp : p (c * 6 + d c - 1) = x) (hx : x < cl) (Z : qz_Z hd lv d p h mp mL D (c :: l)) (ho : oo x = 8) (ha : oa x = nI a) (a8 : a < 8) (hd1 : d c = 1) (c0 : c = 0) : qz_Out mc cl oo oa ob oc B (qz_mp c mp) mL D (nI mc, nI md, nI cl, nI lc, 1, 0, nI c, nI h, 0, re, oo, oa, ob, oc, lg, (fun zz => nI (hd zz)), (fun zz => nI (s zz)), (fun zz => nI (rs zz)), (fun zz => nI (bd zz)), (fun zz => nI (d zz)), (fun zz => nI (p zz)), (fun zz => nI (n zz)), rg, tg) := by
  have c5 : c < 5 := I.2.2.1 c List.mem_cons_self
  obtain ⟨h1, hdm, hs1, hlv, hth⟩ := I.2.2.2.2.1
  have hm : md ≤ 6 := K.2.1.2
  have h6 : d c ≤ 6 := by omega
  have h64 : cl ≤ 64 := K.2.2.1
  have hl : lc ≤ 64 := K.2.2.2.1
  have hq : q (c * 6 + d c - 1) = x := (qc_qtop h1 hth).1.trans hp
  have hf : (c * 6 + d c - 1) < 30 := by omega
  have l0 : l = [] := by
    have := I.1
    rw [c0] at this
    exact qc_Lk_2 this
  subst l0
  have z0 : nI c = 0 := by rw [c0]; rfl
  have eA : nI ((c * 6 + d c - 1) * 8) + nI a = nI ((c * 6 + d c - 1) * 8 + a) := nI_add _ _
  obtain ⟨-, hmn, hn4⟩ := qc_qtop h1 hth
  have cd : (fun zz => nI (qc_u d c (d c - 1) zz)) (nI c).toNatClampNeg ≤ 0 := by
    rw [qc_rd (qc_u d c (d c - 1)) rfl (by omega), qc_us, hd1]
    decide
  refine .inl ⟨(nI mc, nI md, nI cl, nI ((qc_cl tg (c * 6 + d c - 1) (n (c * 6 + d c - 1)) (lg, lc)).2), 2, (rg ((c * 6 + d c - 1) * 8 + a)), nI c, nI h, 0, re, oo, oa, ob, oc, (qc_cl tg (c * 6 + d c - 1) (n (c * 6 + d c - 1)) (lg, lc)).1, (fun zz => nI (hd zz)), (fun zz => nI ((qc_u s c 3) zz)), (fun zz => nI (rs zz)), (fun zz => nI (bd zz)), (fun zz => nI ((qc_u d c (d c - 1)) zz)), (fun zz => nI ((qc_u p (c * 6 + d c - 1) (x + 1)) zz)), (fun zz => nI (n zz)), rg, tg), ?_, fun P hP => ?_⟩
  · exact ⟨_, _, _, _, _, _, _, _, _, _, _, _, _, _, _, _, _, _, _, _, _, [], rfl, qc_K_c (qc_K_up K) (qc_cl_le _ _ hl) K.2.2.2.2.2.2.2, .inr (.inr ⟨.inl rfl, rfl⟩), ⟨fun c l z => (nomatch z), fun z => absurd z (by decide)⟩, qc_tr_ret4 hm I K.2.2.2.2.2.2.2 hd1, qz_Za Z (fun _ w => w) (fun z => absurd rfl z)⟩
  · unfold wpX_step; refine qc_xtf _ c5 h1 ?_; refine ⟨vp_in_nI (by omega) (by decide), nm_r ((qc_rd p rfl (by omega)).trans (congrArg nI hp)) (br_t (nI_lt hx (by omega)) (nm_r (qc_m8 _) ⟨vp_in_nI (by omega) (by decide), nm_r ((qc_rr rfl (by omega)).trans ha) ⟨vp_in_nI (by omega) (by decide), nm_r ((qc_rr rfl (by omega))) ⟨vp_in_nI (by omega) (by decide), nm_r ((qc_rr rfl (by omega))) ⟨vp_in_nI (by omega) (by decide), nm_r (qc_st rfl (nI_1 x) (by omega)) ⟨vp_in_nI (by omega) (by decide), nm_r ((qc_rr rfl (by omega)).trans ho) (br_f (by decide) (br_f (by decide) (br_f (by decide) (br_f (by decide) (br_f (by decide) (br_f (by decide) (br_f (by decide) (br_f (by decide) (br_f (by decide) (br_f (by decide) (br_t rfl ?_)))))))))))⟩⟩⟩⟩⟩))⟩
    refine ⟨qc_vi eA (by omega) (by decide), ?_⟩
    rw [qc_rr (f := rg) eA (by omega)]
    unfold wpX_leaveFunction
    refine qc_xpop _ c5 h1 h6 hn4 hl ?_
    exact ⟨vp_in_nI (by omega) (by decide), br_t cd (br_t z0 (nm_r ((qc_uI _ 0 3).trans (by rw [c0])) hP))⟩
theorem qc_o8c (K : qc_K mc md cl lc h B oo oa ob oc lv bd) (I : qc_I mc md oo oa ob d s lv rs yr p q n m (c :: l)) (hp : p (c * 6 + d c - 1) = x) (hx : x < cl) (Z : qz_Z hd lv d p h mp mL D (c :: l)) (ho : oo x = 8) (ha : oa x = nI a) (a8 : a < 8) (hd1 : d c = 1) (c0 : c ≠ 0) : qz_Out mc cl oo oa ob oc B (qz_mp c mp) mL D (nI mc, nI md, nI cl, nI lc, 1, 0, nI c, nI h, 0, re, oo, oa, ob, oc, lg, (fun zz => nI (hd zz)), (fun zz => nI (s zz)), (fun zz => nI (rs zz)), (fun zz => nI (bd zz)), (fun zz => nI (d zz)), (fun zz => nI (p zz)), (fun zz => nI (n zz)), rg, tg) := by
  have c5 : c < 5 := I.2.2.1 c List.mem_cons_self
  obtain ⟨h1, hdm, hs1, hlv, hth⟩ := I.2.2.2.2.1
  have hm : md ≤ 6 := K.2.1.2
  have h6 : d c ≤ 6 := by omega
  have h64 : cl ≤ 64 := K.2.2.1
  have hl : lc ≤ 64 := K.2.2.2.1
  have hq : q (c * 6 + d c - 1) = x := (qc_qtop h1 hth).1.trans hp
  have hf : (c * 6 + d c - 1) < 30 := by omega
  have hmL : c = 0 → mp + 1 ≤ mL := fun z => absurd z c0
  obtain ⟨r, l', rfl, hrs⟩ := qc_Lk_1 I.1 c0
  have eA : nI ((c * 6 + d c - 1) * 8) + nI a = nI ((c * 6 + d c - 1) * 8 + a) := nI_add _ _
  obtain ⟨-, hmn, hn4⟩ := qc_qtop h1 hth
  have cd : (fun zz => nI (qc_u d c (d c - 1) zz)) (nI c).toNatClampNeg ≤ 0 := by
    rw [qc_rd (qc_u d c (d c - 1)) rfl (by omega), qc_us, hd1]
    decide
  have r5 : r < 5 := I.2.2.1 r (List.mem_cons_of_mem _ List.mem_cons_self)
  have hN := I.2.2.2.2.2.1 r List.mem_cons_self
  have hc : c ∉ r :: l' := (List.nodup_cons.mp I.2.1).1
  have hrc : r ≠ c := fun z => hc (by rw [z]; exact List.mem_cons_self)
  have er : qc_u d c (d c - 1) r = d r := qc_uo hrc
  obtain ⟨N1, N2, N3, N4, N5, ⟨y1, y64, a', a'8, ha'⟩, No⟩ := hN
  have hq' := (qc_qtop N1 N5).1
  have hp2 : qc_u p (c * 6 + d c - 1) (x + 1) (r * 6 + qc_u d c (d c - 1) r - 1) = p (r * 6 + d r - 1) := by rw [er]; exact qc_uo (by omega)
  have hq2 : q (r * 6 + qc_u d c (d c - 1) r - 1) = p (r * 6 + d r - 1) := by rw [er]; exact hq'
  have I' := qc_tr_ret2 (x := x + 1) hm I hd1
  have z0 : ¬ nI c = 0 := fun z => c0 ((nI_eq (b := 0) (by omega) (by omega)).mp z)
  have K' : qc_K mc md cl (qc_cl tg (c * 6 + d c - 1) (n (c * 6 + d c - 1)) (lg, lc)).2 h (B + 1) oo oa ob oc (qc_u lv c 0) bd := qc_K_c (qc_K_up K) (qc_cl_le _ _ hl) (by rw [qc_uo (by omega)]; exact K.2.2.2.2.2.2.2)
  rcases No with No | No
  · refine .inl ⟨(nI mc, nI md, nI cl, nI ((qc_cl tg (c * 6 + d c - 1) (n (c * 6 + d c - 1)) (lg, lc)).2), 1, 0, nI r, nI h, 0, re, oo, oa, ob, oc, (qc_cl tg (c * 6 + d c - 1) (n (c * 6 + d c - 1)) (lg, lc)).1, (fun zz => nI (hd zz)), (fun zz => nI ((qc_u (qc_u s c 3) r 1) zz)), (fun zz => nI (rs zz)), (fun zz => nI (bd zz)), (fun zz => nI ((qc_u d c (d c - 1)) zz)), (fun zz => nI ((qc_u p (c * 6 + d c - 1) (x + 1)) zz)), (fun zz => nI (n zz)), (upd (upd rg ((r * 6 + qc_u d c (d c - 1) r - 1) * 8 + a') (rg ((c * 6 + d c - 1) * 8 + a))) ((r * 6 + qc_u d c (d c - 1) r - 1) * 8 + (a' + 1) % 8) 1), tg), qz_Rmk K' I' (qz_Za Z (fun _ w => qz_lv0 w) (fun _ => ⟨hmL, qc_uo (by omega), qz_p0 Z h1 hp⟩)), fun P hP => ?_⟩
    unfold wpX_step; refine qc_xtf _ c5 h1 ?_; refine ⟨vp_in_nI (by omega) (by decide), nm_r ((qc_rd p rfl (by omega)).trans (congrArg nI hp)) (br_t (nI_lt hx (by omega)) (nm_r (qc_m8 _) ⟨vp_in_nI (by omega) (by decide), nm_r ((qc_rr rfl (by omega)).trans ha) ⟨vp_in_nI (by omega) (by decide), nm_r ((qc_rr rfl (by omega))) ⟨vp_in_nI (by omega) (by decide), nm_r ((qc_rr rfl (by omega))) ⟨vp_in_nI (by omega) (by decide), nm_r (qc_st rfl (nI_1 x) (by omega)) ⟨vp_in_nI (by omega) (by decide), nm_r ((qc_rr rfl (by omega)).trans ho) (br_f (by decide) (br_f (by decide) (br_f (by decide) (br_f (by decide) (br_f (by decide) (br_f (by decide) (br_f (by decide) (br_f (by decide) (br_f (by decide) (br_f (by decide) (br_t rfl ?_)))))))))))⟩⟩⟩⟩⟩))⟩
    refine ⟨qc_vi eA (by omega) (by decide), ?_⟩
    rw [qc_rr (f := rg) eA (by omega)]
    unfold wpX_leaveFunction
    refine qc_xpop _ c5 h1 h6 hn4 hl ?_
    refine ⟨vp_in_nI (by omega) (by decide), br_t cd (br_f z0 ⟨vp_in_nI (by omega) (by decide), nm_r (qc_st (x := 3) rfl rfl (by omega)) ⟨vp_in_nI (by omega) (by decide), ?_⟩⟩)⟩
    rw [qc_rd rs rfl (by omega), hrs]
    exact qc_xc13 _ r5 (by rw [er]; exact N1) (by rw [er]; omega) hp2 y1 y64 ha' a'8 No _ _ 1 (fun z => absurd z (by decide)) (fun _ => rfl) hP
  · refine .inl ⟨(nI mc, nI md, nI cl, nI ((qc_cl tg (c * 6 + d c - 1) (n (c * 6 + d c - 1)) (lg, lc)).2), 1, 0, nI r, nI h, 0, re, oo, oa, ob, oc, (qc_cl tg (c * 6 + d c - 1) (n (c * 6 + d c - 1)) (lg, lc)).1, (fun zz => nI (hd zz)), (fun zz => nI ((qc_u (qc_u s c 3) r 1) zz)), (fun zz => nI (rs zz)), (fun zz => nI (bd zz)), (fun zz => nI ((qc_u d c (d c - 1)) zz)), (fun zz => nI ((qc_u p (c * 6 + d c - 1) (x + 1)) zz)), (fun zz => nI (n zz)), (upd rg ((r * 6 + qc_u d c (d c - 1) r - 1) * 8 + a') (rg ((c * 6 + d c - 1) * 8 + a))), tg), qz_Rmk K' I' (qz_Za Z (fun _ w => qz_lv0 w) (fun _ => ⟨hmL, qc_uo (by omega), qz_p0 Z h1 hp⟩)), fun P hP => ?_⟩
    unfold wpX_step; refine qc_xtf _ c5 h1 ?_; refine ⟨vp_in_nI (by omega) (by decide), nm_r ((qc_rd p rfl (by omega)).trans (congrArg nI hp)) (br_t (nI_lt hx (by omega)) (nm_r (qc_m8 _) ⟨vp_in_nI (by omega) (by decide), nm_r ((qc_rr rfl (by omega)).trans ha) ⟨vp_in_nI (by omega) (by decide), nm_r ((qc_rr rfl (by omega))) ⟨vp_in_nI (by omega) (by decide), nm_r ((qc_rr rfl (by omega))) ⟨vp_in_nI (by omega) (by decide), nm_r (qc_st rfl (nI_1 x) (by omega)) ⟨vp_in_nI (by omega) (by decide), nm_r ((qc_rr rfl (by omega)).trans ho) (br_f (by decide) (br_f (by decide) (br_f (by decide) (br_f (by decide) (br_f (by decide) (br_f (by decide) (br_f (by decide) (br_f (by decide) (br_f (by decide) (br_f (by decide) (br_t rfl ?_)))))))))))⟩⟩⟩⟩⟩))⟩
    refine ⟨qc_vi eA (by omega) (by decide), ?_⟩
    rw [qc_rr (f := rg) eA (by omega)]
    unfold wpX_leaveFunction
    refine qc_xpop _ c5 h1 h6 hn4 hl ?_
    refine ⟨vp_in_nI (by omega) (by decide), br_t cd (br_f z0 ⟨vp_in_nI (by omega) (by decide), nm_r (qc_st (x := 3) rfl rfl (by omega)) ⟨vp_in_nI (by omega) (by decide), ?_⟩⟩)⟩
    rw [qc_rd rs rfl (by omega), hrs]
    exact qc_xc14 _ r5 (by rw [er]; exact N1) (by rw [er]; omega) hp2 y1 y64 ha' a'8 No _ _ (by decide) hP
theorem qc_o8 (K : qc_K mc md cl lc h B oo oa ob oc lv bd) (I : qc_I mc md oo oa ob d s lv rs yr p q n m (c :: l)) (hp : p (c * 6 + d c - 1) = x) (hx : x < cl) (Z : qz_Z hd lv d p h mp mL D (c :: l)) (ho : oo x = 8) (ha : oa x = nI a) (a8 : a < 8) : qz_Out mc cl oo oa ob oc B (qz_mp c mp) mL D (nI mc, nI md, nI cl, nI lc, 1, 0, nI c, nI h, 0, re, oo, oa, ob, oc, lg, (fun zz => nI (hd zz)), (fun zz => nI (s zz)), (fun zz => nI (rs zz)), (fun zz => nI (bd zz)), (fun zz => nI (d zz)), (fun zz => nI (p zz)), (fun zz => nI (n zz)), rg, tg) := by
  by_cases hd1 : 1 < d c
  · exact qc_o8a K I hp hx Z ho ha a8 hd1
  · have hd' : d c = 1 := by have := I.2.2.2.2.1.1; omega
    by_cases c0 : c = 0
    · exact qc_o8b K I hp hx Z ho ha a8 hd' c0
    · exact qc_o8c K I hp hx Z ho ha a8 hd' c0
theorem qc_o10 (K : qc_K mc md cl lc h B oo oa ob oc lv bd) (I : qc_I mc md oo oa ob d s lv rs yr p q n m (c :: l)) (hp : p (c * 6 + d c - 1) = x) (hx : x < cl) (Z : qz_Z hd lv d p h mp mL D (c :: l)) (c0 : c ≠ 0) (ho : oo x = 10) (ha : oa x = nI a) (a8 : a < 8) : qz_Out mc cl oo oa ob oc B (qz_mp c mp) mL D (nI mc, nI md, nI cl, nI lc, 1, 0, nI c, nI h, 0, re, oo, oa, ob, oc, lg, (fun zz => nI (hd zz)), (fun zz => nI (s zz)), (fun zz => nI (rs zz)), (fun zz => nI (bd zz)), (fun zz => nI (d zz)), (fun zz => nI (p zz)), (fun zz => nI (n zz)), rg, tg) := by
  have c5 : c < 5 := I.2.2.1 c List.mem_cons_self
  obtain ⟨h1, hdm, hs1, hlv, hth⟩ := I.2.2.2.2.1
  have hm : md ≤ 6 := K.2.1.2
  have h6 : d c ≤ 6 := by omega
  have h64 : cl ≤ 64 := K.2.2.1
  have hl : lc ≤ 64 := K.2.2.2.1
  have hq : q (c * 6 + d c - 1) = x := (qc_qtop h1 hth).1.trans hp
  have hf : (c * 6 + d c - 1) < 30 := by omega
  have hmL : c = 0 → mp + 1 ≤ mL := fun z => absurd z c0
  have eA : nI ((c * 6 + d c - 1) * 8) + nI a = nI ((c * 6 + d c - 1) * 8 + a) := nI_add _ _
  obtain ⟨-, hmn, hn4⟩ := qc_qtop h1 hth
  have rn : (fun zz => nI (n zz)) (nI (c * 6 + d c - 1)).toNatClampNeg = nI (n (c * 6 + d c - 1)) := qc_rd n rfl (by omega)
  have rm : (fun zz => nI (m zz)) (nI (c * 6 + d c - 1)).toNatClampNeg = nI (n (c * 6 + d c - 1)) := (qc_rd m rfl (by omega)).trans (congrArg nI hmn)
  by_cases z : n (c * 6 + d c - 1) < 4
  · have e4 : nI (c * 6 + d c - 1) * 4 + (fun zz => nI (n zz)) (nI (c * 6 + d c - 1)).toNatClampNeg = nI ((c * 6 + d c - 1) * 4 + n (c * 6 + d c - 1)) := qc_fr4 rfl rn
    have e5 : nI (c * 6 + d c - 1) * 4 + (fun zz => nI (m zz)) (nI (c * 6 + d c - 1)).toNatClampNeg = nI ((c * 6 + d c - 1) * 4 + n (c * 6 + d c - 1)) := qc_fr4 rfl rm
    refine .inl ⟨(nI mc, nI md, nI cl, nI lc, 1, 0, nI c, nI h, 0, re, oo, oa, ob, oc, lg, (fun zz => nI (hd zz)), (fun zz => nI (s zz)), (fun zz => nI (rs zz)), (fun zz => nI (bd zz)), (fun zz => nI (d zz)), (fun zz => nI ((qc_u p (c * 6 + d c - 1) (x + 1)) zz)), (fun zz => nI ((qc_u n (c * 6 + d c - 1) (n (c * 6 + d c - 1) + 1)) zz)), rg, (upd tg ((c * 6 + d c - 1) * 4 + n (c * 6 + d c - 1)) (rg ((c * 6 + d c - 1) * 8 + a)))), qz_Rmk (qc_K_up K) (qc_tr_defer hm (qc_tr_pc hm I (by omega)) (by omega)) (qz_Za Z (fun _ w => w) (fun _ => ⟨hmL, rfl, qz_p0 Z h1 hp⟩)), fun P hP => ?_⟩
    · unfold wpX_step; refine qc_xtf _ c5 h1 ?_; refine ⟨vp_in_nI (by omega) (by decide), nm_r ((qc_rd p rfl (by omega)).trans (congrArg nI hp)) (br_t (nI_lt hx (by omega)) (nm_r (qc_m8 _) ⟨vp_in_nI (by omega) (by decide), nm_r ((qc_rr rfl (by omega)).trans ha) ⟨vp_in_nI (by omega) (by decide), nm_r ((qc_rr rfl (by omega))) ⟨vp_in_nI (by omega) (by decide), nm_r ((qc_rr rfl (by omega))) ⟨vp_in_nI (by omega) (by decide), nm_r (qc_st rfl (nI_1 x) (by omega)) ⟨vp_in_nI (by omega) (by decide), nm_r ((qc_rr rfl (by omega)).trans ho) (br_f (by decide) (br_f (by decide) (br_f (by decide) (br_f (by decide) (br_f (by decide) (br_f (by decide) (br_f (by decide) (br_f (by decide) (br_f (by decide) (br_f (by decide) (br_f (by decide) (br_f (by decide) (br_t rfl ?_)))))))))))))⟩⟩⟩⟩⟩))⟩
      refine ⟨qc_vi eA (by omega) (by decide), ?_⟩
      rw [qc_rr (f := rg) eA (by omega)]
      exact ⟨vp_in_nI (by omega) (by decide), br_t (by rw [rn]; exact nI_lt (b := 4) z (by decide)) ⟨vp_in_nI (by omega) (by decide), qc_vi e4 (by omega) (by decide), nm_r (qc_sr e4 (by omega) rfl) ⟨vp_in_nI (by omega) (by decide), vp_in_nI (by omega) (by decide), nm_r (qc_st rfl (qc_in1 rn) (by omega)) hP⟩⟩⟩
  · refine .inr ⟨(nI mc, nI md, nI cl, nI lc, 1, 0, nI c, nI h, 1, (-6), oo, oa, ob, oc, lg, (fun zz => nI (hd zz)), (fun zz => nI (s zz)), (fun zz => nI (rs zz)), (fun zz => nI (bd zz)), (fun zz => nI (d zz)), (fun zz => nI ((qc_u p (c * 6 + d c - 1) (x + 1)) zz)), (fun zz => nI (n zz)), rg, tg), c, -6, qz_Qmk (qc_K_up K) (qc_tr_j hm I) (qz_Za Z (fun _ w => w) (fun _ => ⟨hmL, rfl, qz_p0 Z h1 hp⟩)), fun P hP => ?_⟩
    · unfold wpX_step; refine qc_xtf _ c5 h1 ?_; refine ⟨vp_in_nI (by omega) (by decide), nm_r ((qc_rd p rfl (by omega)).trans (congrArg nI hp)) (br_t (nI_lt hx (by omega)) (nm_r (qc_m8 _) ⟨vp_in_nI (by omega) (by decide), nm_r ((qc_rr rfl (by omega)).trans ha) ⟨vp_in_nI (by omega) (by decide), nm_r ((qc_rr rfl (by omega))) ⟨vp_in_nI (by omega) (by decide), nm_r ((qc_rr rfl (by omega))) ⟨vp_in_nI (by omega) (by decide), nm_r (qc_st rfl (nI_1 x) (by omega)) ⟨vp_in_nI (by omega) (by decide), nm_r ((qc_rr rfl (by omega)).trans ho) (br_f (by decide) (br_f (by decide) (br_f (by decide) (br_f (by decide) (br_f (by decide) (br_f (by decide) (br_f (by decide) (br_f (by decide) (br_f (by decide) (br_f (by decide) (br_f (by decide) (br_f (by decide) (br_t rfl ?_)))))))))))))⟩⟩⟩⟩⟩))⟩
      exact ⟨qc_vi eA (by omega) (by decide), vp_in_nI (by omega) (by decide), br_f (by rw [rn]; exact nI_nlt (b := 4) (by omega) (by omega)) hP⟩
theorem qc_o15 (K : qc_K mc md cl lc h B oo oa ob oc lv bd) (I : qc_I mc md oo oa ob d s lv rs yr p q n m (c :: l)) (hp : p (c * 6 + d c - 1) = x) (hx : x < cl) (Z : qz_Z hd lv d p h mp mL D (c :: l)) (c0 : c ≠ 0) (ho : oo x = 15) (ha : oa x = nI a) (a8 : a < 8) (hb : ob x = nI b) (b8 : b < 8) : qz_Out mc cl oo oa ob oc B (qz_mp c mp) mL D (nI mc, nI md, nI cl, nI lc, 1, 0, nI c, nI h, 0, re, oo, oa, ob, oc, lg, (fun zz => nI (hd zz)), (fun zz => nI (s zz)), (fun zz => nI (rs zz)), (fun zz => nI (bd zz)), (fun zz => nI (d zz)), (fun zz => nI (p zz)), (fun zz => nI (n zz)), rg, tg) := by
  have c5 : c < 5 := I.2.2.1 c List.mem_cons_self
  obtain ⟨h1, hdm, hs1, hlv, hth⟩ := I.2.2.2.2.1
  have hm : md ≤ 6 := K.2.1.2
  have h6 : d c ≤ 6 := by omega
  have h64 : cl ≤ 64 := K.2.2.1
  have hl : lc ≤ 64 := K.2.2.2.1
  have hq : q (c * 6 + d c - 1) = x := (qc_qtop h1 hth).1.trans hp
  have hf : (c * 6 + d c - 1) < 30 := by omega
  have hmL : c = 0 → mp + 1 ≤ mL := fun z => absurd z c0
  have eA : nI ((c * 6 + d c - 1) * 8) + nI a = nI ((c * 6 + d c - 1) * 8 + a) := nI_add _ _
  by_cases c0 : c = 0
  · have z0 : nI c = 0 := by rw [c0]; rfl
    refine .inr ⟨(nI mc, nI md, nI cl, nI lc, 1, 0, nI c, nI h, 1, (-3), oo, oa, ob, oc, lg, (fun zz => nI (hd zz)), (fun zz => nI (s zz)), (fun zz => nI (rs zz)), (fun zz => nI (bd zz)), (fun zz => nI (d zz)), (fun zz => nI ((qc_u p (c * 6 + d c - 1) (x + 1)) zz)), (fun zz => nI (n zz)), rg, tg), c, -3, qz_Qmk (qc_K_up K) (qc_tr_j hm I) (qz_Za Z (fun _ w => w) (fun _ => ⟨hmL, rfl, qz_p0 Z h1 hp⟩)), fun P hP => ?_⟩
    · unfold wpX_step; refine qc_xtf _ c5 h1 ?_; refine ⟨vp_in_nI (by omega) (by decide), nm_r ((qc_rd p rfl (by omega)).trans (congrArg nI hp)) (br_t (nI_lt hx (by omega)) (nm_r (qc_m8 _) ⟨vp_in_nI (by omega) (by decide), nm_r ((qc_rr rfl (by omega)).trans ha) ⟨vp_in_nI (by omega) (by decide), nm_r ((qc_rr rfl (by omega)).trans hb) ⟨vp_in_nI (by omega) (by decide), nm_r ((qc_rr rfl (by omega))) ⟨vp_in_nI (by omega) (by decide), nm_r (qc_st rfl (nI_1 x) (by omega)) ⟨vp_in_nI (by omega) (by decide), nm_r ((qc_rr rfl (by omega)).trans ho) (br_f (by decide) (br_f (by decide) (br_f (by decide) (br_f (by decide) (br_f (by decide) (br_f (by decide) (br_f (by decide) (br_f (by decide) (br_f (by decide) (br_f (by decide) (br_f (by decide) (br_f (by decide) (br_f (by decide) (br_f (by decide) (br_f (by decide) (br_f (by decide) (br_f (by decide) (br_t rfl ?_))))))))))))))))))⟩⟩⟩⟩⟩))⟩
      exact ⟨qc_vi eA (by omega) (by decide), br_t z0 hP⟩
  · have z0 : ¬ nI c = 0 := fun z => c0 ((nI_eq (b := 0) (by omega) (by omega)).mp z)
    obtain ⟨r, l', rfl, hrs⟩ := qc_Lk_1 I.1 c0
    have r5 : r < 5 := I.2.2.1 r (List.mem_cons_of_mem _ List.mem_cons_self)
    have hN := I.2.2.2.2.2.1 r List.mem_cons_self
    have hc : c ∉ r :: l' := (List.nodup_cons.mp I.2.1).1
    have hrc : r ≠ c := fun z => hc (by rw [z]; exact List.mem_cons_self)
    obtain ⟨N1, N2, N3, N4, N5, ⟨y1, y64, a', a'8, ha'⟩, No⟩ := hN
    have hq' := (qc_qtop N1 N5).1
    have hp2 : qc_u p (c * 6 + d c - 1) (x + 1) (r * 6 + d r - 1) = p (r * 6 + d r - 1) := qc_uo (by omega)
    have hq2 : qc_u q (c * 6 + d c - 1) (x + 1) (r * 6 + d r - 1) = p (r * 6 + d r - 1) := (qc_uo (by omega)).trans hq'
    have I' := qc_tr_yield (x := x + 1) hm I (by omega) (by omega) b8 hb
    rcases No with No | No
    · refine .inl ⟨(nI mc, nI md, nI cl, nI lc, 1, 0, nI r, nI h, 0, re, oo, oa, ob, oc, lg, (fun zz => nI (hd zz)), (fun zz => nI ((qc_u (qc_u s c 0) r 1) zz)), (fun zz => nI (rs zz)), (fun zz => nI (bd zz)), (fun zz => nI (d zz)), (fun zz => nI ((qc_u p (c * 6 + d c - 1) (x + 1)) zz)), (fun zz => nI (n zz)), (upd (upd rg ((r * 6 + d r - 1) * 8 + a') (rg ((c * 6 + d c - 1) * 8 + a))) ((r * 6 + d r - 1) * 8 + (a' + 1) % 8) 1), tg), qz_Rmk (qc_K_up K) I' (qz_Za Z (fun _ w => w) (fun _ => ⟨hmL, rfl, qz_p0 Z h1 hp⟩)), fun P hP => ?_⟩
      unfold wpX_step; refine qc_xtf _ c5 h1 ?_; refine ⟨vp_in_nI (by omega) (by decide), nm_r ((qc_rd p rfl (by omega)).trans (congrArg nI hp)) (br_t (nI_lt hx (by omega)) (nm_r (qc_m8 _) ⟨vp_in_nI (by omega) (by decide), nm_r ((qc_rr rfl (by omega)).trans ha) ⟨vp_in_nI (by omega) (by decide), nm_r ((qc_rr rfl (by omega)).trans hb) ⟨vp_in_nI (by omega) (by decide), nm_r ((qc_rr rfl (by omega))) ⟨vp_in_nI (by omega) (by decide), nm_r (qc_st rfl (nI_1 x) (by omega)) ⟨vp_in_nI (by omega) (by decide), nm_r ((qc_rr rfl (by omega)).trans ho) (br_f (by decide) (br_f (by decide) (br_f (by decide) (br_f (by decide) (br_f (by decide) (br_f (by decide) (br_f (by decide) (br_f (by decide) (br_f (by decide) (br_f (by decide) (br_f (by decide) (br_f (by decide) (br_f (by decide) (br_f (by decide) (br_f (by decide) (br_f (by decide) (br_f (by decide) (br_t rfl ?_))))))))))))))))))⟩⟩⟩⟩⟩))⟩
      refine ⟨qc_vi eA (by omega) (by decide), ?_⟩
      rw [qc_rr (f := rg) eA (by omega)]
      refine br_f z0 ⟨vp_in_nI (by omega) (by decide), nm_r (qc_st (x := 0) rfl rfl (by omega)) ⟨vp_in_nI (by omega) (by decide), ?_⟩⟩
      rw [qc_rd rs rfl (by omega), hrs]
      exact qc_xc13 _ r5 N1 (by omega) hp2 y1 y64 ha' a'8 No _ _ 1 (fun z => absurd z (by decide)) (fun _ => rfl) hP
    · refine .inl ⟨(nI mc, nI md, nI cl, nI lc, 1, 0, nI r, nI h, 0, re, oo, oa, ob, oc, lg, (fun zz => nI (hd zz)), (fun zz => nI ((qc_u (qc_u s c 0) r 1) zz)), (fun zz => nI (rs zz)), (fun zz => nI (bd zz)), (fun zz => nI (d zz)), (fun zz => nI ((qc_u p (c * 6 + d c - 1) (x + 1)) zz)), (fun zz => nI (n zz)), (upd rg ((r * 6 + d r - 1) * 8 + a') (rg ((c * 6 + d c - 1) * 8 + a))), tg), qz_Rmk (qc_K_up K) I' (qz_Za Z (fun _ w => w) (fun _ => ⟨hmL, rfl, qz_p0 Z h1 hp⟩)), fun P hP => ?_⟩
      unfold wpX_step; refine qc_xtf _ c5 h1 ?_; refine ⟨vp_in_nI (by omega) (by decide), nm_r ((qc_rd p rfl (by omega)).trans (congrArg nI hp)) (br_t (nI_lt hx (by omega)) (nm_r (qc_m8 _) ⟨vp_in_nI (by omega) (by decide), nm_r ((qc_rr rfl (by omega)).trans ha) ⟨vp_in_nI (by omega) (by decide), nm_r ((qc_rr rfl (by omega)).trans hb) ⟨vp_in_nI (by omega) (by decide), nm_r ((qc_rr rfl (by omega))) ⟨vp_in_nI (by omega) (by decide), nm_r (qc_st rfl (nI_1 x) (by omega)) ⟨vp_in_nI (by omega) (by decide), nm_r ((qc_rr rfl (by omega)).trans ho) (br_f (by decide) (br_f (by decide) (br_f (by decide) (br_f (by decide) (br_f (by decide) (br_f (by decide) (br_f (by decide) (br_f (by decide) (br_f (by decide) (br_f (by decide) (br_f (by decide) (br_f (by decide) (br_f (by decide) (br_f (by decide) (br_f (by decide) (br_f (by decide) (br_f (by decide) (br_t rfl ?_))))))))))))))))))⟩⟩⟩⟩⟩))⟩
      refine ⟨qc_vi eA (by omega) (by decide), ?_⟩
      rw [qc_rr (f := rg) eA (by omega)]
      refine br_f z0 ⟨vp_in_nI (by omega) (by decide), nm_r (qc_st (x := 0) rfl rfl (by omega)) ⟨vp_in_nI (by omega) (by decide), ?_⟩⟩
      rw [qc_rd rs rfl (by omega), hrs]
      exact qc_xc14 _ r5 N1 (by omega) hp2 y1 y64 ha' a'8 No _ _ (by decide) hP
end
