section
variable {mc md cl lc cu h B mp mL : Nat} {st rt lh rd re : Int32} {D : Nat → Prop} {oo oa ob oc lg rg tg : Nat → Int32} {hd d s lv rs bd yr p q n m : Nat → Nat} {c r t x a b : Nat} {l L : List Nat}
theorem qc_xlcl (P : Int32 → Prop) (al : ∀ t, t ≠ 0 → t < 5 → (s t = 3 ∧ lv t = 0) ∨ (s t < 3 ∧ lv t = 1)) : ∀ k j acc, j + k = 5 → j ≠ 0 → acc ≤ j → P (nI (acc + qc_sm lv k j)) → wX_getLiveCount_4 P (nI mc) (nI md) (nI cl) (nI lc) st rt (nI cu) lh rd re oo oa ob oc lg (fun zz => nI (hd zz)) (fun zz => nI (s zz)) (fun zz => nI (rs zz)) (fun zz => nI (bd zz)) (fun zz => nI (d zz)) (fun zz => nI (p zz)) (fun zz => nI (n zz)) rg tg (k + 1) (nI acc) (nI j) := by
  intro k
  induction k with
  | zero =>
    intro j acc hj _ _ hP
    have e : j = 5 := by omega
    subst e
    exact br_t (nI_le (a := 5) (b := 5) (by omega) (by decide)) hP
  | succ k ih =>
    intro j acc hj j0 ha hP
    refine br_f (nI_ge (b := 5) (by omega) (by decide)) ⟨vp_in_nI (by omega) (by decide), ?_⟩
    have es : (fun zz => nI (s zz)) (nI j).toNatClampNeg = nI (s j) := qc_rd s rfl (by omega)
    have hs : qc_sm lv (k + 1) j = lv j + qc_sm lv k (j + 1) := rfl
    rw [hs] at hP
    rcases al j j0 (by omega) with ⟨a1, a2⟩ | ⟨a1, a2⟩
    · refine br_t (by rw [es, a1]; rfl) (nm_r (nI_1 j) (ih (j + 1) acc (by omega) (by omega) (by omega) ?_))
      rw [a2, Nat.zero_add] at hP
      exact hP
    · refine br_f (by rw [es]; exact fun z => by have := (nI_eq (b := 3) (by omega) (by decide)).mp z; omega) (nm_r (nI_1 acc) (nm_r (nI_1 j) (ih (j + 1) (acc + 1) (by omega) (by omega) (by omega) ?_)))
      rw [a2, ← Nat.add_assoc] at hP
      exact hP
theorem qc_xlc (P : Int32 → Prop) (al : ∀ t, t ≠ 0 → t < 5 → (s t = 3 ∧ lv t = 0) ∨ (s t < 3 ∧ lv t = 1)) (hP : P (nI (qc_sm lv 4 1))) : wpX_getLiveCount P (nI mc, nI md, nI cl, nI lc, st, rt, nI cu, lh, rd, re, oo, oa, ob, oc, lg, (fun zz => nI (hd zz)), (fun zz => nI (s zz)), (fun zz => nI (rs zz)), (fun zz => nI (bd zz)), (fun zz => nI (d zz)), (fun zz => nI (p zz)), (fun zz => nI (n zz)), rg, tg) :=
  ⟨5, qc_xlcl P al 4 1 0 rfl (by omega) (by omega) (by rw [Nat.zero_add]; exact hP)⟩
theorem qc_xfrl (P : Int32 → Prop) (h4 : mc ≤ 4) (al : ∀ t, t ≠ 0 → t < 5 → (s t = 3 ∧ lv t = 0) ∨ (s t < 3 ∧ lv t = 1)) : ∀ k j, j + k = mc + 1 → j ≠ 0 → (qc_fr lv k j < j + k → P (nI (qc_fr lv k j))) → (¬ qc_fr lv k j < j + k → P (-1)) → wX_freeThread_2 P (nI mc) (nI md) (nI cl) (nI lc) st rt (nI cu) lh rd re oo oa ob oc lg (fun zz => nI (hd zz)) (fun zz => nI (s zz)) (fun zz => nI (rs zz)) (fun zz => nI (bd zz)) (fun zz => nI (d zz)) (fun zz => nI (p zz)) (fun zz => nI (n zz)) rg tg (k + 1) (nI j) := by
  intro k
  induction k with
  | zero =>
    intro j hj _ _ hN
    exact br_t (nI_lt (by omega) (by omega)) (hN (by show ¬ j < j + 0; omega))
  | succ k ih =>
    intro j hj j0 hP hN
    refine br_f (nI_nlt (by omega) (by omega)) ⟨vp_in_nI (by omega) (by decide), ?_⟩
    have es : (fun zz => nI (s zz)) (nI j).toNatClampNeg = nI (s j) := qc_rd s rfl (by omega)
    rcases al j j0 (by omega) with ⟨a1, a2⟩ | ⟨a1, a2⟩
    · have e : qc_fr lv (k + 1) j = j := if_pos a2
      rw [e] at hP
      exact br_t (by rw [es, a1]; rfl) (hP (by omega))
    · have e : qc_fr lv (k + 1) j = qc_fr lv k (j + 1) := if_neg (by omega)
      have e2 : j + (k + 1) = j + 1 + k := by omega
      rw [e, e2] at hP hN
      exact br_f (by rw [es]; exact fun z => by have := (nI_eq (b := 3) (by omega) (by decide)).mp z; omega) (nm_r (nI_1 j) (ih (j + 1) (by omega) (by omega) hP hN))
theorem qc_xfr (P : Int32 → Prop) (h4 : mc ≤ 4) (al : ∀ t, t ≠ 0 → t < 5 → (s t = 3 ∧ lv t = 0) ∨ (s t < 3 ∧ lv t = 1)) (hP : qc_fr lv mc 1 ≤ mc → P (nI (qc_fr lv mc 1))) (hN : ¬ qc_fr lv mc 1 ≤ mc → P (-1)) : wpX_freeThread P (nI mc, nI md, nI cl, nI lc, st, rt, nI cu, lh, rd, re, oo, oa, ob, oc, lg, (fun zz => nI (hd zz)), (fun zz => nI (s zz)), (fun zz => nI (rs zz)), (fun zz => nI (bd zz)), (fun zz => nI (d zz)), (fun zz => nI (p zz)), (fun zz => nI (n zz)), rg, tg) :=
  ⟨mc + 1, qc_xfrl P h4 al mc 1 (by omega) (by omega) (fun z => hP (by omega)) (fun z => hN (by omega))⟩
theorem qc_o12 (K : qc_K mc md cl lc h B oo oa ob oc lv bd) (I : qc_I mc md oo oa ob d s lv rs yr p q n m (c :: l)) (hp : p (c * 6 + d c - 1) = x) (hx : x < cl) (Z : qz_Z hd lv d p h mp mL D (c :: l)) (hmL : c = 0 → mp + 1 ≤ mL) (hB : B < 2147483647) (ho : oo x = 12) (ha : oa x = nI a) (a8 : a < 8) (hb : ob x = nI b) (b6 : b < 64) : qz_Out mc cl oo oa ob oc B (qz_mp c mp) mL D (nI mc, nI md, nI cl, nI lc, 1, 0, nI c, nI h, 0, re, oo, oa, ob, oc, lg, (fun zz => nI (hd zz)), (fun zz => nI (s zz)), (fun zz => nI (rs zz)), (fun zz => nI (bd zz)), (fun zz => nI (d zz)), (fun zz => nI (p zz)), (fun zz => nI (n zz)), rg, tg) := by
  have c5 : c < 5 := I.2.2.1 c List.mem_cons_self
  obtain ⟨h1, hdm, hs1, hlv, hth⟩ := I.2.2.2.2.1
  have hm : md ≤ 6 := K.2.1.2
  have h6 : d c ≤ 6 := by omega
  have h64 : cl ≤ 64 := K.2.2.1
  have hl : lc ≤ 64 := K.2.2.2.1
  have hq : q (c * 6 + d c - 1) = x := (qc_qtop h1 hth).1.trans hp
  have hf : (c * 6 + d c - 1) < 30 := by omega
  have eA : nI ((c * 6 + d c - 1) * 8) + nI a = nI ((c * 6 + d c - 1) * 8 + a) := nI_add _ _
  have al : ∀ t, t ≠ 0 → t < 5 → (s t = 3 ∧ lv t = 0) ∨ (s t < 3 ∧ lv t = 1) := fun t => qc_al I
  have m4 : mc ≤ 4 := K.1.2
  have hv : ∀ t, t < 5 → lv t ≤ 1 := by
    intro t t5
    by_cases t0 : t = 0
    · rw [t0, K.2.2.2.2.2.2.2]; omega
    · have := al t t0 t5; omega
  have hB' : h ≤ B := K.2.2.2.2.1
  have fre := qc_free K.1.1 m4 hv I.2.2.2.1
  have fin := qc_fr_in (f := lv) mc 1
  have fin4 := qc_fr_in (f := lv) 4 1
  by_cases z : qc_fr lv mc 1 ≤ mc
  · obtain ⟨e4, lt⟩ := fre.1 z
    have F0 : qc_fr lv mc 1 ≠ 0 := by omega
    have F5 : qc_fr lv mc 1 < 5 := by omega
    have Flv : lv (qc_fr lv mc 1) = 0 := fin.2.2 (by omega)
    have Fs : s (qc_fr lv mc 1) = 3 := by have := al _ F0 F5; omega
    have ct := qc_tr_create (t := qc_fr lv mc 1) hm (qc_tr_pc (x := x + 1) hm I (by omega)) F5 F0 z Fs
    generalize hF : qc_fr lv mc 1 = F at *
    obtain ⟨d0, I'⟩ := ct
    have K' : qc_K mc md cl lc (h + 1) (B + 1) oo oa ob oc (qc_u lv F 1) (qc_u bd F b) := by
      refine ⟨K.1, K.2.1, K.2.2.1, K.2.2.2.1, by omega, K.2.2.2.2.2.1, fun t => ?_, ?_⟩
      · by_cases w : t = F
        · rw [w, qc_us]; exact b6
        · rw [qc_uo w]; exact K.2.2.2.2.2.2.1 t
      · rw [qc_uo (by omega)]; exact K.2.2.2.2.2.2.2
    have sm4 : qc_sm lv 4 1 < 2 ^ 31 := by omega
    refine .inl ⟨(nI mc, nI md, nI cl, nI lc, 1, 0, nI c, nI (h + 1), 0, re, oo, oa, ob, oc, lg, (fun zz => nI ((qc_u hd F (h + 1)) zz)), (fun zz => nI ((qc_u s F 0) zz)), (fun zz => nI (rs zz)), (fun zz => nI ((qc_u bd F b) zz)), (fun zz => nI (d zz)), (fun zz => nI ((qc_u p (c * 6 + d c - 1) (x + 1)) zz)), (fun zz => nI (n zz)), (upd rg ((c * 6 + d c - 1) * 8 + a) (nI (h + 1))), tg), qz_Rmk K' I' (qz_Zc Z F0 hmL (qz_p0 Z h1 hp)), fun P hP => ?_⟩
    · unfold wpX_step; refine qc_xtf _ c5 h1 ?_; refine ⟨vp_in_nI (by omega) (by decide), nm_r ((qc_rd p rfl (by omega)).trans (congrArg nI hp)) (br_t (nI_lt hx (by omega)) (nm_r (qc_m8 _) ⟨vp_in_nI (by omega) (by decide), nm_r ((qc_rr rfl (by omega)).trans ha) ⟨vp_in_nI (by omega) (by decide), nm_r ((qc_rr rfl (by omega)).trans hb) ⟨vp_in_nI (by omega) (by decide), nm_r ((qc_rr rfl (by omega))) ⟨vp_in_nI (by omega) (by decide), nm_r (qc_st rfl (nI_1 x) (by omega)) ⟨vp_in_nI (by omega) (by decide), nm_r ((qc_rr rfl (by omega)).trans ho) (br_f (by decide) (br_f (by decide) (br_f (by decide) (br_f (by decide) (br_f (by decide) (br_f (by decide) (br_f (by decide) (br_f (by decide) (br_f (by decide) (br_f (by decide) (br_f (by decide) (br_f (by decide) (br_f (by decide) (br_f (by decide) (br_t rfl ?_)))))))))))))))⟩⟩⟩⟩⟩))⟩
      unfold wpX_createCoroutine
      refine qc_xfr (lv := lv) _ m4 al (fun w => ?_) (fun w => ?_)
      · rw [hF]
        exact br_f (qc_nm1 F5) (br_t (nI_lt (b := 2147483647) (by omega) (by omega)) (nm_r (nI_1 h) ⟨vp_in_nI (by omega) (by decide), nm_r (qc_st rfl rfl (by omega)) ⟨vp_in_nI (by omega) (by decide), nm_r (qc_st (x := 0) rfl rfl (by omega)) ⟨vp_in_nI (by omega) (by decide), nm_r (qc_st rfl rfl (by omega)) ⟨qc_vi eA (by omega) (by decide), nm_r (qc_sr eA (by omega) rfl) hP⟩⟩⟩⟩))
      · rw [hF] at w
        exact absurd z w
  · have ge := fre.2 z
    have sm4 : qc_sm lv 4 1 < 2 ^ 31 := by
      have a1 := hv 1 (by omega)
      have a2 := hv 2 (by omega)
      have a3 := hv 3 (by omega)
      have a4 := hv 4 (by omega)
      show lv 1 + (lv 2 + (lv 3 + (lv 4 + 0))) < 2 ^ 31
      omega
    refine .inr ⟨(nI mc, nI md, nI cl, nI lc, 1, 0, nI c, nI h, 1, (-5), oo, oa, ob, oc, lg, (fun zz => nI (hd zz)), (fun zz => nI (s zz)), (fun zz => nI (rs zz)), (fun zz => nI (bd zz)), (fun zz => nI (d zz)), (fun zz => nI ((qc_u p (c * 6 + d c - 1) (x + 1)) zz)), (fun zz => nI (n zz)), rg, tg), c, -5, qz_Qmk (qc_K_up K) (qc_tr_j hm I) (qz_Za Z (fun _ w => w) (fun _ => ⟨hmL, rfl, qz_p0 Z h1 hp⟩)), fun P hP => ?_⟩
    · unfold wpX_step; refine qc_xtf _ c5 h1 ?_; refine ⟨vp_in_nI (by omega) (by decide), nm_r ((qc_rd p rfl (by omega)).trans (congrArg nI hp)) (br_t (nI_lt hx (by omega)) (nm_r (qc_m8 _) ⟨vp_in_nI (by omega) (by decide), nm_r ((qc_rr rfl (by omega)).trans ha) ⟨vp_in_nI (by omega) (by decide), nm_r ((qc_rr rfl (by omega)).trans hb) ⟨vp_in_nI (by omega) (by decide), nm_r ((qc_rr rfl (by omega))) ⟨vp_in_nI (by omega) (by decide), nm_r (qc_st rfl (nI_1 x) (by omega)) ⟨vp_in_nI (by omega) (by decide), nm_r ((qc_rr rfl (by omega)).trans ho) (br_f (by decide) (br_f (by decide) (br_f (by decide) (br_f (by decide) (br_f (by decide) (br_f (by decide) (br_f (by decide) (br_f (by decide) (br_f (by decide) (br_f (by decide) (br_f (by decide) (br_f (by decide) (br_f (by decide) (br_f (by decide) (br_t rfl ?_)))))))))))))))⟩⟩⟩⟩⟩))⟩
      unfold wpX_createCoroutine
      exact qc_xfr (lv := lv) _ m4 al (fun w => absurd w z) (fun w => br_t rfl hP)
end
