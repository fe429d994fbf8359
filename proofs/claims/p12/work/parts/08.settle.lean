section
variable {mc md cl lc cu h B mp mL : Nat} {st rt lh rd re : Int32} {D : Nat → Prop} {oo oa ob oc lg rg tg : Nat → Int32} {hd d s lv rs bd yr p q n m : Nat → Nat} {c r t x a b : Nat} {l L : List Nat}
theorem qc_K_c {lc' : Nat} {lv' : Nat → Nat} (K : qc_K mc md cl lc h B oo oa ob oc lv bd) (hl : lc' ≤ 64) (hv : lv' 0 = 0) : qc_K mc md cl lc' h B oo oa ob oc lv' bd :=
  ⟨K.1, K.2.1, K.2.2.1, hl, K.2.2.2.2.1, K.2.2.2.2.2.1, K.2.2.2.2.2.2.1, hv⟩
theorem qz_lv0 (w : qc_u lv c 0 t = 1) : lv t = 1 := by
  by_cases z : t = c
  · rw [z, qc_us] at w; omega
  · rw [qc_uo z] at w; exact w
theorem qc_sr0 (P : St2 → Prop) {j : Nat} (k : Nat) (hj : j ≤ 5) (hP : P (nI mc, nI md, nI cl, nI lc, st, rt, nI cu, lh, 0, re, oo, oa, ob, oc, lg, (fun zz => nI (hd zz)), (fun zz => nI (s zz)), (fun zz => nI (rs zz)), (fun zz => nI (bd zz)), (fun zz => nI (d zz)), (fun zz => nI (p zz)), (fun zz => nI (n zz)), rg, tg)) : wX_settleRaise_2 P (k + 1) (nI j) (nI mc) (nI md) (nI cl) (nI lc) st rt (nI cu) lh 0 re oo oa ob oc lg (fun zz => nI (hd zz)) (fun zz => nI (s zz)) (fun zz => nI (rs zz)) (fun zz => nI (bd zz)) (fun zz => nI (d zz)) (fun zz => nI (p zz)) (fun zz => nI (n zz)) rg tg := by
  by_cases z : j = 5
  · exact br_t (nI_le (a := 5) (by omega) (by omega)) hP
  · exact br_f (nI_ge (b := 5) (by omega) (by decide)) (br_t rfl hP)
theorem qz_set {e : Int32} : ∀ (l : List Nat) (c i lc : Nat) (lg rg : Nat → Int32) (d s lv m : Nat → Nat), i + l.length ≤ 4 → qc_K mc md cl lc h B oo oa ob oc lv bd →
    qc_J mc md oo oa ob d s lv rs yr p q n m (c :: l) → qz_Z hd lv d p h mp mL D (c :: l) →
    ∃ (u' : St2), qz_R mc cl oo oa ob oc B mp mL D u' ∧ (∀ P : St2 → Prop, P u' → wX_settleRaise_2 P (l.length + 2) (nI i) (nI mc) (nI md) (nI cl) (nI lc) 1 0 (nI c) (nI h) 1 e oo oa ob oc lg (fun zz => nI (hd zz)) (fun zz => nI (s zz)) (fun zz => nI (rs zz)) (fun zz => nI (bd zz)) (fun zz => nI (d zz)) (fun zz => nI (p zz)) (fun zz => nI (n zz)) rg tg) := by
  intro l
  induction l with
  | nil =>
    intro c i lc lg rg d s lv m hi K J Z
    have c0 : c = 0 := J.1
    subst c0
    have hi' : i ≤ 4 := by simpa using hi
    have hm : md ≤ 6 := K.2.1.2
    have hd6 : d 0 ≤ md := J.2.2.2.2.1.2.1
    have tw : qc_Tw n m 0 (d 0) := J.2.2.2.2.1.2.2.2.2
    have I' := qc_tr_raise0 hm J K.2.2.2.2.2.2.2
    have hl : lc ≤ 64 := K.2.2.2.1
    refine ⟨(nI mc, nI md, nI cl, nI ((qc_uw tg n 0 (d 0) (lg, lc)).2), 3, e, nI 0, nI h, 0, e, oo, oa, ob, oc, (qc_uw tg n 0 (d 0) (lg, lc)).1, (fun zz => nI (hd zz)), (fun zz => nI ((qc_u s 0 3) zz)), (fun zz => nI (rs zz)), (fun zz => nI (bd zz)), (fun zz => nI ((qc_u d 0 0) zz)), (fun zz => nI (p zz)), (fun zz => nI (n zz)), rg, tg), ?_, fun P hP => ?_⟩
    · exact ⟨_, _, _, _, _, _, _, _, _, _, _, _, _, _, _, _, _, _, _, _, _, [], rfl, qc_K_c K (qc_uw_le _ _ hl) K.2.2.2.2.2.2.2, .inr (.inr ⟨.inr rfl, rfl⟩), ⟨fun c l z => (nomatch z), fun z => absurd z (by decide)⟩, I', qz_Zk Z (fun _ w => w) (fun z => absurd rfl z)⟩
    · refine br_f (nI_ge (b := 5) (by omega) (by decide)) (br_f (by decide) (qc_xunw (t := 0) _ (by omega) (by omega) (fun k hk => (tw k hk).2) hl ⟨vp_in_nI (n := 0) (by decide) (by decide), nm_r (qc_st (k := 0) (x := 3) rfl rfl (by omega)) (br_t rfl (nm_r ((qc_uI _ 0 3).trans (by rw [qc_uu])) (nm_r (nI_1 i) (qc_sr0 P 0 (by omega) hP))))⟩))
  | cons r l ih =>
    intro c i lc lg rg d s lv m hi K J Z
    have c0 : c ≠ 0 := J.1.1
    have hrs : rs c = r := J.1.2.1
    have hi' : i + 1 + l.length ≤ 4 := by simp at hi; omega
    have hm : md ≤ 6 := K.2.1.2
    have c5 : c < 5 := J.2.2.1 c List.mem_cons_self
    have r5 : r < 5 := J.2.2.1 r (List.mem_cons_of_mem _ List.mem_cons_self)
    have hd6 : d c ≤ md := J.2.2.2.2.1.2.1
    have tw : qc_Tw n m c (d c) := J.2.2.2.2.1.2.2.2.2
    have hN := J.2.2.2.2.2.1 r List.mem_cons_self
    have I' := qc_tr_raise hm J
    have hl : lc ≤ 64 := K.2.2.2.1
    have hc : c ∉ r :: l := (List.nodup_cons.mp J.2.1).1
    have hrc : r ≠ c := fun z => hc (by rw [z]; exact List.mem_cons_self)
    have er : qc_u d c 0 r = d r := qc_uo hrc
    have K' : qc_K mc md cl (qc_uw tg n c (d c) (lg, lc)).2 h B oo oa ob oc (qc_u lv c 0) bd := qc_K_c K (qc_uw_le _ _ hl) (by rw [qc_uo (by omega)]; exact K.2.2.2.2.2.2.2)
    have Z' : qz_Z hd (qc_u lv c 0) (qc_u d c 0) p h mp mL D (r :: l) := qz_Zk Z (fun _ w => qz_lv0 w) (fun _ => qc_uo (by omega))
    obtain ⟨H1, H2, H3, H4, H5⟩ := I'.2.2.2.2.1
    have hx : qc_RA oa (p (r * 6 + qc_u d c 0 r - 1)) := by rw [er]; exact hN.2.2.2.2.2.1
    have ho : oo (p (r * 6 + qc_u d c 0 r - 1) - 1) = 13 ∨ oo (p (r * 6 + qc_u d c 0 r - 1) - 1) = 14 := by rw [er]; exact hN.2.2.2.2.2.2
    obtain ⟨x1, x64, a, a8, ha⟩ := hx
    rcases ho with ho | ho
    · refine ⟨(nI mc, nI md, nI cl, nI ((qc_uw tg n c (d c) (lg, lc)).2), 1, 0, nI r, nI h, 0, e, oo, oa, ob, oc, (qc_uw tg n c (d c) (lg, lc)).1, (fun zz => nI (hd zz)), (fun zz => nI ((qc_u (qc_u s c 3) r 1) zz)), (fun zz => nI (rs zz)), (fun zz => nI (bd zz)), (fun zz => nI ((qc_u d c 0) zz)), (fun zz => nI (p zz)), (fun zz => nI (n zz)), (upd (upd rg ((r * 6 + qc_u d c 0 r - 1) * 8 + a) e) ((r * 6 + qc_u d c 0 r - 1) * 8 + (a + 1) % 8) 0), tg), ?_, fun P hP => ?_⟩
      · exact ⟨_, _, _, _, _, _, _, _, _, _, _, _, _, _, _, _, _, _, _, _, _, r :: l, rfl, K', .inl ⟨rfl, rfl, by simp⟩, ⟨fun c l z => (by cases z; rfl), fun z => absurd z (by decide)⟩, I', Z'⟩
      · refine br_f (nI_ge (b := 5) (by omega) (by decide)) (br_f (by decide) (qc_xunw (t := c) _ c5 (by omega) (fun k hk => (tw k hk).2) hl ⟨vp_in_nI c5 (by decide), nm_r (qc_st (x := 3) rfl rfl (by omega)) (br_f (fun z => c0 ((nI_eq (b := 0) (by omega) (by omega)).mp z)) ⟨vp_in_nI c5 (by decide), ?_⟩)⟩))
        rw [qc_rd rs rfl (by omega), hrs]
        exact qc_xc13 _ r5 H1 (by omega) rfl x1 x64 ha a8 ho _ _ 0 (fun _ => rfl) (fun z => absurd rfl z) (nm_r (nI_1 i) (qc_sr0 P _ (by omega) hP))
    · obtain ⟨u', hR, hX⟩ := ih r (i + 1) _ (qc_uw tg n c (d c) (lg, lc)).1 rg _ _ _ _ hi' K' (qc_J_of I') Z'
      refine ⟨u', hR, fun P hP => ?_⟩
      refine br_f (nI_ge (b := 5) (by omega) (by decide)) (br_f (by decide) (qc_xunw (t := c) _ c5 (by omega) (fun k hk => (tw k hk).2) hl ⟨vp_in_nI c5 (by decide), nm_r (qc_st (x := 3) rfl rfl (by omega)) (br_f (fun z => c0 ((nI_eq (b := 0) (by omega) (by omega)).mp z)) ⟨vp_in_nI c5 (by decide), ?_⟩)⟩))
      rw [qc_rd rs rfl (by omega), hrs]
      exact qc_xcr _ r5 H1 (by omega) rfl x1 x64 ho _ (nm_r (nI_1 i) (hX P hP))
theorem qz_settle {u : St2} {c : Nat} {e : Int32} (Q : qz_Q mc cl oo oa ob oc B mp mL D u c e) :
    ∃ (u' : St2), qz_R mc cl oo oa ob oc B mp mL D u' ∧ (∀ P : St2 → Prop, P u' → wpX_settleRaise P u) := by
  obtain ⟨md, lc, h, lg, rg, tg, hd, d, s, lv, rs, bd, yr, p, q, n, m, l, rfl, K, J, Z⟩ := Q
  have := qc_len J.2.1 J.2.2.1
  obtain ⟨u', hR, hX⟩ := qz_set l c 0 lc lg rg d s lv m (by simp at this; omega) K J Z
  exact ⟨u', hR, fun P hP => ⟨_, hX P hP⟩⟩
theorem qz_settle0 {e : Int32} (K : qc_K mc md cl lc h B oo oa ob oc lv bd) (J : qc_J mc md oo oa ob d s lv rs yr p q n m [0]) (Z : qz_Z hd lv d p h mp mL D [0]) :
    qz_R mc cl oo oa ob oc B mp mL D (nI mc, nI md, nI cl, nI ((qc_uw tg n 0 (d 0) (lg, lc)).2), 3, e, nI 0, nI h, 0, e, oo, oa, ob, oc, (qc_uw tg n 0 (d 0) (lg, lc)).1, (fun zz => nI (hd zz)), (fun zz => nI ((qc_u s 0 3) zz)), (fun zz => nI (rs zz)), (fun zz => nI (bd zz)), (fun zz => nI ((qc_u d 0 0) zz)), (fun zz => nI (p zz)), (fun zz => nI (n zz)), rg, tg) ∧
    ∀ P : St2 → Prop, P (nI mc, nI md, nI cl, nI ((qc_uw tg n 0 (d 0) (lg, lc)).2), 3, e, nI 0, nI h, 0, e, oo, oa, ob, oc, (qc_uw tg n 0 (d 0) (lg, lc)).1, (fun zz => nI (hd zz)), (fun zz => nI ((qc_u s 0 3) zz)), (fun zz => nI (rs zz)), (fun zz => nI (bd zz)), (fun zz => nI ((qc_u d 0 0) zz)), (fun zz => nI (p zz)), (fun zz => nI (n zz)), rg, tg) → wpX_settleRaise P (nI mc, nI md, nI cl, nI lc, 1, 0, nI 0, nI h, 1, e, oo, oa, ob, oc, lg, (fun zz => nI (hd zz)), (fun zz => nI (s zz)), (fun zz => nI (rs zz)), (fun zz => nI (bd zz)), (fun zz => nI (d zz)), (fun zz => nI (p zz)), (fun zz => nI (n zz)), rg, tg) := by
  have hm : md ≤ 6 := K.2.1.2
  have hd6 : d 0 ≤ md := J.2.2.2.2.1.2.1
  have tw : qc_Tw n m 0 (d 0) := J.2.2.2.2.1.2.2.2.2
  have I' := qc_tr_raise0 hm J K.2.2.2.2.2.2.2
  have hl : lc ≤ 64 := K.2.2.2.1
  refine ⟨⟨_, _, _, _, _, _, _, _, _, _, _, _, _, _, _, _, _, _, _, _, _, [], rfl, qc_K_c K (qc_uw_le _ _ hl) K.2.2.2.2.2.2.2, .inr (.inr ⟨.inr rfl, rfl⟩), ⟨fun c l z => (nomatch z), fun z => absurd z (by decide)⟩, I', qz_Zk Z (fun _ w => w) (fun z => absurd rfl z)⟩, fun P hP => ⟨2, ?_⟩⟩
  exact br_f (by decide) (br_f (by decide) (qc_xunw (t := 0) _ (by omega) (by omega) (fun k hk => (tw k hk).2) hl ⟨vp_in_nI (n := 0) (by decide) (by decide), nm_r (qc_st (k := 0) (x := 3) rfl rfl (by omega)) (br_t rfl (nm_r ((qc_uI _ 0 3).trans (by rw [qc_uu])) (nm_r (e' := nI 1) rfl (qc_sr0 P 0 (by omega) hP))))⟩))
end
