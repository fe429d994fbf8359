theorem qc_nb0 : vp_nar .boolean 0 = nI 0 := by first | rfl | decide
theorem qc_nb1 : vp_nar .boolean 1 = nI 1 := by first | rfl | decide
section
variable {mc md cl lc cu h B : Nat} {st rt lh rd re cy : Int32} {oo oa ob oc lg hn rg tg : Nat → Int32} {d s lv rs bd yr p q n m : Nat → Nat} {c r t x a b : Nat} {l L : List Nat}
theorem qc_K_c {lc' : Nat} {lv' : Nat → Nat} (K : qc_K mc md cl lc h B oo oa ob oc lv bd) (hl : lc' ≤ 64) (hv : lv' 0 = 0) : qc_K mc md cl lc' h B oo oa ob oc lv' bd :=
  ⟨K.1, K.2.1, K.2.2.1, hl, K.2.2.2.2.1, K.2.2.2.2.2.1, K.2.2.2.2.2.2.1, hv⟩
theorem qc_sr0 (P : SX → Prop) {j : Nat} (k : Nat) (hj : j ≤ 5) (hP : P (nI mc, nI md, nI cl, nI lc, st, rt, nI cu, lh, 0, re, oo, oa, ob, oc, lg, hn, (fun zz => nI (s zz)), (fun zz => nI (rs zz)), (fun zz => nI (bd zz)), (fun zz => nI (d zz)), (fun zz => nI (p zz)), (fun zz => nI (n zz)), rg, tg)) : wX_settleRaise_2 P (k + 1) (nI j) (nI mc) (nI md) (nI cl) (nI lc) st rt (nI cu) lh 0 re oo oa ob oc lg hn (fun zz => nI (s zz)) (fun zz => nI (rs zz)) (fun zz => nI (bd zz)) (fun zz => nI (d zz)) (fun zz => nI (p zz)) (fun zz => nI (n zz)) rg tg := by
  by_cases z : j = 5
  · exact br_t (nI_le (a := 5) (by omega) (by omega)) hP
  · exact br_f (nI_ge (b := 5) (by omega) (by decide)) (br_t rfl hP)
theorem qc_set {e : Int32} : ∀ (l : List Nat) (c i lc : Nat) (lg rg : Nat → Int32) (d s lv m : Nat → Nat), i + l.length ≤ 4 → qc_K mc md cl lc h B oo oa ob oc lv bd →
    qc_J mc md oo oa ob d s lv rs yr p q n m (c :: l) →
    ∃ (u' : SX) (v' : SY), qc_R B u' v' ∧ (∀ P : SX → Prop, P u' → wX_settleRaise_2 P (l.length + 2) (nI i) (nI mc) (nI md) (nI cl) (nI lc) 1 0 (nI c) (nI h) 1 e oo oa ob oc lg hn (fun zz => nI (s zz)) (fun zz => nI (rs zz)) (fun zz => nI (bd zz)) (fun zz => nI (d zz)) (fun zz => nI (p zz)) (fun zz => nI (n zz)) rg tg) ∧
      (∀ P : SY → Prop, P v' → wY_raise_2 P e (l.length + 1) (nI c) (nI i) (nI mc) (nI md) 1 0 (nI c) (nI h) (nI cl) (nI lc) oo oa ob oc lg hn (fun zz => nI (d zz)) (fun zz => nI (rs zz)) (fun zz => nI (bd zz)) (fun zz => nI (yr zz)) (fun zz => nI (lv zz)) rg (fun zz => nI (q zz)) (fun zz => nI (m zz)) tg) := by
  intro l
  induction l with
  | nil =>
    intro c i lc lg rg d s lv m hi K J
    have c0 : c = 0 := J.1
    subst c0
    have hi' : i ≤ 4 := by simpa using hi
    have hm : md ≤ 6 := K.2.1.2
    have hd : d 0 ≤ md := J.2.2.2.2.1.2.1
    have tw : qc_Tw n m 0 (d 0) := J.2.2.2.2.1.2.2.2.2
    have I' := qc_tr_raise0 hm J K.2.2.2.2.2.2.2
    have hl : lc ≤ 64 := K.2.2.2.1
    refine ⟨(nI mc, nI md, nI cl, nI ((qc_uw tg n 0 (d 0) (lg, lc)).2), 3, e, nI 0, nI h, 0, e, oo, oa, ob, oc, (qc_uw tg n 0 (d 0) (lg, lc)).1, hn, (fun zz => nI ((qc_u s 0 3) zz)), (fun zz => nI (rs zz)), (fun zz => nI (bd zz)), (fun zz => nI ((qc_u d 0 0) zz)), (fun zz => nI (p zz)), (fun zz => nI (n zz)), rg, tg), (nI mc, nI md, 3, e, (-1), nI h, nI cl, nI ((qc_uw tg n 0 (d 0) (lg, lc)).2), oo, oa, ob, oc, (qc_uw tg n 0 (d 0) (lg, lc)).1, hn, (fun zz => nI ((qc_u d 0 0) zz)), (fun zz => nI (rs zz)), (fun zz => nI (bd zz)), (fun zz => nI (yr zz)), (fun zz => nI (lv zz)), rg, (fun zz => nI (q zz)), (fun zz => nI ((qc_mz 0 (d 0) m) zz)), tg), ?_, fun P hP => ?_, fun P hP => ?_⟩
    · exact ⟨_, _, _, _, _, _, _, _, _, _, _, _, _, _, _, _, _, _, _, _, _, _, _, _, _, _, _, [], rfl, rfl, qc_K_c K (qc_uw_le _ _ hl) K.2.2.2.2.2.2.2, .inr (.inr ⟨.inr rfl, rfl⟩), ⟨fun c l z => (nomatch z), fun z => absurd z (by decide)⟩, I'⟩
    · refine br_f (nI_ge (b := 5) (by omega) (by decide)) (br_f (by decide) (qc_xunw (t := 0) _ (by omega) (by omega) (fun k hk => (tw k hk).2) hl ⟨vp_in_nI (n := 0) (by decide) (by decide), nm_r (qc_st (k := 0) (x := 3) rfl rfl (by omega)) (br_t rfl (nm_r ((qc_uI _ 0 3).trans (by rw [qc_uu])) (nm_r (nI_1 i) (qc_sr0 P 0 (by omega) hP))))⟩))
    · refine br_f (nI_ge (b := 6) (by omega) (by decide)) (qc_yunw (t := 0) _ (by omega) (by omega) (fun k hk => by rw [(tw k hk).1]; exact (tw k hk).2) hl (br_t rfl ?_))
      rw [qc_uw_c (n := n) (d 0) _ (fun k hk => (tw k hk).1)]
      exact hP
  | cons r l ih =>
    intro c i lc lg rg d s lv m hi K J
    have c0 : c ≠ 0 := J.1.1
    have hrs : rs c = r := J.1.2.1
    have hi' : i + 1 + l.length ≤ 4 := by simp at hi; omega
    have hm : md ≤ 6 := K.2.1.2
    have c5 : c < 5 := J.2.2.1 c List.mem_cons_self
    have r5 : r < 5 := J.2.2.1 r (List.mem_cons_of_mem _ List.mem_cons_self)
    have hd : d c ≤ md := J.2.2.2.2.1.2.1
    have tw : qc_Tw n m c (d c) := J.2.2.2.2.1.2.2.2.2
    have hN := J.2.2.2.2.2.1 r List.mem_cons_self
    have I' := qc_tr_raise hm J
    have hl : lc ≤ 64 := K.2.2.2.1
    have hc : c ∉ r :: l := (List.nodup_cons.mp J.2.1).1
    have hrc : r ≠ c := fun z => hc (by rw [z]; exact List.mem_cons_self)
    have er : qc_u d c 0 r = d r := qc_uo hrc
    have K' : qc_K mc md cl (qc_uw tg n c (d c) (lg, lc)).2 h B oo oa ob oc (qc_u lv c 0) bd := qc_K_c K (qc_uw_le _ _ hl) (by rw [qc_uo (by omega)]; exact K.2.2.2.2.2.2.2)
    obtain ⟨H1, H2, H3, H4, H5⟩ := I'.2.2.2.2.1
    have hx : qc_RA oa (p (r * 6 + qc_u d c 0 r - 1)) := by rw [er]; exact hN.2.2.2.2.2.1
    have ho : oo (p (r * 6 + qc_u d c 0 r - 1) - 1) = 13 ∨ oo (p (r * 6 + qc_u d c 0 r - 1) - 1) = 14 := by rw [er]; exact hN.2.2.2.2.2.2
    have hq : q (r * 6 + qc_u d c 0 r - 1) = p (r * 6 + qc_u d c 0 r - 1) := by
      have := (H5 (qc_u d c 0 r - 1) (by omega)).1
      have w : r * 6 + (qc_u d c 0 r - 1) = r * 6 + qc_u d c 0 r - 1 := by omega
      rw [w] at this
      exact this
    obtain ⟨x1, x64, a, a8, ha⟩ := hx
    have e1 : nI (r * 6 + qc_u d c 0 r - 1) * 8 + nI a = nI ((r * 6 + qc_u d c 0 r - 1) * 8 + a) := qc_fr8 rfl rfl
    have e2 : nI (r * 6 + qc_u d c 0 r - 1) * 8 + ((nI a + 1) &&& 7) = nI ((r * 6 + qc_u d c 0 r - 1) * 8 + (a + 1) % 8) := qc_fr8 rfl (qc_a17 a8)
    have e0 : nI r * 6 + (fun zz => nI (qc_u d c 0 zz)) (nI r).toNatClampNeg - 1 = nI (r * 6 + qc_u d c 0 r - 1) := by
      rw [qc_rd (qc_u d c 0) rfl (by omega), qc_tf (by omega)]
    have ec : ∀ f : Nat → Int32, f (nI c).toNatClampNeg = f c := fun f => qc_rr rfl (by omega)
    have yy : ∀ P : SY → Prop,
        ((oo (p (r * 6 + qc_u d c 0 r - 1) - 1) = 13 → P (nI mc, nI md, 1, 0, nI r, nI h, nI cl, nI ((qc_uw tg n c (d c) (lg, lc)).2), oo, oa, ob, oc, (qc_uw tg n c (d c) (lg, lc)).1, hn, (fun zz => nI ((qc_u d c 0) zz)), (fun zz => nI (rs zz)), (fun zz => nI (bd zz)), (fun zz => nI (yr zz)), (fun zz => nI ((qc_u lv c 0) zz)), (upd (upd rg ((r * 6 + qc_u d c 0 r - 1) * 8 + a) e) ((r * 6 + qc_u d c 0 r - 1) * 8 + (a + 1) % 8) 0), (fun zz => nI (q zz)), (fun zz => nI ((qc_mz c (d c) m) zz)), tg)) ∧
         (¬ oo (p (r * 6 + qc_u d c 0 r - 1) - 1) = 13 → wY_raise_2 P e (l.length + 1) (nI r) (nI (i + 1)) (nI mc) (nI md) 1 0 (nI r) (nI h) (nI cl) (nI ((qc_uw tg n c (d c) (lg, lc)).2)) oo oa ob oc ((qc_uw tg n c (d c) (lg, lc)).1) hn (fun zz => nI ((qc_u d c 0) zz)) (fun zz => nI (rs zz)) (fun zz => nI (bd zz)) (fun zz => nI (yr zz)) (fun zz => nI ((qc_u lv c 0) zz)) rg (fun zz => nI (q zz)) (fun zz => nI ((qc_mz c (d c) m) zz)) tg)) →
        wY_raise_2 P e (l.length + 1 + 1) (nI c) (nI i) (nI mc) (nI md) 1 0 (nI c) (nI h) (nI cl) (nI lc) oo oa ob oc lg hn (fun zz => nI (d zz)) (fun zz => nI (rs zz)) (fun zz => nI (bd zz)) (fun zz => nI (yr zz)) (fun zz => nI (lv zz)) rg (fun zz => nI (q zz)) (fun zz => nI (m zz)) tg := by
      intro P H
      refine br_f (nI_ge (b := 6) (by omega) (by decide)) (qc_yunw (t := c) _ (by omega) (by omega) (fun k hk => by rw [(tw k hk).1]; exact (tw k hk).2) hl (br_f (fun z => c0 ((nI_eq (b := 0) (by omega) (by omega)).mp z)) ⟨vp_in_nI c5 (by decide), nm_r ((qc_rd rs rfl (by omega)).trans (congrArg nI hrs)) ⟨vp_in_nI c5 (by decide), nm_r (qc_st rfl qc_nb0 (by omega)) ⟨vp_in_nI r5 (by decide), ?_⟩⟩⟩))
      rw [qc_uw_c (n := n) (d c) _ (fun k hk => (tw k hk).1)]
      refine br_t ?_ ⟨vp_in_nI r5 (by decide), nm_r e0 ⟨vp_in_nI (by omega) (by decide), nm_r (qc_de1 ((qc_rd q rfl (by omega)).trans (congrArg nI hq)) x1) (br_f (nI_pos (by omega)) (br_t (nI_lt (b := 64) (by omega) (by decide)) ⟨vp_in_nI (by omega) (by decide), nm_r (e' := nI a) ?_ ⟨vp_in_nI (by omega) (by decide), ?_⟩⟩))⟩⟩
      · rw [qc_rd (qc_u d c 0) rfl (by omega)]
        exact nI_lt (a := 0) (by omega) (by omega)
      · rw [nI_clamp (by omega), ha, qc_a7 a8]
      · rw [nI_clamp (by omega)]
        exact br_c (fun z => ⟨qc_vi e1 (by omega) (by decide), nm_r (qc_sr e1 (by omega) rfl) ⟨qc_vi e2 (by omega) (by decide), nm_r (qc_sr e2 (by omega) rfl) (H.1 z)⟩⟩) (fun z => nm_r (nI_1 i) (H.2 z))
    rcases ho with ho | ho
    · refine ⟨(nI mc, nI md, nI cl, nI ((qc_uw tg n c (d c) (lg, lc)).2), 1, 0, nI r, nI h, 0, e, oo, oa, ob, oc, (qc_uw tg n c (d c) (lg, lc)).1, hn, (fun zz => nI ((qc_u (qc_u s c 3) r 1) zz)), (fun zz => nI (rs zz)), (fun zz => nI (bd zz)), (fun zz => nI ((qc_u d c 0) zz)), (fun zz => nI (p zz)), (fun zz => nI (n zz)), (upd (upd rg ((r * 6 + qc_u d c 0 r - 1) * 8 + a) e) ((r * 6 + qc_u d c 0 r - 1) * 8 + (a + 1) % 8) 0), tg), (nI mc, nI md, 1, 0, nI r, nI h, nI cl, nI ((qc_uw tg n c (d c) (lg, lc)).2), oo, oa, ob, oc, (qc_uw tg n c (d c) (lg, lc)).1, hn, (fun zz => nI ((qc_u d c 0) zz)), (fun zz => nI (rs zz)), (fun zz => nI (bd zz)), (fun zz => nI (yr zz)), (fun zz => nI ((qc_u lv c 0) zz)), (upd (upd rg ((r * 6 + qc_u d c 0 r - 1) * 8 + a) e) ((r * 6 + qc_u d c 0 r - 1) * 8 + (a + 1) % 8) 0), (fun zz => nI (q zz)), (fun zz => nI ((qc_mz c (d c) m) zz)), tg), ?_, fun P hP => ?_, fun P hP => ?_⟩
      · exact ⟨_, _, _, _, _, _, _, _, _, _, _, _, _, _, _, _, _, _, _, _, _, _, _, _, _, _, _, r :: l, rfl, rfl, K', .inl ⟨rfl, rfl, by simp⟩, ⟨fun c l z => (by cases z; rfl), fun z => absurd z (by decide)⟩, I'⟩
      · refine br_f (nI_ge (b := 5) (by omega) (by decide)) (br_f (by decide) (qc_xunw (t := c) _ c5 (by omega) (fun k hk => (tw k hk).2) hl ⟨vp_in_nI c5 (by decide), nm_r (qc_st (x := 3) rfl rfl (by omega)) (br_f (fun z => c0 ((nI_eq (b := 0) (by omega) (by omega)).mp z)) ⟨vp_in_nI c5 (by decide), ?_⟩)⟩))
        rw [qc_rd rs rfl (by omega), hrs]
        exact qc_xc13 _ r5 H1 (by omega) rfl x1 x64 ha a8 ho _ _ 0 (fun _ => rfl) (fun z => absurd rfl z) (nm_r (nI_1 i) (qc_sr0 P _ (by omega) hP))
      · exact yy P ⟨fun _ => hP, fun z => absurd ho z⟩
    · obtain ⟨u', v', hR, hX, hY⟩ := ih r (i + 1) _ (qc_uw tg n c (d c) (lg, lc)).1 rg _ _ _ _ hi' K' (qc_J_of I')
      refine ⟨u', v', hR, fun P hP => ?_, fun P hP => ?_⟩
      · refine br_f (nI_ge (b := 5) (by omega) (by decide)) (br_f (by decide) (qc_xunw (t := c) _ c5 (by omega) (fun k hk => (tw k hk).2) hl ⟨vp_in_nI c5 (by decide), nm_r (qc_st (x := 3) rfl rfl (by omega)) (br_f (fun z => c0 ((nI_eq (b := 0) (by omega) (by omega)).mp z)) ⟨vp_in_nI c5 (by decide), ?_⟩)⟩))
        rw [qc_rd rs rfl (by omega), hrs]
        exact qc_xcr _ r5 H1 (by omega) rfl x1 x64 ho _ (nm_r (nI_1 i) (hX P hP))
      · exact yy P ⟨fun z => absurd (ho.symm.trans z) (by decide), fun _ => hY P hP⟩
theorem qc_settle {u : SX} {v : SY} {c : Nat} {e : Int32} (Q : qc_Q B u v c e) :
    ∃ (u' : SX) (v' : SY), qc_R B u' v' ∧ (∀ P : SX → Prop, P u' → wpX_settleRaise P u) ∧ (∀ P : SY → Prop, P v' → wpY_raise P v (nI c) e) := by
  obtain ⟨mc, md, cl, lc, h, oo, oa, ob, oc, lg, hn, rg, tg, d, s, lv, rs, bd, yr, p, q, n, m, l, rfl, rfl, K, J⟩ := Q
  have := qc_len J.2.1 J.2.2.1
  obtain ⟨u', v', hR, hX, hY⟩ := qc_set l c 0 lc lg rg d s lv m (by simp at this; omega) K J
  exact ⟨u', v', hR, fun P hP => ⟨_, hX P hP⟩, fun P hP => ⟨_, hY P hP⟩⟩
end
