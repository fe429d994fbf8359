def qc_Out (B : Nat) (u : SX) (v : SY) : Prop :=
  (∃ (u' : SX) (v' : SY), qc_R (B + 1) u' v' ∧ (∀ P : SX → Prop, P u' → wpX_step P u) ∧ (∀ P : SY → Prop, P v' → wpY_step P v)) ∨
  (∃ (u' : SX) (v' : SY) (c : Nat) (e : Int32), qc_Q (B + 1) u' v' c e ∧ (∀ P : SX → Prop, P u' → wpX_step P u) ∧
    (∀ w : SY, (∀ Q : SY → Prop, Q w → wpY_raise Q v' (nI c) e) → ∀ P : SY → Prop, P w → wpY_step P v))
section
variable {mc md cl lc cu h B : Nat} {st rt lh rd re cy : Int32} {oo oa ob oc lg hn rg tg : Nat → Int32} {d s lv rs bd yr p q n m : Nat → Nat} {c r t x a b : Nat} {l L : List Nat}
theorem qc_qtop {dt : Nat} (h1 : 0 < dt) (h : qc_Th oa p q n m t dt) : q (t * 6 + dt - 1) = p (t * 6 + dt - 1) ∧ m (t * 6 + dt - 1) = n (t * 6 + dt - 1) ∧ n (t * 6 + dt - 1) ≤ 4 := by
  have e : t * 6 + (dt - 1) = t * 6 + dt - 1 := by omega
  have := h (dt - 1) (by omega)
  rw [e] at this
  exact ⟨this.1, this.2.2.1, this.2.2.2.1⟩
theorem qc_Rmk (K : qc_K mc md cl lc h B oo oa ob oc lv bd) (I : qc_I mc md oo oa ob d s lv rs yr p q n m (c :: l)) :
    qc_R B (nI mc, nI md, nI cl, nI lc, 1, 0, nI c, nI h, 0, re, oo, oa, ob, oc, lg, hn, (fun zz => nI (s zz)), (fun zz => nI (rs zz)), (fun zz => nI (bd zz)), (fun zz => nI (d zz)), (fun zz => nI (p zz)), (fun zz => nI (n zz)), rg, tg) (nI mc, nI md, 1, 0, nI c, nI h, nI cl, nI lc, oo, oa, ob, oc, lg, hn, (fun zz => nI (d zz)), (fun zz => nI (rs zz)), (fun zz => nI (bd zz)), (fun zz => nI (yr zz)), (fun zz => nI (lv zz)), rg, (fun zz => nI (q zz)), (fun zz => nI (m zz)), tg) :=
  ⟨_, _, _, _, _, _, _, _, _, _, _, _, _, _, _, _, _, _, _, _, _, _, _, _, _, _, _, c :: l, rfl, rfl, K, .inl ⟨rfl, rfl, by simp⟩, fun c l z => (by cases z; rfl), I⟩
theorem qc_Qmk {e : Int32} (K : qc_K mc md cl lc h B oo oa ob oc lv bd) (J : qc_J mc md oo oa ob d s lv rs yr p q n m (c :: l)) :
    qc_Q B (nI mc, nI md, nI cl, nI lc, 1, 0, nI c, nI h, 1, e, oo, oa, ob, oc, lg, hn, (fun zz => nI (s zz)), (fun zz => nI (rs zz)), (fun zz => nI (bd zz)), (fun zz => nI (d zz)), (fun zz => nI (p zz)), (fun zz => nI (n zz)), rg, tg) (nI mc, nI md, 1, 0, nI c, nI h, nI cl, nI lc, oo, oa, ob, oc, lg, hn, (fun zz => nI (d zz)), (fun zz => nI (rs zz)), (fun zz => nI (bd zz)), (fun zz => nI (yr zz)), (fun zz => nI (lv zz)), rg, (fun zz => nI (q zz)), (fun zz => nI (m zz)), tg) c e :=
  ⟨_, _, _, _, _, _, _, _, _, _, _, _, _, _, _, _, _, _, _, _, _, _, _, l, rfl, rfl, K, J⟩
theorem qc_K_up (K : qc_K mc md cl lc h B oo oa ob oc lv bd) : qc_K mc md cl lc h (B + 1) oo oa ob oc lv bd :=
  ⟨K.1, K.2.1, K.2.2.1, K.2.2.2.1, by have := K.2.2.2.2.1; omega, K.2.2.2.2.2.1, K.2.2.2.2.2.2.1, K.2.2.2.2.2.2.2⟩
theorem qc_bad (K : qc_K mc md cl lc h B oo oa ob oc lv bd) (I : qc_I mc md oo oa ob d s lv rs yr p q n m (c :: l)) (hp : p (c * 6 + d c - 1) = x) (hx : cl ≤ x) : qc_Out B (nI mc, nI md, nI cl, nI lc, 1, 0, nI c, nI h, 0, re, oo, oa, ob, oc, lg, hn, (fun zz => nI (s zz)), (fun zz => nI (rs zz)), (fun zz => nI (bd zz)), (fun zz => nI (d zz)), (fun zz => nI (p zz)), (fun zz => nI (n zz)), rg, tg) (nI mc, nI md, 1, 0, nI c, nI h, nI cl, nI lc, oo, oa, ob, oc, lg, hn, (fun zz => nI (d zz)), (fun zz => nI (rs zz)), (fun zz => nI (bd zz)), (fun zz => nI (yr zz)), (fun zz => nI (lv zz)), rg, (fun zz => nI (q zz)), (fun zz => nI (m zz)), tg) := by
  have c5 : c < 5 := I.2.2.1 c List.mem_cons_self
  obtain ⟨h1, hdm, hs1, hlv, hth⟩ := I.2.2.2.2.1
  have hm : md ≤ 6 := K.2.1.2
  have h6 : d c ≤ 6 := by omega
  have h64 : cl ≤ 64 := K.2.2.1
  have hl : lc ≤ 64 := K.2.2.2.1
  have hq : q (c * 6 + d c - 1) = x := (qc_qtop h1 hth).1.trans hp
  have hf : (c * 6 + d c - 1) < 30 := by omega
  have x64 : x ≤ 64 := by
    have e : c * 6 + (d c - 1) = (c * 6 + d c - 1) := by omega
    have := (hth (d c - 1) (by omega)).2.1
    rw [e, hp] at this
    exact this
  refine .inr ⟨(nI mc, nI md, nI cl, nI lc, 1, 0, nI c, nI h, 1, (-7), oo, oa, ob, oc, lg, hn, (fun zz => nI (s zz)), (fun zz => nI (rs zz)), (fun zz => nI (bd zz)), (fun zz => nI (d zz)), (fun zz => nI (p zz)), (fun zz => nI (n zz)), rg, tg), (nI mc, nI md, 1, 0, nI c, nI h, nI cl, nI lc, oo, oa, ob, oc, lg, hn, (fun zz => nI (d zz)), (fun zz => nI (rs zz)), (fun zz => nI (bd zz)), (fun zz => nI (yr zz)), (fun zz => nI (lv zz)), rg, (fun zz => nI (q zz)), (fun zz => nI (m zz)), tg), c, -7, qc_Qmk (qc_K_up K) (qc_J_of I), fun P hP => ?_, fun w hw P hP => ?_⟩
  · unfold wpX_step
    refine qc_xtf _ c5 h1 ?_
    exact ⟨vp_in_nI (by omega) (by decide), nm_r ((qc_rd p rfl (by omega)).trans (congrArg nI hp)) (br_f (nI_nlt hx (by omega)) hP)⟩
  · refine br_f (nI_pos (by omega)) (br_f (nI_nlt (a := 4) (by omega) (by decide)) ⟨vp_in_nI (by omega) (by decide), br_t (by rw [qc_rd d rfl (by omega)]; exact nI_le (a := 1) h1 (by omega)) ⟨vp_in_nI (by omega) (by decide), nm_r ((congrArg (fun z => nI c * 6 + z - 1) (qc_rd d rfl (by omega))).trans (qc_tf h1)) ⟨vp_in_nI (by omega) (by decide), nm_r ((qc_rd q rfl (by omega)).trans (congrArg nI hq)) (br_f (nI_pos (by omega)) (br_f (nI_nlt hx (by omega)) ?_))⟩⟩⟩)
    exact hw _ hP
theorem qc_o0 (K : qc_K mc md cl lc h B oo oa ob oc lv bd) (I : qc_I mc md oo oa ob d s lv rs yr p q n m (c :: l)) (hp : p (c * 6 + d c - 1) = x) (hx : x < cl) (ho : oo x = 0) (ha : oa x = nI a) (a8 : a < 8) : qc_Out B (nI mc, nI md, nI cl, nI lc, 1, 0, nI c, nI h, 0, re, oo, oa, ob, oc, lg, hn, (fun zz => nI (s zz)), (fun zz => nI (rs zz)), (fun zz => nI (bd zz)), (fun zz => nI (d zz)), (fun zz => nI (p zz)), (fun zz => nI (n zz)), rg, tg) (nI mc, nI md, 1, 0, nI c, nI h, nI cl, nI lc, oo, oa, ob, oc, lg, hn, (fun zz => nI (d zz)), (fun zz => nI (rs zz)), (fun zz => nI (bd zz)), (fun zz => nI (yr zz)), (fun zz => nI (lv zz)), rg, (fun zz => nI (q zz)), (fun zz => nI (m zz)), tg) := by
  have c5 : c < 5 := I.2.2.1 c List.mem_cons_self
  obtain ⟨h1, hdm, hs1, hlv, hth⟩ := I.2.2.2.2.1
  have hm : md ≤ 6 := K.2.1.2
  have h6 : d c ≤ 6 := by omega
  have h64 : cl ≤ 64 := K.2.2.1
  have hl : lc ≤ 64 := K.2.2.2.1
  have hq : q (c * 6 + d c - 1) = x := (qc_qtop h1 hth).1.trans hp
  have hf : (c * 6 + d c - 1) < 30 := by omega
  have eA : nI ((c * 6 + d c - 1) * 8) + nI a = nI ((c * 6 + d c - 1) * 8 + a) := nI_add _ _
  refine .inl ⟨(nI mc, nI md, nI cl, nI lc, 1, 0, nI c, nI h, 0, re, oo, oa, ob, oc, lg, hn, (fun zz => nI (s zz)), (fun zz => nI (rs zz)), (fun zz => nI (bd zz)), (fun zz => nI (d zz)), (fun zz => nI ((qc_u p (c * 6 + d c - 1) (x + 1)) zz)), (fun zz => nI (n zz)), (upd rg ((c * 6 + d c - 1) * 8 + a) (ob x)), tg), (nI mc, nI md, 1, 0, nI c, nI h, nI cl, nI lc, oo, oa, ob, oc, lg, hn, (fun zz => nI (d zz)), (fun zz => nI (rs zz)), (fun zz => nI (bd zz)), (fun zz => nI (yr zz)), (fun zz => nI (lv zz)), (upd rg ((c * 6 + d c - 1) * 8 + a) (ob x)), (fun zz => nI ((qc_u q (c * 6 + d c - 1) (x + 1)) zz)), (fun zz => nI (m zz)), tg), qc_Rmk (qc_K_up K) (qc_tr_pc hm I (by omega)), fun P hP => ?_, fun P hP => ?_⟩
  · unfold wpX_step
    refine qc_xtf _ c5 h1 ?_
    refine ⟨vp_in_nI (by omega) (by decide), nm_r ((qc_rd p rfl (by omega)).trans (congrArg nI hp)) (br_t (nI_lt hx (by omega)) (nm_r (qc_m8 _) ⟨vp_in_nI (by omega) (by decide), nm_r ((qc_rr rfl (by omega)).trans ha) ⟨vp_in_nI (by omega) (by decide), nm_r ((qc_rr rfl (by omega))) ⟨vp_in_nI (by omega) (by decide), nm_r ((qc_rr rfl (by omega))) ⟨vp_in_nI (by omega) (by decide), nm_r (qc_st rfl (nI_1 x) (by omega)) ⟨vp_in_nI (by omega) (by decide), nm_r ((qc_rr rfl (by omega)).trans ho) (br_f (by decide) (br_f (by decide) (br_t rfl ?_)))⟩⟩⟩⟩⟩))⟩
    exact ⟨qc_vi eA (by omega) (by decide), nm_r (qc_sr eA (by omega) rfl) hP⟩
  · refine br_f (nI_pos (by omega)) (br_f (nI_nlt (a := 4) (by omega) (by decide)) ⟨vp_in_nI (by omega) (by decide), br_t (by rw [qc_rd d rfl (by omega)]; exact nI_le (a := 1) h1 (by omega)) ⟨vp_in_nI (by omega) (by decide), nm_r ((congrArg (fun z => nI c * 6 + z - 1) (qc_rd d rfl (by omega))).trans (qc_tf h1)) ⟨vp_in_nI (by omega) (by decide), nm_r ((qc_rd q rfl (by omega)).trans (congrArg nI hq)) (br_f (nI_pos (by omega)) (br_t (nI_lt hx (by omega)) ⟨vp_in_nI (by omega) (by decide), nm_r ((qc_rr rfl (by omega)).trans ho) ⟨vp_in_nI (by omega) (by decide), nm_r (congrArg (· &&& 7) ((qc_rr rfl (by omega)).trans ha) |>.trans (qc_a7 a8)) ⟨vp_in_nI (by omega) (by decide), nm_r ((qc_rr rfl (by omega))) (nm_e ⟨vp_in_nI (by omega) (by decide), nm_e (nm_r (qc_m8 _) (br_t rfl ?_))⟩)⟩⟩⟩))⟩⟩⟩)
    exact ⟨qc_vi eA (by omega) (by decide), nm_r (qc_sr eA (by omega) rfl) ⟨vp_in_nI (by omega) (by decide), nm_r (qc_st rfl (nI_1 x) (by omega)) hP⟩⟩
end
