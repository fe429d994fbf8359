section
variable {mc md cl lc cu h B : Nat} {st rt lh rd re cy : Int32} {oo oa ob oc lg hn rg tg : Nat → Int32} {d s lv rs bd yr p q n m : Nat → Nat} {c r t x a b : Nat} {l L : List Nat}
theorem qc_yap (P : SY → Prop) {v w : Int32} (hv : v = w) (hl : lc ≤ 64) (h : P (nI mc, nI md, st, rt, cy, lh, nI cl, nI ((qc_ap (lg, lc) w).2), oo, oa, ob, oc, (qc_ap (lg, lc) w).1, hn, (fun zz => nI (d zz)), (fun zz => nI (rs zz)), (fun zz => nI (bd zz)), (fun zz => nI (yr zz)), (fun zz => nI (lv zz)), rg, (fun zz => nI (q zz)), (fun zz => nI (m zz)), tg)) : wpY_append P (nI mc, nI md, st, rt, cy, lh, nI cl, nI lc, oo, oa, ob, oc, lg, hn, (fun zz => nI (d zz)), (fun zz => nI (rs zz)), (fun zz => nI (bd zz)), (fun zz => nI (yr zz)), (fun zz => nI (lv zz)), rg, (fun zz => nI (q zz)), (fun zz => nI (m zz)), tg) v := by
  subst hv
  by_cases z : lc < 64
  · have e : qc_ap (lg, lc) v = (upd lg lc v, lc + 1) := if_pos z
    rw [e] at h
    exact br_f (nI_ge (b := 64) z (by decide)) ⟨vp_in_nI z (by decide), nm_r (qc_sr rfl (by omega) rfl) (nm_r (nI_1 lc) h)⟩
  · have e : qc_ap (lg, lc) v = (lg, lc) := if_neg z
    rw [e] at h
    exact br_t (nI_le (a := 64) (by omega) (by omega)) h
theorem qc_ypl (P : SY → Prop) {f : Nat} (v : Int32) (t5 : t < 5) (hf : f < 30) : ∀ (k r : Nat) (rg : Nat → Int32), r + k = 8 →
    P (nI mc, nI md, st, rt, cy, lh, nI cl, nI lc, oo, oa, ob, oc, lg, hn, (fun zz => nI ((qc_u d t (x + 1)) zz)), (fun zz => nI (rs zz)), (fun zz => nI (bd zz)), (fun zz => nI (yr zz)), (fun zz => nI (lv zz)), (upd (qc_z rg (f * 8) r) (f * 8) v), (fun zz => nI ((qc_u q f a) zz)), (fun zz => nI ((qc_u m f 0) zz)), tg) → wY_pushFrame_33 P (nI t) v (nI a) (nI x) (nI f) (nI mc) (nI md) st rt cy lh (nI cl) (nI lc) (k + 1) (nI r) oo oa ob oc lg hn (fun zz => nI (d zz)) (fun zz => nI (rs zz)) (fun zz => nI (bd zz)) (fun zz => nI (yr zz)) (fun zz => nI (lv zz)) rg (fun zz => nI (q zz)) (fun zz => nI (m zz)) tg := by
  intro k
  induction k with
  | zero =>
    intro r rg hr h
    have e : r = 8 := by omega
    subst e
    rw [qc_z8] at h
    exact br_t (nI_le (a := 8) (b := 8) (by omega) (by decide)) ⟨qc_vi (qc_m8 _) (by omega) (by decide), nm_r (qc_sr (qc_m8 _) (by omega) rfl) ⟨vp_in_nI hf (by decide), nm_r (qc_st rfl rfl (by omega)) ⟨vp_in_nI hf (by decide), nm_r (qc_st (x := 0) rfl rfl (by omega)) ⟨vp_in_nI t5 (by decide), nm_r (qc_st rfl (nI_1 x) (by omega)) h⟩⟩⟩⟩
  | succ k ih =>
    intro r rg hr h
    have e : nI f * 8 + nI r = nI (f * 8 + r) := qc_fr8 rfl rfl
    refine br_f (nI_ge (b := 8) (by omega) (by decide)) ⟨qc_vi e (by omega) (by decide), nm_r (qc_sr e (by omega) rfl) (nm_r (nI_1 r) (ih (r + 1) _ (by omega) ?_))⟩
    rw [qc_zs _ (by omega)]
    exact h
theorem qc_ypush (P : SY → Prop) (v : Int32) (t5 : t < 5) (hd : d t < 6)
    (h : P (nI mc, nI md, st, rt, cy, lh, nI cl, nI lc, oo, oa, ob, oc, lg, hn, (fun zz => nI ((qc_u d t (d t + 1)) zz)), (fun zz => nI (rs zz)), (fun zz => nI (bd zz)), (fun zz => nI (yr zz)), (fun zz => nI (lv zz)), (qc_pr rg ((t * 6 + d t) * 8) v), (fun zz => nI ((qc_u q (t * 6 + d t) a) zz)), (fun zz => nI ((qc_u m (t * 6 + d t) 0) zz)), tg)) : wpY_pushFrame P (nI mc, nI md, st, rt, cy, lh, nI cl, nI lc, oo, oa, ob, oc, lg, hn, (fun zz => nI (d zz)), (fun zz => nI (rs zz)), (fun zz => nI (bd zz)), (fun zz => nI (yr zz)), (fun zz => nI (lv zz)), rg, (fun zz => nI (q zz)), (fun zz => nI (m zz)), tg) (nI t) v (nI a) :=
  ⟨vp_in_nI t5 (by decide), nm_r (qc_rd d rfl (by omega)) (br_f (nI_pos (by omega)) (br_t (nI_lt (b := 6) hd (by decide)) (nm_r (show nI t * 6 + nI (d t) = nI (t * 6 + d t) by rw [qc_m6, nI_add]) ⟨9, qc_ypl P v t5 (by omega) 8 0 _ rfl h⟩)))⟩
theorem qc_ypcl (P : SY → Prop) {f : Nat} (hf : f < 30) (h4 : m f ≤ 4) : ∀ (k lc : Nat) (lg : Nat → Int32) (x2 : Int32), x2 = nI k - 1 → k ≤ 4 → lc ≤ 64 →
    P (nI mc, nI md, st, rt, cy, lh, nI cl, nI ((qc_cl tg f (min k (m f)) (lg, lc)).2), oo, oa, ob, oc, (qc_cl tg f (min k (m f)) (lg, lc)).1, hn, (fun zz => nI (d zz)), (fun zz => nI (rs zz)), (fun zz => nI (bd zz)), (fun zz => nI (yr zz)), (fun zz => nI (lv zz)), rg, (fun zz => nI (q zz)), (fun zz => nI ((qc_u m f 0) zz)), tg) → wY_performCleanups_2 P (nI f) (k + 1) x2 (nI mc) (nI md) st rt cy lh (nI cl) (nI lc) oo oa ob oc lg hn (fun zz => nI (d zz)) (fun zz => nI (rs zz)) (fun zz => nI (bd zz)) (fun zz => nI (yr zz)) (fun zz => nI (lv zz)) rg (fun zz => nI (q zz)) (fun zz => nI (m zz)) tg := by
  intro k
  induction k with
  | zero =>
    intro lc lg x2 hx hk hl h
    subst hx
    rw [Nat.zero_min] at h
    exact br_t (by decide) ⟨vp_in_nI hf (by decide), nm_r (qc_st (x := 0) rfl rfl (by omega)) h⟩
  | succ k ih =>
    intro lc lg x2 hx hk hl h
    rw [nI_pred] at hx
    subst hx
    have e : nI f * 4 + nI k = nI (f * 4 + k) := qc_fr4 rfl rfl
    refine br_f (nI_pos (by omega)) ⟨vp_in_nI hf (by decide), ?_⟩
    by_cases z : m f ≤ k
    · refine br_t ?_ (nm_e (ih _ _ _ (Int32.sub_eq_add_neg ..).symm (by omega) hl ?_))
      · rw [qc_rd m rfl (by omega)]
        exact nI_le z (by omega)
      · rw [Nat.min_eq_right z]
        rw [Nat.min_eq_right (by omega)] at h
        exact h
    · refine br_f ?_ ⟨qc_vi e (by omega) (by decide), qc_yap _ (qc_rr e (by omega)) hl (nm_e (ih _ _ _ (Int32.sub_eq_add_neg ..).symm (by omega) (qc_ap_le hl) ?_))⟩
      · rw [qc_rd m rfl (by omega)]
        exact nI_ge (by omega) (by omega)
      · rw [Nat.min_eq_left (by omega)]
        rw [Nat.min_eq_left (by omega)] at h
        exact h
theorem qc_ypc (P : SY → Prop) {f : Nat} (hf : f < 30) (h4 : m f ≤ 4) (hl : lc ≤ 64)
    (h : P (nI mc, nI md, st, rt, cy, lh, nI cl, nI ((qc_cl tg f (m f) (lg, lc)).2), oo, oa, ob, oc, (qc_cl tg f (m f) (lg, lc)).1, hn, (fun zz => nI (d zz)), (fun zz => nI (rs zz)), (fun zz => nI (bd zz)), (fun zz => nI (yr zz)), (fun zz => nI (lv zz)), rg, (fun zz => nI (q zz)), (fun zz => nI ((qc_u m f 0) zz)), tg)) : wpY_performCleanups P (nI mc, nI md, st, rt, cy, lh, nI cl, nI lc, oo, oa, ob, oc, lg, hn, (fun zz => nI (d zz)), (fun zz => nI (rs zz)), (fun zz => nI (bd zz)), (fun zz => nI (yr zz)), (fun zz => nI (lv zz)), rg, (fun zz => nI (q zz)), (fun zz => nI (m zz)), tg) (nI f) := by
  refine ⟨5, qc_ypcl P hf h4 4 _ _ _ (by decide) (by omega) hl ?_⟩
  rw [Nat.min_eq_right h4]
  exact h
theorem qc_yunl (P : SY → Prop) (t5 : t < 5) : ∀ (j i lc : Nat) (lg : Nat → Int32) (d m : Nat → Nat), i + j ≤ 6 → d t = j → (∀ i, i < j → m (t * 6 + i) ≤ 4) → lc ≤ 64 →
    P (nI mc, nI md, st, rt, cy, lh, nI cl, nI ((qc_uw tg m t j (lg, lc)).2), oo, oa, ob, oc, (qc_uw tg m t j (lg, lc)).1, hn, (fun zz => nI ((qc_u d t 0) zz)), (fun zz => nI (rs zz)), (fun zz => nI (bd zz)), (fun zz => nI (yr zz)), (fun zz => nI (lv zz)), rg, (fun zz => nI (q zz)), (fun zz => nI ((qc_mz t j m) zz)), tg) → wY_unwind_2 P (nI t) (j + 1) (nI i) (nI mc) (nI md) st rt cy lh (nI cl) (nI lc) oo oa ob oc lg hn (fun zz => nI (d zz)) (fun zz => nI (rs zz)) (fun zz => nI (bd zz)) (fun zz => nI (yr zz)) (fun zz => nI (lv zz)) rg (fun zz => nI (q zz)) (fun zz => nI (m zz)) tg := by
  intro j
  induction j with
  | zero =>
    intro i lc lg d m hi hd h4 hl h
    rw [qc_ue hd] at h
    by_cases z : i = 6
    · exact br_t (nI_le (a := 6) (by omega) (by omega)) h
    · refine br_f (nI_ge (b := 6) (by omega) (by decide)) ⟨vp_in_nI t5 (by decide), br_f ?_ h⟩
      rw [qc_rd d rfl (by omega), hd]
      decide
  | succ j ih =>
    intro i lc lg d m hi hd h4 hl h
    have e : nI t * 6 + (fun zz => nI (d zz)) (nI t).toNatClampNeg - 1 = nI (t * 6 + j) := by
      rw [qc_rd d rfl (by omega), qc_tf (by omega), hd]
      rfl
    refine br_f (nI_ge (b := 6) (by omega) (by decide)) ⟨vp_in_nI t5 (by decide), br_t ?_ ⟨vp_in_nI t5 (by decide), ?_⟩⟩
    · rw [qc_rd d rfl (by omega), hd]
      exact nI_lt (a := 0) (by omega) (by omega)
    · rw [e]
      refine qc_ypc _ (by omega) (h4 j (by omega)) hl ⟨vp_in_nI t5 (by decide), vp_in_nI t5 (by decide), nm_r (qc_st rfl (qc_de1 (qc_rd d rfl (by omega)) (by omega)) (by omega)) (nm_r (nI_1 i) (ih (i + 1) _ _ (qc_u d t (d t - 1)) (qc_u m (t * 6 + j) 0) (by omega) (by rw [qc_us]; omega) (fun k hk => by rw [qc_uo (by omega)]; exact h4 k (by omega)) (qc_cl_le _ _ hl) ?_))⟩
      rw [qc_uu, qc_uw_c (n := m) j _ (fun k hk => qc_uo (by omega))]
      exact h
theorem qc_yunw (P : SY → Prop) (t5 : t < 5) (h6 : d t ≤ 6) (h4 : ∀ i, i < d t → m (t * 6 + i) ≤ 4) (hl : lc ≤ 64)
    (h : P (nI mc, nI md, st, rt, cy, lh, nI cl, nI ((qc_uw tg m t (d t) (lg, lc)).2), oo, oa, ob, oc, (qc_uw tg m t (d t) (lg, lc)).1, hn, (fun zz => nI ((qc_u d t 0) zz)), (fun zz => nI (rs zz)), (fun zz => nI (bd zz)), (fun zz => nI (yr zz)), (fun zz => nI (lv zz)), rg, (fun zz => nI (q zz)), (fun zz => nI ((qc_mz t (d t) m) zz)), tg)) : wpY_unwind P (nI mc, nI md, st, rt, cy, lh, nI cl, nI lc, oo, oa, ob, oc, lg, hn, (fun zz => nI (d zz)), (fun zz => nI (rs zz)), (fun zz => nI (bd zz)), (fun zz => nI (yr zz)), (fun zz => nI (lv zz)), rg, (fun zz => nI (q zz)), (fun zz => nI (m zz)), tg) (nI t) :=
  ⟨_, qc_yunl P t5 (d t) 0 _ _ _ _ (by omega) rfl h4 hl h⟩
theorem qc_ycs (P : SY → Prop) (r5 : r < 5) (h1 : 1 ≤ d r) (h6 : d r ≤ 6) (hp : q (r * 6 + d r - 1) = x) (x1 : 1 ≤ x) (x64 : x ≤ 64) (ha : oa (x - 1) = nI a) (a8 : a < 8) (v : Int32)
    (H : (oo (x - 1) = 13 → P (nI mc, nI md, st, rt, nI r, lh, nI cl, nI lc, oo, oa, ob, oc, lg, hn, (fun zz => nI (d zz)), (fun zz => nI (rs zz)), (fun zz => nI (bd zz)), (fun zz => nI (yr zz)), (fun zz => nI (lv zz)), (upd (upd rg ((r * 6 + d r - 1) * 8 + a) v) ((r * 6 + d r - 1) * 8 + (a + 1) % 8) 1), (fun zz => nI (q zz)), (fun zz => nI (m zz)), tg)) ∧ (¬ oo (x - 1) = 13 → P (nI mc, nI md, st, rt, nI r, lh, nI cl, nI lc, oo, oa, ob, oc, lg, hn, (fun zz => nI (d zz)), (fun zz => nI (rs zz)), (fun zz => nI (bd zz)), (fun zz => nI (yr zz)), (fun zz => nI (lv zz)), (upd rg ((r * 6 + d r - 1) * 8 + a) v), (fun zz => nI (q zz)), (fun zz => nI (m zz)), tg))) :
    wpY_completeSuccess P (nI mc, nI md, st, rt, cy, lh, nI cl, nI lc, oo, oa, ob, oc, lg, hn, (fun zz => nI (d zz)), (fun zz => nI (rs zz)), (fun zz => nI (bd zz)), (fun zz => nI (yr zz)), (fun zz => nI (lv zz)), rg, (fun zz => nI (q zz)), (fun zz => nI (m zz)), tg) (nI r) v := by
  have e1 : nI (r * 6 + d r - 1) * 8 + nI a = nI ((r * 6 + d r - 1) * 8 + a) := qc_fr8 rfl rfl
  have e2 : nI (r * 6 + d r - 1) * 8 + ((nI a + 1) &&& 7) = nI ((r * 6 + d r - 1) * 8 + (a + 1) % 8) := qc_fr8 rfl (qc_a17 a8)
  have e0 : nI r * 6 + (fun zz => nI (d zz)) (nI r).toNatClampNeg - 1 = nI (r * 6 + d r - 1) := by
    rw [qc_rd d rfl (by omega), qc_tf h1]
  refine ⟨vp_in_nI r5 (by decide), br_t ?_ ⟨vp_in_nI r5 (by decide), nm_r e0 ⟨vp_in_nI (by omega) (by decide), nm_r (qc_de1 ((qc_rd q rfl (by omega)).trans (congrArg nI hp)) x1) (br_f (nI_pos (by omega)) (br_t (nI_lt (b := 64) (by omega) (by decide)) ⟨vp_in_nI (by omega) (by decide), nm_r ?_ ⟨qc_vi e1 (by omega) (by decide), nm_r (qc_sr e1 (by omega) rfl) ⟨vp_in_nI (by omega) (by decide), ?_⟩⟩⟩))⟩⟩⟩
  · rw [qc_rd d rfl (by omega)]
    exact nI_lt (a := 0) (by omega) (by omega)
  · rw [nI_clamp (by omega), ha, qc_a7 a8]
  · rw [nI_clamp (by omega)]
    exact br_c (fun z => ⟨qc_vi e2 (by omega) (by decide), nm_r (qc_sr e2 (by omega) rfl) (H.1 z)⟩) (fun z => H.2 z)
end
