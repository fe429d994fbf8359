theorem qc_st {d : Nat → Nat} {k x : Nat} {i V : Int32} (hi : i = nI k) (hV : V = nI x) (hk : k < 2 ^ 31) : upd (fun zz => nI (d zz)) i.toNatClampNeg V = fun zz => nI (qc_u d k x zz) := by
  subst hi hV
  rw [nI_clamp hk]
  exact qc_uI d k x
theorem qc_sr {f : Nat → Int32} {k : Nat} {i V W : Int32} (hi : i = nI k) (hk : k < 2 ^ 31) (hV : V = W) : upd f i.toNatClampNeg V = upd f k W := by
  subst hi hV
  rw [nI_clamp hk]
theorem qc_rr {f : Nat → Int32} {k : Nat} {i : Int32} (hi : i = nI k) (hk : k < 2 ^ 31) : f i.toNatClampNeg = f k := by
  subst hi
  rw [nI_clamp hk]
theorem qc_rd (d : Nat → Nat) {k : Nat} {i : Int32} (hi : i = nI k) (hk : k < 2 ^ 31) : (fun zz => nI (d zz)) i.toNatClampNeg = nI (d k) := by
  subst hi
  show nI (d _) = _
  rw [nI_clamp hk]
theorem qc_vi {i : Int32} {k N : Nat} (hi : i = nI k) (hk : k < N) (hN : N < 2 ^ 31) : vp_in i N := by
  subst hi
  exact vp_in_nI hk hN
theorem qc_in1 {V : Int32} {x : Nat} (h : V = nI x) : V + 1 = nI (x + 1) := by rw [h, nI_1]
theorem qc_de1 {V : Int32} {x : Nat} (h : V = nI x) (h1 : 1 ≤ x) : V - 1 = nI (x - 1) := by rw [h, qc_s1 h1]
theorem qc_fr8 {f a : Nat} {F A : Int32} (hF : F = nI f) (hA : A = nI a) : F * 8 + A = nI (f * 8 + a) := by rw [hF, hA, qc_m8, nI_add]
theorem qc_fr4 {f a : Nat} {F A : Int32} (hF : F = nI f) (hA : A = nI a) : F * 4 + A = nI (f * 4 + a) := by rw [hF, hA, qc_m4, nI_add]
section
variable {mc md cl lc cu h B mp mL : Nat} {st rt lh rd re : Int32} {D : Nat → Prop} {oo oa ob oc lg rg tg : Nat → Int32} {hd d s lv rs bd yr p q n m : Nat → Nat} {c r t x a b : Nat} {l L : List Nat}
theorem qc_xap (P : St2 → Prop) {v w : Int32} (hv : v = w) (hl : lc ≤ 64) (h : P (nI mc, nI md, nI cl, nI ((qc_ap (lg, lc) w).2), st, rt, nI cu, lh, rd, re, oo, oa, ob, oc, (qc_ap (lg, lc) w).1, (fun zz => nI (hd zz)), (fun zz => nI (s zz)), (fun zz => nI (rs zz)), (fun zz => nI (bd zz)), (fun zz => nI (d zz)), (fun zz => nI (p zz)), (fun zz => nI (n zz)), rg, tg)) : wpX_appendLog P (nI mc, nI md, nI cl, nI lc, st, rt, nI cu, lh, rd, re, oo, oa, ob, oc, lg, (fun zz => nI (hd zz)), (fun zz => nI (s zz)), (fun zz => nI (rs zz)), (fun zz => nI (bd zz)), (fun zz => nI (d zz)), (fun zz => nI (p zz)), (fun zz => nI (n zz)), rg, tg) v := by
  subst hv
  by_cases z : lc < 64
  · have e : qc_ap (lg, lc) v = (upd lg lc v, lc + 1) := if_pos z
    rw [e] at h
    exact br_f (nI_ge (b := 64) z (by decide)) ⟨vp_in_nI z (by decide), nm_r (qc_sr rfl (by omega) rfl) (nm_r (nI_1 lc) h)⟩
  · have e : qc_ap (lg, lc) v = (lg, lc) := if_neg z
    rw [e] at h
    exact br_t (nI_le (a := 64) (by omega) (by omega)) h
theorem qc_xtf (P : Int32 → Prop) (t5 : t < 5) (h1 : 1 ≤ d t) (h : P (nI (t * 6 + d t - 1))) : wpX_topFrame P (nI mc, nI md, nI cl, nI lc, st, rt, nI cu, lh, rd, re, oo, oa, ob, oc, lg, (fun zz => nI (hd zz)), (fun zz => nI (s zz)), (fun zz => nI (rs zz)), (fun zz => nI (bd zz)), (fun zz => nI (d zz)), (fun zz => nI (p zz)), (fun zz => nI (n zz)), rg, tg) (nI t) := by
  refine ⟨vp_in_nI t5 (by decide), ?_⟩
  show P (nI t * 6 + nI (d (nI t).toNatClampNeg) - 1)
  rw [nI_clamp (by omega), qc_tf h1]
  exact h
theorem qc_xpl (P : St2 → Prop) {f : Nat} (hf : f < 30) : ∀ (k r : Nat) (rg : Nat → Int32), r + k = 8 → P (nI mc, nI md, nI cl, nI lc, st, rt, nI cu, lh, rd, re, oo, oa, ob, oc, lg, (fun zz => nI (hd zz)), (fun zz => nI (s zz)), (fun zz => nI (rs zz)), (fun zz => nI (bd zz)), (fun zz => nI (d zz)), (fun zz => nI (p zz)), (fun zz => nI (n zz)), (qc_z rg (f * 8) r), tg) → wX_pushFrame_47 P (nI f) (nI mc) (nI md) (nI cl) (nI lc) st rt (nI cu) lh rd re (k + 1) (nI r) oo oa ob oc lg (fun zz => nI (hd zz)) (fun zz => nI (s zz)) (fun zz => nI (rs zz)) (fun zz => nI (bd zz)) (fun zz => nI (d zz)) (fun zz => nI (p zz)) (fun zz => nI (n zz)) rg tg := by
  intro k
  induction k with
  | zero =>
    intro r rg hr h
    have e : r = 8 := by omega
    subst e
    rw [qc_z8] at h
    exact br_t (nI_le (a := 8) (b := 8) (by omega) (by decide)) h
  | succ k ih =>
    intro r rg hr h
    have e : nI f * 8 + nI r = nI (f * 8 + r) := qc_fr8 rfl rfl
    refine br_f (nI_ge (b := 8) (by omega) (by decide)) ⟨qc_vi e (by omega) (by decide), nm_r (qc_sr e (by omega) rfl) (nm_r (nI_1 r) (ih (r + 1) _ (by omega) ?_))⟩
    rw [qc_zs _ (by omega)]
    exact h
theorem qc_xpush (P : St2 → Prop) (v : Int32) (t5 : t < 5) (hdl : d t < 6)
    (h : P (nI mc, nI md, nI cl, nI lc, st, rt, nI cu, lh, rd, re, oo, oa, ob, oc, lg, (fun zz => nI (hd zz)), (fun zz => nI (s zz)), (fun zz => nI (rs zz)), (fun zz => nI (bd zz)), (fun zz => nI ((qc_u d t (d t + 1)) zz)), (fun zz => nI ((qc_u p (t * 6 + d t) a) zz)), (fun zz => nI ((qc_u n (t * 6 + d t) 0) zz)), (qc_pr rg ((t * 6 + d t) * 8) v), tg)) : wpX_pushFrame P (nI mc, nI md, nI cl, nI lc, st, rt, nI cu, lh, rd, re, oo, oa, ob, oc, lg, (fun zz => nI (hd zz)), (fun zz => nI (s zz)), (fun zz => nI (rs zz)), (fun zz => nI (bd zz)), (fun zz => nI (d zz)), (fun zz => nI (p zz)), (fun zz => nI (n zz)), rg, tg) (nI t) (nI a) v := by
  refine ⟨vp_in_nI t5 (by decide), vp_in_nI t5 (by decide), nm_r (qc_st rfl (qc_in1 (qc_rd d rfl (by omega))) (by omega)) ?_⟩
  have e : t * 6 + qc_u d t (d t + 1) t - 1 = t * 6 + d t := by rw [qc_us]; omega
  refine qc_xtf (d := qc_u d t (d t + 1)) _ t5 (by rw [qc_us]; omega) ?_
  rw [e]
  refine ⟨vp_in_nI (by omega) (by decide), nm_r (qc_st rfl rfl (by omega)) ⟨vp_in_nI (by omega) (by decide), nm_r (qc_st (x := 0) rfl rfl (by omega)) ⟨qc_vi (qc_m8 _) (by omega) (by decide), nm_r (qc_sr (qc_m8 _) (by omega) rfl) ⟨8, ?_⟩⟩⟩⟩
  refine qc_xpl P (by omega) 7 1 _ rfl ?_
  rw [qc_pr_x]
  exact h
theorem qc_xpopl (P : St2 → Prop) {f : Nat} (t5 : t < 5) (hf : f < 30) (h1 : 1 ≤ d t) (h6 : d t ≤ 6) : ∀ (k lc : Nat) (lg : Nat → Int32) (x3 : Int32), x3 = nI k - 1 → k ≤ 4 → lc ≤ 64 →
    P (nI mc, nI md, nI cl, nI ((qc_cl tg f k (lg, lc)).2), st, rt, nI cu, lh, rd, re, oo, oa, ob, oc, (qc_cl tg f k (lg, lc)).1, (fun zz => nI (hd zz)), (fun zz => nI (s zz)), (fun zz => nI (rs zz)), (fun zz => nI (bd zz)), (fun zz => nI ((qc_u d t (d t - 1)) zz)), (fun zz => nI (p zz)), (fun zz => nI (n zz)), rg, tg) → wX_popFrame_15 P (nI t) (nI f) (k + 1) x3 (nI mc) (nI md) (nI cl) (nI lc) st rt (nI cu) lh rd re oo oa ob oc lg (fun zz => nI (hd zz)) (fun zz => nI (s zz)) (fun zz => nI (rs zz)) (fun zz => nI (bd zz)) (fun zz => nI (d zz)) (fun zz => nI (p zz)) (fun zz => nI (n zz)) rg tg := by
  intro k
  induction k with
  | zero =>
    intro lc lg x3 hx hk hl h
    subst hx
    exact br_t (by decide) ⟨vp_in_nI t5 (by decide), vp_in_nI t5 (by decide), nm_r (qc_st rfl (qc_de1 (qc_rd d rfl (by omega)) h1) (by omega)) h⟩
  | succ k ih =>
    intro lc lg x3 hx hk hl h
    rw [nI_pred] at hx
    subst hx
    have e : nI f * 4 + nI k = nI (f * 4 + k) := qc_fr4 rfl rfl
    refine br_f (nI_pos (by omega)) ⟨qc_vi e (by omega) (by decide), qc_xap _ (qc_rr e (by omega)) hl (nm_e (ih _ _ _ (Int32.sub_eq_add_neg ..).symm (by omega) (qc_ap_le hl) ?_))⟩
    exact h
theorem qc_xpop (P : St2 → Prop) (t5 : t < 5) (h1 : 1 ≤ d t) (h6 : d t ≤ 6) (h4 : n (t * 6 + d t - 1) ≤ 4) (hl : lc ≤ 64)
    (h : P (nI mc, nI md, nI cl, nI ((qc_cl tg (t * 6 + d t - 1) (n (t * 6 + d t - 1)) (lg, lc)).2), st, rt, nI cu, lh, rd, re, oo, oa, ob, oc, (qc_cl tg (t * 6 + d t - 1) (n (t * 6 + d t - 1)) (lg, lc)).1, (fun zz => nI (hd zz)), (fun zz => nI (s zz)), (fun zz => nI (rs zz)), (fun zz => nI (bd zz)), (fun zz => nI ((qc_u d t (d t - 1)) zz)), (fun zz => nI (p zz)), (fun zz => nI (n zz)), rg, tg)) : wpX_popFrame P (nI mc, nI md, nI cl, nI lc, st, rt, nI cu, lh, rd, re, oo, oa, ob, oc, lg, (fun zz => nI (hd zz)), (fun zz => nI (s zz)), (fun zz => nI (rs zz)), (fun zz => nI (bd zz)), (fun zz => nI (d zz)), (fun zz => nI (p zz)), (fun zz => nI (n zz)), rg, tg) (nI t) := by
  unfold wpX_popFrame
  refine qc_xtf _ t5 h1 ?_
  exact ⟨vp_in_nI (by omega) (by decide), nm_e ⟨_, qc_xpopl P t5 (by omega) h1 h6 _ _ _ _ (congrArg (· - 1) (qc_rd n rfl (by omega))) h4 hl h⟩⟩
theorem qc_xunl (P : St2 → Prop) {D : Nat} (t5 : t < 5) (hD : D ≤ 6) : ∀ (j i lc : Nat) (lg : Nat → Int32) (d : Nat → Nat), i + j = D → d t = j → (∀ i, i < j → n (t * 6 + i) ≤ 4) → lc ≤ 64 →
    P (nI mc, nI md, nI cl, nI ((qc_uw tg n t j (lg, lc)).2), st, rt, nI cu, lh, rd, re, oo, oa, ob, oc, (qc_uw tg n t j (lg, lc)).1, (fun zz => nI (hd zz)), (fun zz => nI (s zz)), (fun zz => nI (rs zz)), (fun zz => nI (bd zz)), (fun zz => nI ((qc_u d t 0) zz)), (fun zz => nI (p zz)), (fun zz => nI (n zz)), rg, tg) → wX_unwind_9 P (nI t) (nI D) (j + 1) (nI i) (nI mc) (nI md) (nI cl) (nI lc) st rt (nI cu) lh rd re oo oa ob oc lg (fun zz => nI (hd zz)) (fun zz => nI (s zz)) (fun zz => nI (rs zz)) (fun zz => nI (bd zz)) (fun zz => nI (d zz)) (fun zz => nI (p zz)) (fun zz => nI (n zz)) rg tg := by
  intro j
  induction j with
  | zero =>
    intro i lc lg d hi hdl h4 hl h
    rw [qc_ue hdl] at h
    exact br_t (nI_le (by omega) (by omega)) h
  | succ j ih =>
    intro i lc lg d hi hdl h4 hl h
    have e : t * 6 + d t - 1 = t * 6 + j := by omega
    have hj := h4 j (by omega)
    refine br_f (nI_ge (by omega) (by omega)) (qc_xpop _ t5 (by omega) (by omega) (by rw [e]; exact hj) hl (nm_r (nI_1 i) (ih (i + 1) _ _ (qc_u d t (d t - 1)) (by omega) (by rw [qc_us]; omega) (fun i hi => h4 i (by omega)) (qc_cl_le _ _ hl) ?_)))
    rw [e, qc_uu]
    exact h
theorem qc_xunw (P : St2 → Prop) (t5 : t < 5) (h6 : d t ≤ 6) (h4 : ∀ i, i < d t → n (t * 6 + i) ≤ 4) (hl : lc ≤ 64)
    (h : P (nI mc, nI md, nI cl, nI ((qc_uw tg n t (d t) (lg, lc)).2), st, rt, nI cu, lh, rd, re, oo, oa, ob, oc, (qc_uw tg n t (d t) (lg, lc)).1, (fun zz => nI (hd zz)), (fun zz => nI (s zz)), (fun zz => nI (rs zz)), (fun zz => nI (bd zz)), (fun zz => nI ((qc_u d t 0) zz)), (fun zz => nI (p zz)), (fun zz => nI (n zz)), rg, tg)) : wpX_unwind P (nI mc, nI md, nI cl, nI lc, st, rt, nI cu, lh, rd, re, oo, oa, ob, oc, lg, (fun zz => nI (hd zz)), (fun zz => nI (s zz)), (fun zz => nI (rs zz)), (fun zz => nI (bd zz)), (fun zz => nI (d zz)), (fun zz => nI (p zz)), (fun zz => nI (n zz)), rg, tg) (nI t) :=
  ⟨vp_in_nI t5 (by decide), nm_r (qc_rd d rfl (by omega)) ⟨_, qc_xunl P t5 h6 (d t) 0 _ _ _ (by omega) rfl h4 hl h⟩⟩
theorem qc_xc64 (P : St2 → Prop) {f : Nat} (hf : f < 30) (hx : x < 64) (ha : oa x = nI a) (a8 : a < 8) (v sc w z : Int32)
    (h1 : ¬ z = 0 → P (nI mc, nI md, nI cl, nI lc, st, rt, nI cu, lh, rd, re, oo, oa, ob, oc, lg, (fun zz => nI (hd zz)), (fun zz => nI (s zz)), (fun zz => nI (rs zz)), (fun zz => nI (bd zz)), (fun zz => nI (d zz)), (fun zz => nI (p zz)), (fun zz => nI (n zz)), (upd rg (f * 8 + a) v), tg))
    (h2 : z = 0 → (sc = 0 → w = 0) ∧ (¬ sc = 0 → w = 1) ∧ P (nI mc, nI md, nI cl, nI lc, st, rt, nI cu, lh, rd, re, oo, oa, ob, oc, lg, (fun zz => nI (hd zz)), (fun zz => nI (s zz)), (fun zz => nI (rs zz)), (fun zz => nI (bd zz)), (fun zz => nI (d zz)), (fun zz => nI (p zz)), (fun zz => nI (n zz)), (upd (upd rg (f * 8 + a) v) (f * 8 + (a + 1) % 8) w), tg)) :
    wX_complete_64 P sc v (nI f) (nI x) z (nI mc) (nI md) (nI cl) (nI lc) st rt (nI cu) lh rd re oo oa ob oc lg (fun zz => nI (hd zz)) (fun zz => nI (s zz)) (fun zz => nI (rs zz)) (fun zz => nI (bd zz)) (fun zz => nI (d zz)) (fun zz => nI (p zz)) (fun zz => nI (n zz)) rg tg := by
  have e1 : nI f * 8 + nI a = nI (f * 8 + a) := qc_fr8 rfl rfl
  have e2 : nI f * 8 + ((nI a + 1) - (nI a + 1) / 8 * 8) = nI (f * 8 + (a + 1) % 8) := qc_fr8 rfl (qc_r8 a8)
  refine ⟨vp_in_nI hx (by decide), nm_r ((qc_rr rfl (by omega)).trans ha) ⟨qc_vi e1 (by omega) (by decide), nm_r (qc_sr e1 (by omega) rfl) (br_c (fun hz => ⟨by decide, br_c (fun hs => ?_) (fun hs => ?_)⟩) (fun hz => h1 hz))⟩⟩
  · obtain ⟨w0, w1, h⟩ := h2 hz
    rw [w0 hs] at h
    exact ⟨qc_vi e2 (by omega) (by decide), nm_r (qc_sr e2 (by omega) rfl) h⟩
  · obtain ⟨w0, w1, h⟩ := h2 hz
    rw [w1 hs] at h
    exact ⟨qc_vi e2 (by omega) (by decide), nm_r (qc_sr e2 (by omega) rfl) h⟩
theorem qc_xcp (P : St2 → Prop) (r5 : r < 5) (h1 : 1 ≤ d r) (h6 : d r ≤ 6) (hp : p (r * 6 + d r - 1) = x) (x1 : 1 ≤ x) (x64 : x ≤ 64) (v sc : Int32)
    (H : ((oo (x - 1) = 14 → wX_complete_47 P sc v (nI (r * 6 + d r - 1)) (nI (x - 1)) 1 (nI mc) (nI md) (nI cl) (nI lc) st rt (nI r) lh rd re oo oa ob oc lg (fun zz => nI (hd zz)) (fun zz => nI ((qc_u s r 1) zz)) (fun zz => nI (rs zz)) (fun zz => nI (bd zz)) (fun zz => nI (d zz)) (fun zz => nI (p zz)) (fun zz => nI (n zz)) rg tg) ∧ (¬ oo (x - 1) = 14 → wX_complete_47 P sc v (nI (r * 6 + d r - 1)) (nI (x - 1)) 0 (nI mc) (nI md) (nI cl) (nI lc) st rt (nI r) lh rd re oo oa ob oc lg (fun zz => nI (hd zz)) (fun zz => nI ((qc_u s r 1) zz)) (fun zz => nI (rs zz)) (fun zz => nI (bd zz)) (fun zz => nI (d zz)) (fun zz => nI (p zz)) (fun zz => nI (n zz)) rg tg))) :
    wpX_complete P (nI mc, nI md, nI cl, nI lc, st, rt, nI cu, lh, rd, re, oo, oa, ob, oc, lg, (fun zz => nI (hd zz)), (fun zz => nI (s zz)), (fun zz => nI (rs zz)), (fun zz => nI (bd zz)), (fun zz => nI (d zz)), (fun zz => nI (p zz)), (fun zz => nI (n zz)), rg, tg) (nI r) sc v := by
  refine ⟨vp_in_nI r5 (by decide), nm_r (qc_st (x := 1) rfl rfl (by omega)) (qc_xtf (cu := r) (s := qc_u s r 1) _ r5 h1 ⟨vp_in_nI (by omega) (by decide), nm_r (qc_de1 ((qc_rd p rfl (by omega)).trans (congrArg nI hp)) x1) ⟨vp_in_nI (by omega) (by decide), ?_⟩⟩)⟩
  rw [nI_clamp (by omega)]
  exact H
theorem qc_xc13 (P : St2 → Prop) (r5 : r < 5) (h1 : 1 ≤ d r) (h6 : d r ≤ 6) (hp : p (r * 6 + d r - 1) = x) (x1 : 1 ≤ x) (x64 : x ≤ 64) (ha : oa (x - 1) = nI a) (a8 : a < 8) (ho : oo (x - 1) = 13) (v sc w : Int32) (w0 : sc = 0 → w = 0) (w1 : ¬ sc = 0 → w = 1)
    (h : P (nI mc, nI md, nI cl, nI lc, st, rt, nI r, lh, rd, re, oo, oa, ob, oc, lg, (fun zz => nI (hd zz)), (fun zz => nI ((qc_u s r 1) zz)), (fun zz => nI (rs zz)), (fun zz => nI (bd zz)), (fun zz => nI (d zz)), (fun zz => nI (p zz)), (fun zz => nI (n zz)), (upd (upd rg ((r * 6 + d r - 1) * 8 + a) v) ((r * 6 + d r - 1) * 8 + (a + 1) % 8) w), tg)) :
    wpX_complete P (nI mc, nI md, nI cl, nI lc, st, rt, nI cu, lh, rd, re, oo, oa, ob, oc, lg, (fun zz => nI (hd zz)), (fun zz => nI (s zz)), (fun zz => nI (rs zz)), (fun zz => nI (bd zz)), (fun zz => nI (d zz)), (fun zz => nI (p zz)), (fun zz => nI (n zz)), rg, tg) (nI r) sc v :=
  qc_xcp P r5 h1 h6 hp x1 x64 v sc (br_f (by rw [ho]; decide) (br_t rfl (qc_xc64 P (by omega) (by omega) ha a8 v sc w 0 (fun z => absurd rfl z) (fun _ => ⟨w0, w1, h⟩))))
theorem qc_xc14 (P : St2 → Prop) (r5 : r < 5) (h1 : 1 ≤ d r) (h6 : d r ≤ 6) (hp : p (r * 6 + d r - 1) = x) (x1 : 1 ≤ x) (x64 : x ≤ 64) (ha : oa (x - 1) = nI a) (a8 : a < 8) (ho : oo (x - 1) = 14) (v sc : Int32) (hs : ¬ sc = 0)
    (h : P (nI mc, nI md, nI cl, nI lc, st, rt, nI r, lh, rd, re, oo, oa, ob, oc, lg, (fun zz => nI (hd zz)), (fun zz => nI ((qc_u s r 1) zz)), (fun zz => nI (rs zz)), (fun zz => nI (bd zz)), (fun zz => nI (d zz)), (fun zz => nI (p zz)), (fun zz => nI (n zz)), (upd rg ((r * 6 + d r - 1) * 8 + a) v), tg)) :
    wpX_complete P (nI mc, nI md, nI cl, nI lc, st, rt, nI cu, lh, rd, re, oo, oa, ob, oc, lg, (fun zz => nI (hd zz)), (fun zz => nI (s zz)), (fun zz => nI (rs zz)), (fun zz => nI (bd zz)), (fun zz => nI (d zz)), (fun zz => nI (p zz)), (fun zz => nI (n zz)), rg, tg) (nI r) sc v :=
  qc_xcp P r5 h1 h6 hp x1 x64 v sc (br_t ho (br_f (by decide) (br_f hs (qc_xc64 P (by omega) (by omega) ha a8 v sc 0 1 (fun _ => h) (fun z => absurd z (by decide))))))
theorem qc_xcr (P : St2 → Prop) (r5 : r < 5) (h1 : 1 ≤ d r) (h6 : d r ≤ 6) (hp : p (r * 6 + d r - 1) = x) (x1 : 1 ≤ x) (x64 : x ≤ 64) (ho : oo (x - 1) = 14) (v : Int32)
    (h : P (nI mc, nI md, nI cl, nI lc, st, rt, nI r, lh, 1, v, oo, oa, ob, oc, lg, (fun zz => nI (hd zz)), (fun zz => nI ((qc_u s r 1) zz)), (fun zz => nI (rs zz)), (fun zz => nI (bd zz)), (fun zz => nI (d zz)), (fun zz => nI (p zz)), (fun zz => nI (n zz)), rg, tg)) :
    wpX_complete P (nI mc, nI md, nI cl, nI lc, st, rt, nI cu, lh, rd, re, oo, oa, ob, oc, lg, (fun zz => nI (hd zz)), (fun zz => nI (s zz)), (fun zz => nI (rs zz)), (fun zz => nI (bd zz)), (fun zz => nI (d zz)), (fun zz => nI (p zz)), (fun zz => nI (n zz)), rg, tg) (nI r) 0 v :=
  qc_xcp P r5 h1 h6 hp x1 x64 v 0 (br_t ho (br_f (by decide) (br_t rfl h)))
end
