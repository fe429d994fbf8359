theorem i_up {k : Nat} {u : SX} {v : SY} (h : i_Rel k u v) : i_Rel (k + 5) u v := qc_R_up (by omega) h
theorem i_vc_getState {k : Nat} {u : SX} {v : SY} (I : i_Rel k u v) (hk : k + 5 ≤ 2562) : wpX_getState (fun r => wpY_getState (fun r' => r' = r ∧ i_Rel (k + 5) u v) v) u := by
  have R := i_up I
  obtain ⟨_, _, _, _, _, _, _, _, _, _, _, _, _, _, _, _, _, _, _, _, _, _, _, _, _, _, _, _, rfl, rfl, -⟩ := I
  exact ⟨rfl, R⟩
theorem i_vc_getLastHandle {k : Nat} {u : SX} {v : SY} (I : i_Rel k u v) (hk : k + 5 ≤ 2562) : wpX_getLastHandle (fun r => wpY_getLastHandle (fun r' => r' = r ∧ i_Rel (k + 5) u v) v) u := by
  have R := i_up I
  obtain ⟨_, _, _, _, _, _, _, _, _, _, _, _, _, _, _, _, _, _, _, _, _, _, _, _, _, _, _, _, rfl, rfl, -⟩ := I
  exact ⟨rfl, R⟩
theorem i_vc_getLogCount {k : Nat} {u : SX} {v : SY} (I : i_Rel k u v) (hk : k + 5 ≤ 2562) : wpX_getLogCount (fun r => wpY_getLogCount (fun r' => r' = r ∧ i_Rel (k + 5) u v) v) u := by
  have R := i_up I
  obtain ⟨_, _, _, _, _, _, _, _, _, _, _, _, _, _, _, _, _, _, _, _, _, _, _, _, _, _, _, _, rfl, rfl, -⟩ := I
  exact ⟨rfl, R⟩
theorem i_vc_getCodeLength {k : Nat} {u : SX} {v : SY} (I : i_Rel k u v) (hk : k + 5 ≤ 2562) : wpX_getCodeLength (fun r => wpY_getCodeLength (fun r' => r' = r ∧ i_Rel (k + 5) u v) v) u := by
  have R := i_up I
  obtain ⟨_, _, _, _, _, _, _, _, _, _, _, _, _, _, _, _, _, _, _, _, _, _, _, _, _, _, _, _, rfl, rfl, -⟩ := I
  exact ⟨rfl, R⟩
theorem i_vc_getResult {k : Nat} {u : SX} {v : SY} (I : i_Rel k u v) (hk : k + 5 ≤ 2562) : wpX_getResult (fun r => wpY_getResult (fun r' => r' = r ∧ i_Rel (k + 5) u v) v) u := by
  have R := i_up I
  obtain ⟨mc, md, cl, lc, cu, h, st, rt, re, oo, oa, ob, oc, lg, hn, rg, tg, d, s, lv, rs, bd, yr, p, q, n, m, L, rfl, rfl, K, S, hcu, J⟩ := I
  rcases S with S | S | S
  · obtain ⟨rfl, rfl, -⟩ := S
    exact br_f (by decide) (br_f (by decide) ⟨rfl, R⟩)
  · obtain ⟨rfl, rfl, -⟩ := S
    exact br_f (by decide) (br_f (by decide) ⟨rfl, R⟩)
  · rcases S.1 with rfl | rfl
    · exact br_t rfl ⟨rfl, R⟩
    · exact br_f (by decide) (br_t rfl ⟨rfl, R⟩)
theorem i_vc_getLog {k : Nat} {u : SX} {v : SY} (I : i_Rel k u v) (hk : k + 5 ≤ 2562) (v1 : Int32) : wpX_getLog (fun r => wpY_getLog (fun r' => r' = r ∧ i_Rel (k + 5) u v) v v1) u v1 := by
  have R := i_up I
  obtain ⟨mc, md, cl, lc, cu, h, st, rt, re, oo, oa, ob, oc, lg, hn, rg, tg, d, s, lv, rs, bd, yr, p, q, n, m, L, rfl, rfl, K, S, hcu, J⟩ := I
  have hl : lc ≤ 64 := K.2.2.2.1
  by_cases z : v1 < 0
  · exact br_t z (br_t z ⟨rfl, R⟩)
  · by_cases y : nI lc ≤ v1
    · exact br_f z (br_t y (br_f z (br_t y ⟨rfl, R⟩)))
    · obtain ⟨j, hj, rfl⟩ := nI_of z
      have hj' : j < lc := by
        by_cases w : lc ≤ j
        · exact absurd (nI_le w hj) y
        · omega
      exact br_f z (br_f y ⟨vp_in_nI (by omega) (by decide), br_f z (br_f y ⟨vp_in_nI (by omega) (by decide), rfl, R⟩)⟩)
theorem i_vc_getLiveCount {k : Nat} {u : SX} {v : SY} (I : i_Rel k u v) (hk : k + 5 ≤ 2562) : wpX_getLiveCount (fun r => wpY_getLiveCount (fun r' => r' = r ∧ i_Rel (k + 5) u v) v) u := by
  have R := i_up I
  obtain ⟨mc, md, cl, lc, cu, h, st, rt, re, oo, oa, ob, oc, lg, hn, rg, tg, d, s, lv, rs, bd, yr, p, q, n, m, L, rfl, rfl, K, S, hcu, J⟩ := I
  exact qc_xlc _ (fun t => qc_al J) (qc_ylc (s := s) _ (fun t => qc_al J) ⟨rfl, R⟩)
theorem i_vc_currentCo {k : Nat} {u : SX} {v : SY} (I : i_Rel k u v) (hk : k + 5 ≤ 2562) : wpX_currentCo (fun r => wpY_currentCo (fun r' => r' = r ∧ i_Rel (k + 5) u v) v) u := by
  have R := i_up I
  obtain ⟨mc, md, cl, lc, cu, h, st, rt, re, oo, oa, ob, oc, lg, hn, rg, tg, d, s, lv, rs, bd, yr, p, q, n, m, L, rfl, rfl, K, S, hcu, J⟩ := I
  cases L with
  | nil =>
    have hs : ¬ st = 1 := by
      rcases S with S | S | S
      · exact absurd rfl S.2.2
      · rw [S.1]; decide
      · rcases S.1 with e | e <;> rw [e] <;> decide
    exact br_f hs (br_f hs ⟨rfl, R⟩)
  | cons c l =>
    have hcc : cu = c := hcu.1 c l rfl
    subst hcc
    have hs : st = 1 := by
      rcases S with S | S | S
      · exact S.1
      · exact absurd S.2.2 (by simp)
      · exact absurd S.2 (by simp)
    have c5 : cu < 5 := J.2.2.1 cu List.mem_cons_self
    exact br_t hs ⟨vp_in_nI c5 (by decide), br_t hs (br_f (nI_pos (by omega)) (br_f (nI_nlt (a := 4) (by omega) (by decide)) ⟨vp_in_nI c5 (by decide), rfl, R⟩))⟩
theorem i_vc_coStatus {k : Nat} {u : SX} {v : SY} (I : i_Rel k u v) (hk : k + 5 ≤ 2562) (v1 : Int32) : wpX_coStatus (fun r => wpY_coStatus (fun r' => r' = r ∧ i_Rel (k + 5) u v) v v1) u v1 := by
  have R := i_up I
  obtain ⟨mc, md, cl, lc, cu, h, st, rt, re, oo, oa, ob, oc, lg, hn, rg, tg, d, s, lv, rs, bd, yr, p, q, n, m, L, rfl, rfl, K, S, hcu, J⟩ := I
  unfold wpX_coStatus
  rcases qc_thr (mc := mc) (md := md) (cl := cl) (lc := lc) (cu := cu) (st := st) (rt := rt) (lh := nI h) (rd := 0) (re := re) (cy := qc_cy L) (oo := oo) (oa := oa) (ob := ob) (oc := oc) (lg := lg) (hn := hn) (rg := rg) (tg := tg) (d := d) (rs := rs) (bd := bd) (yr := yr) (n := n) (m := m) (p := p) (q := q) (fun t => qc_al J) v1 with ⟨t, t5, hg, hA, hX, hY⟩ | ⟨hg, hX, hY⟩
  · refine hX _ (br_f (qc_nm1 t5) ⟨vp_in_nI t5 (by decide), ?_⟩)
    rw [qc_rd s rfl (by omega)]
    exact qc_yco J S _ t5 hg hA hY _ ⟨rfl, R⟩
  · exact hX _ (br_t rfl (br_f hg (hY _ (br_f (by decide) ⟨rfl, R⟩))))
theorem i_vc_getDepth {k : Nat} {u : SX} {v : SY} (I : i_Rel k u v) (hk : k + 5 ≤ 2562) (v1 : Int32) : wpX_getDepth (fun r => wpY_getDepth (fun r' => r' = r ∧ i_Rel (k + 5) u v) v v1) u v1 := by
  have R := i_up I
  obtain ⟨mc, md, cl, lc, cu, h, st, rt, re, oo, oa, ob, oc, lg, hn, rg, tg, d, s, lv, rs, bd, yr, p, q, n, m, L, rfl, rfl, K, S, hcu, J⟩ := I
  unfold wpX_getDepth
  rcases qc_thr (mc := mc) (md := md) (cl := cl) (lc := lc) (cu := cu) (st := st) (rt := rt) (lh := nI h) (rd := 0) (re := re) (cy := qc_cy L) (oo := oo) (oa := oa) (ob := ob) (oc := oc) (lg := lg) (hn := hn) (rg := rg) (tg := tg) (d := d) (rs := rs) (bd := bd) (yr := yr) (n := n) (m := m) (p := p) (q := q) (fun t => qc_al J) v1 with ⟨t, t5, hg, hA, hX, hY⟩ | ⟨hg, hX, hY⟩
  · refine hX _ (br_f (qc_nm1 t5) ⟨vp_in_nI t5 (by decide), ?_⟩)
    unfold wpY_getDepth
    exact hY _ (br_t (nI_pos' (by omega)) ⟨vp_in_nI t5 (by decide), rfl, R⟩)
  · refine hX _ (br_t rfl ?_)
    unfold wpY_getDepth
    exact hY _ (br_f (by decide) ⟨rfl, R⟩)
section
variable {mc md cl lc cu h B : Nat} {st rt lh rd re cy : Int32} {oo oa ob oc lg hn rg tg : Nat → Int32} {d s lv rs bd yr p q n m : Nat → Nat} {c r t x a b : Nat} {l L : List Nat}
theorem qc_hold (hm : md ≤ 6) (I : qc_I mc md oo oa ob d s lv rs yr p q n m L) (t5 : t < 5) : d t ≤ 6 ∧ qc_Tw n m t (d t) := by
  have o : qc_O md oa ob d s lv yr p q n m t → d t ≤ 6 ∧ qc_Tw n m t (d t) := by
    intro o
    rcases o with o | o
    · rw [o.2.2]; exact ⟨by omega, fun i hi => by omega⟩
    · exact ⟨by have := o.2.2.2.1; omega, qc_Tw_of o.2.2.2.2.1⟩
  cases L with
  | nil => exact o (I.2.2.2.2 t t5)
  | cons c l =>
    obtain ⟨i1, i2, i3, i4, i5, i6, i7⟩ := I
    by_cases z : t ∈ c :: l
    · rcases List.mem_cons.mp z with y | y
      · subst y
        exact ⟨by have := i5.2.1; omega, qc_Tw_of i5.2.2.2.2⟩
      · exact ⟨by have := (i6 t y).2.1; omega, qc_Tw_of (i6 t y).2.2.2.2.1⟩
    · exact o (i7 t t5 z)
theorem qc_isr (P : Int32 → Prop) (v : Int32) (h1 : qc_R8 v → P 1) (h0 : ¬ qc_R8 v → P 0) : wpX_isReg P v := by
  rcases pk_ix v (n := 8) (by decide) with z | z | ⟨j, hj, rfl⟩
  · exact br_t z (h0 fun ⟨a, a8, e⟩ => absurd (e ▸ z) (nI_pos (by omega)))
  · refine br_f (fun w => absurd (Int32.lt_of_le_of_lt z w) (by decide)) (br_t z (h0 fun ⟨a, a8, e⟩ => ?_))
    rw [e] at z
    exact nI_ge a8 (by decide) z
  · exact br_f (nI_pos (by omega)) (br_f (nI_ge (b := 8) hj (by decide)) (h1 ⟨j, hj, rfl⟩))
theorem qc_isa (P : Int32 → Prop) (v : Int32) (h1 : qc_A6 v → P 1) (h0 : ¬ qc_A6 v → P 0) : wpX_isAddr P v := by
  rcases pk_ix v (n := 64) (by decide) with z | z | ⟨j, hj, rfl⟩
  · exact br_t z (h0 fun ⟨a, a8, e⟩ => absurd (e ▸ z) (nI_pos (by omega)))
  · refine br_f (fun w => absurd (Int32.lt_of_le_of_lt z w) (by decide)) (br_t z (h0 fun ⟨a, a8, e⟩ => ?_))
    rw [e] at z
    exact nI_ge a8 (by decide) z
  · exact br_f (nI_pos (by omega)) (br_f (nI_ge (b := 64) hj (by decide)) (h1 ⟨j, hj, rfl⟩))
end
theorem i_vc_getReg {k : Nat} {u : SX} {v : SY} (I : i_Rel k u v) (hk : k + 5 ≤ 2562) (v1 : Int32) (v2 : Int32) : wpX_getReg (fun r => wpY_getReg (fun r' => r' = r ∧ i_Rel (k + 5) u v) v v1 v2) u v1 v2 := by
  have R := i_up I
  obtain ⟨mc, md, cl, lc, cu, h, st, rt, re, oo, oa, ob, oc, lg, hn, rg, tg, d, s, lv, rs, bd, yr, p, q, n, m, L, rfl, rfl, K, S, hcu, J⟩ := I
  unfold wpX_getReg
  rcases qc_thr (mc := mc) (md := md) (cl := cl) (lc := lc) (cu := cu) (st := st) (rt := rt) (lh := nI h) (rd := 0) (re := re) (cy := qc_cy L) (oo := oo) (oa := oa) (ob := ob) (oc := oc) (lg := lg) (hn := hn) (rg := rg) (tg := tg) (d := d) (rs := rs) (bd := bd) (yr := yr) (n := n) (m := m) (p := p) (q := q) (fun t => qc_al J) v1 with ⟨t, t5, hg, hA, hX, hY⟩ | ⟨hg, hX, hY⟩
  · obtain ⟨d6, -⟩ := qc_hold K.2.1.2 J t5
    have ed : (fun zz => nI (d zz)) (nI t).toNatClampNeg = nI (d t) := qc_rd d rfl (by omega)
    refine hX _ (br_f (qc_nm1 t5) ⟨vp_in_nI t5 (by decide), ?_⟩)
    by_cases dt : d t = 0
    · refine br_t (by rw [ed, dt]; rfl) ?_
      unfold wpY_getReg
      refine hY _ (br_f (nI_pos (by omega)) (br_c (fun _ => ⟨rfl, R⟩) (fun _ => br_c (fun _ => ⟨rfl, R⟩) (fun _ => ⟨vp_in_nI t5 (by decide), br_f ?_ ⟨rfl, R⟩⟩))))
      rw [ed, dt]; decide
    · refine br_f (by rw [ed]; exact fun z => dt ((nI_eq (b := 0) (by omega) (by omega)).mp z)) (qc_isr _ _ (fun ⟨j, j8, e⟩ => br_f (by decide) ?_) (fun w => br_t rfl ?_))
      · subst e
        refine qc_xtf _ t5 (by omega) ?_
        have eI : nI (t * 6 + d t - 1) * 8 + nI j = nI ((t * 6 + d t - 1) * 8 + j) := qc_fr8 rfl rfl
        have eY : (nI t * 6 + (fun zz => nI (d zz)) (nI t).toNatClampNeg - 1) * 8 + nI j = nI ((t * 6 + d t - 1) * 8 + j) := by
          rw [ed, qc_tf (by omega)]
          exact qc_fr8 rfl rfl
        refine ⟨qc_vi eI (by omega) (by decide), ?_⟩
        unfold wpY_getReg
        refine hY _ (br_f (nI_pos (by omega)) (br_f (nI_pos (by omega)) (br_f (nI_nlt (a := 7) (by omega) (by decide)) ⟨vp_in_nI t5 (by decide), br_t (by rw [ed]; exact nI_le (a := 1) (by omega) (by omega)) ⟨vp_in_nI t5 (by decide), qc_vi eY (by omega) (by decide), ?_, R⟩⟩)))
        rw [eY, eI]
      · unfold wpY_getReg
        refine hY _ (br_f (nI_pos (by omega)) (br_c (fun _ => ⟨rfl, R⟩) (fun z0 => br_c (fun _ => ⟨rfl, R⟩) (fun z7 => ?_))))
        obtain ⟨j, hj, rfl⟩ := nI_of z0
        have j8 : ¬ j < 8 := fun q => w ⟨j, q, rfl⟩
        exact absurd (nI_lt (a := 7) (by omega) hj) z7
  · refine hX _ (br_t rfl ?_)
    unfold wpY_getReg
    exact hY _ (br_t (by decide) ⟨rfl, R⟩)
def qc_ts (tg : Nat → Int32) (b : Nat) : Nat → Nat → Int32 → Int32
  | 0, _, acc => acc
  | k + 1, i, acc => qc_ts tg b k (i + 1) (acc + tg (b + i))
def qc_ps (tg : Nat → Int32) (n : Nat → Nat) (t : Nat) : Nat → Nat → Int32 → Int32
  | 0, _, acc => acc
  | k + 1, l, acc => qc_ps tg n t k (l + 1) (qc_ts tg ((t * 6 + l) * 4) (n (t * 6 + l)) 0 acc)
theorem qc_ps_c {tg : Nat → Int32} {n m : Nat → Nat} {t D : Nat} (h : ∀ l, l < D → m (t * 6 + l) = n (t * 6 + l)) : ∀ k l acc, l + k = D → qc_ps tg m t k l acc = qc_ps tg n t k l acc := by
  intro k
  induction k with
  | zero => intro l acc _; rfl
  | succ k ih =>
    intro l acc hl
    show qc_ps tg m t k (l + 1) (qc_ts tg ((t * 6 + l) * 4) (m (t * 6 + l)) 0 acc) = qc_ps tg n t k (l + 1) (qc_ts tg ((t * 6 + l) * 4) (n (t * 6 + l)) 0 acc)
    rw [h l (by omega), ih (l + 1) _ (by omega)]
section
variable {mc md cl lc cu h B : Nat} {st rt lh rd re cy : Int32} {oo oa ob oc lg hn rg tg : Nat → Int32} {d s lv rs bd yr p q n m : Nat → Nat} {c r t x a b : Nat} {l L : List Nat}
theorem qc_xpi (P : Int32 → Prop) (J : Int32 → Int32 → Prop) {x2 : Int32} {f lev : Nat} (hf : f < 30) (h4 : n f ≤ 4) : ∀ (k i : Nat) (acc : Int32), i + k = n f → J (qc_ts tg (f * 4) k i acc) (nI (lev + 1)) →
    wX_getPendingCleanups_41 P J x2 (nI lev) (nI f) (nI mc) (nI md) (nI cl) (nI lc) st rt (nI cu) lh rd re oo oa ob oc lg hn (fun zz => nI (s zz)) (fun zz => nI (rs zz)) (fun zz => nI (bd zz)) (fun zz => nI (d zz)) (fun zz => nI (p zz)) (fun zz => nI (n zz)) rg tg (k + 1) acc (nI i) := by
  intro k
  induction k with
  | zero =>
    intro i acc hi H
    refine ⟨vp_in_nI (by omega) (by decide), br_t ?_ (nm_r (nI_1 lev) H)⟩
    rw [qc_rd n rfl (by omega)]
    exact nI_le (by omega) (by omega)
  | succ k ih =>
    intro i acc hi H
    have e : nI f * 4 + nI i = nI (f * 4 + i) := qc_fr4 rfl rfl
    refine ⟨vp_in_nI (by omega) (by decide), br_f ?_ ⟨qc_vi e (by omega) (by decide), nm_r (e' := acc + tg (f * 4 + i)) ?_ (nm_r (nI_1 i) (ih (i + 1) _ (by omega) H))⟩⟩
    · rw [qc_rd n rfl (by omega)]
      exact nI_ge (by omega) (by omega)
    · rw [qc_rr (f := tg) e (by omega)]
theorem qc_xpo (P : Int32 → Prop) (t5 : t < 5) (d6 : d t ≤ 6) (h4 : ∀ l, l < d t → n (t * 6 + l) ≤ 4) : ∀ (k i : Nat) (acc : Int32), i + k = d t → P (qc_ps tg n t k i acc) →
    wX_getPendingCleanups_18 P (nI t) (nI mc) (nI md) (nI cl) (nI lc) st rt (nI cu) lh rd re oo oa ob oc lg hn (fun zz => nI (s zz)) (fun zz => nI (rs zz)) (fun zz => nI (bd zz)) (fun zz => nI (d zz)) (fun zz => nI (p zz)) (fun zz => nI (n zz)) rg tg (k + 1) acc (nI i) := by
  intro k
  induction k with
  | zero =>
    intro i acc hi H
    refine ⟨vp_in_nI (by omega) (by decide), br_t ?_ H⟩
    rw [qc_rd d rfl (by omega)]
    exact nI_le (by omega) (by omega)
  | succ k ih =>
    intro i acc hi H
    refine ⟨vp_in_nI (by omega) (by decide), br_f ?_ (nm_r (show nI t * 6 + nI i = nI (t * 6 + i) by rw [qc_m6, nI_add]) ⟨n (t * 6 + i) + 1, qc_xpi P _ (by omega) (h4 i (by omega)) _ 0 _ (by omega) (ih (i + 1) _ (by omega) H)⟩)⟩
    rw [qc_rd d rfl (by omega)]
    exact nI_ge (by omega) (by omega)
theorem qc_ypi (P : Int32 → Prop) (J : Int32 → Int32 → Prop) {x2 : Int32} {f lev : Nat} (hf : f < 30) (h4 : m f ≤ 4) : ∀ (k i : Nat) (acc : Int32), i + k = 4 → J (qc_ts tg (f * 4) (m f - i) i acc) (nI (lev + 1)) →
    wY_getPendingCleanups_50 P J x2 (nI lev) (nI f) (nI mc) (nI md) st rt cy lh (nI cl) (nI lc) oo oa ob oc lg hn (fun zz => nI (d zz)) (fun zz => nI (rs zz)) (fun zz => nI (bd zz)) (fun zz => nI (yr zz)) (fun zz => nI (lv zz)) rg (fun zz => nI (q zz)) (fun zz => nI (m zz)) tg (k + 1) acc (nI i) := by
  intro k
  induction k with
  | zero =>
    intro i acc hi H
    have e : m f - i = 0 := by omega
    rw [e] at H
    exact br_t (nI_le (a := 4) (by omega) (by omega)) (nm_r (nI_1 lev) H)
  | succ k ih =>
    intro i acc hi H
    have e : nI f * 4 + nI i = nI (f * 4 + i) := qc_fr4 rfl rfl
    have em : (fun zz => nI (m zz)) (nI f).toNatClampNeg = nI (m f) := qc_rd m rfl (by omega)
    refine br_f (nI_ge (b := 4) (by omega) (by decide)) ⟨vp_in_nI (by omega) (by decide), ?_⟩
    by_cases z : m f ≤ i
    · refine br_t (by rw [em]; exact nI_le z (by omega)) (nm_r (nI_1 i) (ih (i + 1) _ (by omega) ?_))
      have e1 : m f - i = 0 := by omega
      have e2 : m f - (i + 1) = 0 := by omega
      rw [e1] at H
      rw [e2]
      exact H
    · refine br_f (by rw [em]; exact nI_ge (by omega) (by omega)) ⟨qc_vi e (by omega) (by decide), nm_r (e' := acc + tg (f * 4 + i)) ?_ (nm_r (nI_1 i) (ih (i + 1) _ (by omega) ?_))⟩
      · rw [qc_rr (f := tg) e (by omega)]
      · have e1 : m f - i = (m f - (i + 1)) + 1 := by omega
        rw [e1] at H
        exact H
theorem qc_ypo (P : Int32 → Prop) (t5 : t < 5) (d6 : d t ≤ 6) (h4 : ∀ l, l < d t → m (t * 6 + l) ≤ 4) : ∀ (k i : Nat) (acc : Int32), i + k = d t → P (qc_ps tg m t k i acc) →
    wY_getPendingCleanups_17 P (nI t) (nI mc) (nI md) st rt cy lh (nI cl) (nI lc) oo oa ob oc lg hn (fun zz => nI (d zz)) (fun zz => nI (rs zz)) (fun zz => nI (bd zz)) (fun zz => nI (yr zz)) (fun zz => nI (lv zz)) rg (fun zz => nI (q zz)) (fun zz => nI (m zz)) tg (k + 1) acc (nI i) := by
  intro k
  induction k with
  | zero =>
    intro i acc hi H
    by_cases z : i = 6
    · exact br_t (nI_le (a := 6) (by omega) (by omega)) H
    · refine br_f (nI_ge (b := 6) (by omega) (by decide)) ⟨vp_in_nI (by omega) (by decide), br_f ?_ H⟩
      rw [qc_rd d rfl (by omega)]
      exact nI_nlt (by omega) (by omega)
  | succ k ih =>
    intro i acc hi H
    refine br_f (nI_ge (b := 6) (by omega) (by decide)) ⟨vp_in_nI (by omega) (by decide), br_t ?_ (nm_r (show nI t * 6 + nI i = nI (t * 6 + i) by rw [qc_m6, nI_add]) ⟨5, qc_ypi P _ (by omega) (h4 i (by omega)) 4 0 _ (by omega) (ih (i + 1) _ (by omega) H)⟩)⟩
    rw [qc_rd d rfl (by omega)]
    exact nI_lt (by omega) (by omega)
end
theorem i_vc_getPendingCleanups {k : Nat} {u : SX} {v : SY} (I : i_Rel k u v) (hk : k + 5 ≤ 2562) (v1 : Int32) : wpX_getPendingCleanups (fun r => wpY_getPendingCleanups (fun r' => r' = r ∧ i_Rel (k + 5) u v) v v1) u v1 := by
  have R := i_up I
  obtain ⟨mc, md, cl, lc, cu, h, st, rt, re, oo, oa, ob, oc, lg, hn, rg, tg, d, s, lv, rs, bd, yr, p, q, n, m, L, rfl, rfl, K, S, hcu, J⟩ := I
  unfold wpX_getPendingCleanups
  rcases qc_thr (mc := mc) (md := md) (cl := cl) (lc := lc) (cu := cu) (st := st) (rt := rt) (lh := nI h) (rd := 0) (re := re) (cy := qc_cy L) (oo := oo) (oa := oa) (ob := ob) (oc := oc) (lg := lg) (hn := hn) (rg := rg) (tg := tg) (d := d) (rs := rs) (bd := bd) (yr := yr) (n := n) (m := m) (p := p) (q := q) (fun t => qc_al J) v1 with ⟨t, t5, hg, hA, hX, hY⟩ | ⟨hg, hX, hY⟩
  · obtain ⟨d6, tw⟩ := qc_hold K.2.1.2 J t5
    refine hX _ (br_f (qc_nm1 t5) ⟨d t + 1, qc_xpo _ t5 d6 (fun l hl => (tw l hl).2) (d t) 0 _ (by omega) ?_⟩)
    unfold wpY_getPendingCleanups
    refine hY _ (br_t (nI_pos' (by omega)) ⟨d t + 1, qc_ypo _ t5 d6 (fun l hl => by have := tw l hl; omega) (d t) 0 _ (by omega) ⟨?_, R⟩⟩)
    exact qc_ps_c (fun l hl => (tw l hl).1) _ _ _ (by omega)
  · refine hX _ (br_t rfl ?_)
    unfold wpY_getPendingCleanups
    exact hY _ (br_f (by decide) ⟨rfl, R⟩)
