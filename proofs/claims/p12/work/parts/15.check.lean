theorem ts_bit {w : Int64} {s : UInt64} {j : Nat} (hj : j < 64) (hs : s.toNat = j) : ((w.toUInt64 >>> s).toInt64 &&& 1) = 0 ↔ w.toBitVec.getLsbD j = false := by
  have e : (w.toUInt64 >>> s).toInt64.toBitVec = w.toBitVec >>> j := by
    apply BitVec.eq_of_toNat_eq
    show (w.toUInt64 >>> s).toNat = _
    rw [UInt64.toNat_shiftRight, hs, Nat.mod_eq_of_lt hj, BitVec.toNat_ushiftRight]
    rfl
  rw [← Int64.toBitVec_inj, Int64.toBitVec_and, e]
  show w.toBitVec >>> j &&& 1#64 = 0#64 ↔ _
  constructor
  · intro h
    have t := congrArg (fun x => x.getLsbD 0) h
    simpa using t
  · intro h
    apply BitVec.eq_of_getLsbD_eq
    intro i hi
    cases i with
    | zero => simp [h]
    | succ i => simp
theorem wb_cu : ∀ k, k < 64 → ((nI k).toInt64.toUInt64 &&& Int64.toUInt64 63) = UInt64.ofNat k := by decide +kernel
theorem u_tn {n : Nat} (h : n < 2 ^ 64) : (UInt64.ofNat n).toNat = n := Nat.mod_eq_of_lt h
theorem qz_bit (w : Int64) {k : Nat} (hk : k < 64) : ((w.toUInt64 >>> ((nI k).toInt64.toUInt64 &&& Int64.toUInt64 63)).toInt64 &&& 1) = 0 ↔ w.toBitVec.getLsbD k = false := by
  rw [wb_cu k hk]
  exact ts_bit hk (u_tn (by omega))
theorem qz_sh : ∀ k, k < 64 → ((1 : Int64) <<< ((nI k).toInt64 &&& 63)).toBitVec = BitVec.twoPow 64 k := by decide +kernel
theorem qz_or (w : Int64) {k : Nat} (hk : k < 64) (j : Nat) : (w ||| ((1 : Int64) <<< ((nI k).toInt64 &&& 63))).toBitVec.getLsbD j = true → w.toBitVec.getLsbD j = true ∨ j = k := by
  rw [Int64.toBitVec_or, qz_sh k hk, BitVec.getLsbD_or, BitVec.getLsbD_twoPow]
  intro h
  simp at h
  rcases h with h | h
  · exact .inl (by simpa using h)
  · exact .inr (by omega)
theorem qz_b0 (w : Int64) : (w &&& 1) = 0 ↔ w.toBitVec.getLsbD 0 = false := by
  rw [← Int64.toBitVec_inj, Int64.toBitVec_and]
  show w.toBitVec &&& 1#64 = 0#64 ↔ _
  constructor
  · intro h
    have t := congrArg (fun x => x.getLsbD 0) h
    simpa using t
  · intro h
    apply BitVec.eq_of_getLsbD_eq
    intro i hi
    cases i with
    | zero =>
      rw [BitVec.getLsbD_eq_getElem (by decide)] at h
      simp [h]
    | succ i => simp
def qz_g (lv hd : Nat → Nat) (h : Nat) (w : Int64) : Prop :=
  w.toBitVec.getLsbD 0 = false ∧ ∀ j, 1 ≤ j → j ≤ 62 → w.toBitVec.getLsbD j = true → j ≤ h ∧ ∀ t, t ≠ 0 → t < 5 → lv t = 1 → hd t ≠ j
theorem qz_g_or {lv hd : Nat → Nat} {h : Nat} {w : Int64} {k : Nat} (g : qz_g lv hd h w) (k1 : 1 ≤ k) (k2 : k ≤ 62) (kh : k ≤ h) (no : ∀ t, t ≠ 0 → t < 5 → lv t = 1 → hd t ≠ k) : qz_g lv hd h (w ||| ((1 : Int64) <<< ((nI k).toInt64 &&& 63))) := by
  refine ⟨?_, fun j j1 j2 hj => ?_⟩
  · by_cases z : (w ||| ((1 : Int64) <<< ((nI k).toInt64 &&& 63))).toBitVec.getLsbD 0 = true
    · rcases qz_or w (by omega) 0 z with y | y
      · rw [g.1] at y; exact absurd y (by decide)
      · omega
    · exact Bool.eq_false_iff.mpr z
  · rcases qz_or w (by omega) j hj with y | y
    · exact g.2 j j1 j2 y
    · rw [y]; exact ⟨kh, no⟩
def qz_a (lv hd : Nat → Nat) (k t : Nat) : Nat := if lv t = 1 ∧ hd t ≤ k then 1 else 0
def qz_F (lv hd : Nat → Nat) (k : Nat) : Nat := qz_a lv hd k 1 + qz_a lv hd k 2 + qz_a lv hd k 3 + qz_a lv hd k 4
theorem qz_F0 {lv hd : Nat → Nat} (hz : ∀ t, t ≠ 0 → t < 5 → lv t = 1 → 1 ≤ hd t) : qz_F lv hd 0 = 0 := by
  have a : ∀ t, t ≠ 0 → t < 5 → qz_a lv hd 0 t = 0 := by
    intro t t0 t5
    exact if_neg (fun w => by have := hz t t0 t5 w.1; omega)
  unfold qz_F
  rw [a 1 (by omega) (by omega), a 2 (by omega) (by omega), a 3 (by omega) (by omega), a 4 (by omega) (by omega)]
theorem qz_a_s {lv hd : Nat → Nat} {k t : Nat} (h : lv t = 1 → hd t ≠ k + 1) : qz_a lv hd (k + 1) t = qz_a lv hd k t := by
  unfold qz_a
  by_cases z : lv t = 1 ∧ hd t ≤ k
  · rw [if_pos z, if_pos ⟨z.1, by omega⟩]
  · rw [if_neg z, if_neg (fun w => z ⟨w.1, by have := h w.1; omega⟩)]
theorem qz_a_t {lv hd : Nat → Nat} {k t : Nat} (h : lv t = 1) (e : hd t = k + 1) : qz_a lv hd (k + 1) t = qz_a lv hd k t + 1 := by
  unfold qz_a
  rw [if_pos ⟨h, by omega⟩, if_neg (by omega)]
theorem qz_Fn {lv hd : Nat → Nat} {k : Nat} (no : ∀ t, t ≠ 0 → t < 5 → lv t = 1 → hd t ≠ k + 1) : qz_F lv hd (k + 1) = qz_F lv hd k := by
  unfold qz_F
  rw [qz_a_s (no 1 (by omega) (by omega)), qz_a_s (no 2 (by omega) (by omega)), qz_a_s (no 3 (by omega) (by omega)), qz_a_s (no 4 (by omega) (by omega))]
theorem qz_Ft {lv hd : Nat → Nat} {k t : Nat} (t0 : t ≠ 0) (t5 : t < 5) (h : lv t = 1) (e : hd t = k + 1) (inj : ∀ t t', t ≠ 0 → t < 5 → t' ≠ 0 → t' < 5 → lv t = 1 → lv t' = 1 → hd t = hd t' → t = t') : qz_F lv hd (k + 1) = qz_F lv hd k + 1 := by
  have no : ∀ t', t' ≠ 0 → t' < 5 → t' ≠ t → lv t' = 1 → hd t' ≠ k + 1 := fun t' s0 s5 ne w z => ne (inj t' t s0 s5 t0 t5 w h (by omega))
  have c : t = 1 ∨ t = 2 ∨ t = 3 ∨ t = 4 := by omega
  unfold qz_F
  rcases c with rfl | rfl | rfl | rfl
  · rw [qz_a_t h e, qz_a_s (no 2 (by omega) (by omega) (by omega)), qz_a_s (no 3 (by omega) (by omega) (by omega)), qz_a_s (no 4 (by omega) (by omega) (by omega))]; omega
  · rw [qz_a_t h e, qz_a_s (no 1 (by omega) (by omega) (by omega)), qz_a_s (no 3 (by omega) (by omega) (by omega)), qz_a_s (no 4 (by omega) (by omega) (by omega))]; omega
  · rw [qz_a_t h e, qz_a_s (no 1 (by omega) (by omega) (by omega)), qz_a_s (no 2 (by omega) (by omega) (by omega)), qz_a_s (no 4 (by omega) (by omega) (by omega))]; omega
  · rw [qz_a_t h e, qz_a_s (no 1 (by omega) (by omega) (by omega)), qz_a_s (no 2 (by omega) (by omega) (by omega)), qz_a_s (no 3 (by omega) (by omega) (by omega))]; omega
theorem qz_Fe {lv hd : Nat → Nat} {h : Nat} (hl : ∀ t, t ≠ 0 → t < 5 → lv t ≤ 1) (hz : ∀ t, t ≠ 0 → t < 5 → lv t = 1 → hd t ≤ h) : qz_F lv hd h = qc_sm lv 4 1 := by
  have a : ∀ t, t ≠ 0 → t < 5 → qz_a lv hd h t = lv t := by
    intro t t0 t5
    unfold qz_a
    by_cases z : lv t = 1
    · rw [if_pos ⟨z, hz t t0 t5 z⟩, z]
    · rw [if_neg (fun w => z w.1)]; have := hl t t0 t5; omega
  show qz_a lv hd h 1 + qz_a lv hd h 2 + qz_a lv hd h 3 + qz_a lv hd h 4 = lv 1 + (lv 2 + (lv 3 + (lv 4 + 0)))
  rw [a 1 (by omega) (by omega), a 2 (by omega) (by omega), a 3 (by omega) (by omega), a 4 (by omega) (by omega)]
  omega
theorem qz_le {lv : Nat → Nat} {mc : Nat} (h1 : 1 ≤ mc) (h4 : mc ≤ 4) (hl : ∀ t, t ≠ 0 → t < 5 → lv t ≤ 1) (hz : ∀ t, mc < t → t < 5 → lv t = 0) : qc_sm lv 4 1 ≤ mc := by
  have a1 := hl 1 (by omega) (by omega)
  have a2 := hl 2 (by omega) (by omega)
  have a3 := hl 3 (by omega) (by omega)
  have a4 := hl 4 (by omega) (by omega)
  have z2 := hz 2
  have z3 := hz 3
  have z4 := hz 4
  show lv 1 + (lv 2 + (lv 3 + (lv 4 + 0))) ≤ mc
  omega
section
variable {mc md cl lc cu h B mp mL : Nat} {st rt lh rd re : Int32} {D : Nat → Prop} {oo oa ob oc lg rg tg : Nat → Int32} {hd d s lv rs bd yr p q n m : Nat → Nat} {c r t x a b : Nat} {l L : List Nat}
theorem qz_cs (al : ∀ t, t ≠ 0 → t < 5 → (s t = 3 ∧ lv t = 0) ∨ (s t < 3 ∧ lv t = 1)) (hz : ∀ t, t ≠ 0 → t < 5 → lv t = 1 → 1 ≤ hd t ∧ hd t ≤ h) (h3 : h ≤ 320) {j : Nat} (j1 : 1 ≤ j) (j3 : j ≤ 320) :
    (∃ t, t ≠ 0 ∧ t < 5 ∧ lv t = 1 ∧ hd t = j ∧ s t < 3 ∧ (∀ P : Int32 → Prop, P (nI (s t)) → wpX_coStatus P (nI mc, nI md, nI cl, nI lc, st, rt, nI cu, lh, rd, re, oo, oa, ob, oc, lg, (fun zz => nI (hd zz)), (fun zz => nI (s zz)), (fun zz => nI (rs zz)), (fun zz => nI (bd zz)), (fun zz => nI (d zz)), (fun zz => nI (p zz)), (fun zz => nI (n zz)), rg, tg) (nI j))) ∨
    ((∀ t, t ≠ 0 → t < 5 → lv t = 1 → hd t ≠ j) ∧ (∀ P : Int32 → Prop, P 3 → wpX_coStatus P (nI mc, nI md, nI cl, nI lc, st, rt, nI cu, lh, rd, re, oo, oa, ob, oc, lg, (fun zz => nI (hd zz)), (fun zz => nI (s zz)), (fun zz => nI (rs zz)), (fun zz => nI (bd zz)), (fun zz => nI (d zz)), (fun zz => nI (p zz)), (fun zz => nI (n zz)), rg, tg) (nI j)) ∧ (∀ P : Int32 → Prop, P 0 → wpX_getDepth P (nI mc, nI md, nI cl, nI lc, st, rt, nI cu, lh, rd, re, oo, oa, ob, oc, lg, (fun zz => nI (hd zz)), (fun zz => nI (s zz)), (fun zz => nI (rs zz)), (fun zz => nI (bd zz)), (fun zz => nI (d zz)), (fun zz => nI (p zz)), (fun zz => nI (n zz)), rg, tg) (nI j)) ∧ (∀ P : Int32 → Prop, P 0 → wpX_getPendingCleanups P (nI mc, nI md, nI cl, nI lc, st, rt, nI cu, lh, rd, re, oo, oa, ob, oc, lg, (fun zz => nI (hd zz)), (fun zz => nI (s zz)), (fun zz => nI (rs zz)), (fun zz => nI (bd zz)), (fun zz => nI (d zz)), (fun zz => nI (p zz)), (fun zz => nI (n zz)), rg, tg) (nI j)) ∧ (∀ (P : Int32 → Prop) (r : Int32), P 0 → wpX_getReg P (nI mc, nI md, nI cl, nI lc, st, rt, nI cu, lh, rd, re, oo, oa, ob, oc, lg, (fun zz => nI (hd zz)), (fun zz => nI (s zz)), (fun zz => nI (rs zz)), (fun zz => nI (bd zz)), (fun zz => nI (d zz)), (fun zz => nI (p zz)), (fun zz => nI (n zz)), rg, tg) (nI j) r)) := by
  rcases qz_thE (mc := mc) (md := md) (cl := cl) (lc := lc) (cu := cu) (st := st) (rt := rt) (lh := lh) (rd := rd) (re := re) (oo := oo) (oa := oa) (ob := ob) (oc := oc) (lg := lg) (rg := rg) (tg := tg) (hd := hd) (d := d) (rs := rs) (bd := bd) (p := p) (n := n) al (nI j) with ⟨t, t5, hg, hA, hE, hX⟩ | ⟨hg, hno, hX⟩
  · have t0 : t ≠ 0 := fun z => by have := hg.mp z; exact nI_ne0 (by omega) (by omega) this
    obtain ⟨a1, a2⟩ := hA t0
    have b := hz t t0 t5 a1
    refine .inl ⟨t, t0, t5, a1, (nI_eq (by omega) (by omega)).mp (hE t0), a2, fun P hP => ?_⟩
    unfold wpX_coStatus
    refine hX _ (br_f (qc_nm1 t5) ⟨vp_in_nI t5 (by decide), ?_⟩)
    rw [qc_rd s rfl (by omega)]
    exact hP
  · refine .inr ⟨fun t t0 t5 w e => hno t t0 t5 w (by rw [e]), fun P hP => ?_, fun P hP => ?_, fun P hP => ?_, fun P r hP => ?_⟩
    · unfold wpX_coStatus; exact hX _ (br_t rfl hP)
    · unfold wpX_getDepth; exact hX _ (br_t rfl hP)
    · unfold wpX_getPendingCleanups; exact hX _ (br_t rfl hP)
    · unfold wpX_getReg; exact hX _ (br_t rfl hP)
theorem qz_ct (P : Int64 → Prop) (w : Int64) (al : ∀ t, t ≠ 0 → t < 5 → (s t = 3 ∧ lv t = 0) ∨ (s t < 3 ∧ lv t = 1)) (hz : ∀ t, t ≠ 0 → t < 5 → lv t = 1 → 1 ≤ hd t ∧ hd t ≤ h) (h3 : h ≤ 320)
    (inj : ∀ t t', t ≠ 0 → t < 5 → t' ≠ 0 → t' < 5 → lv t = 1 → lv t' = 1 → hd t = hd t' → t = t') (m1 : 1 ≤ mc) (m4 : mc ≤ 4) (hm : ∀ t, mc < t → t < 5 → lv t = 0) (hP : P w) :
    ∀ k j, j + k = h → wL_check_141 P w (nI mc) (nI h) (nI mc) (nI md) (nI cl) (nI lc) st rt (nI cu) lh rd re oo oa ob oc lg (fun zz => nI (hd zz)) (fun zz => nI (s zz)) (fun zz => nI (rs zz)) (fun zz => nI (bd zz)) (fun zz => nI (d zz)) (fun zz => nI (p zz)) (fun zz => nI (n zz)) rg tg (k + 1) (nI (qz_F lv hd j)) (nI (j + 1)) := by
  have hl : ∀ t, t ≠ 0 → t < 5 → lv t ≤ 1 := fun t t0 t5 => by have := al t t0 t5; omega
  have F4 : ∀ k, qz_F lv hd k ≤ 4 := by
    intro k
    have a : ∀ t, qz_a lv hd k t ≤ 1 := by
      intro t
      unfold qz_a
      split <;> omega
    have a1 := a 1
    have a2 := a 2
    have a3 := a 3
    have a4 := a 4
    show qz_a lv hd k 1 + qz_a lv hd k 2 + qz_a lv hd k 3 + qz_a lv hd k 4 ≤ 4
    omega
  intro k
  induction k with
  | zero =>
    intro j hj
    have e : j = h := by omega
    subst e
    have fin : wL_check_175 P w (nI mc) (nI (qz_F lv hd j)) (nI mc) (nI md) (nI cl) (nI lc) st rt (nI cu) lh rd re oo oa ob oc lg (fun zz => nI (hd zz)) (fun zz => nI (s zz)) (fun zz => nI (rs zz)) (fun zz => nI (bd zz)) (fun zz => nI (d zz)) (fun zz => nI (p zz)) (fun zz => nI (n zz)) rg tg := by
      unfold wL_check_175
      refine qc_xlc _ al ?_
      rw [qz_Fe hl (fun t t0 t5 w => (hz t t0 t5 w).2)]
      exact br_t rfl (br_t (nI_le (qz_le m1 m4 hl hm) (by omega)) hP)
    by_cases z : 320 < j + 1
    · exact br_t (nI_lt (a := 320) z (by omega)) fin
    · exact br_f (nI_nlt (a := 320) (by omega) (by decide)) (br_t (nI_lt (by omega) (by omega)) fin)
  | succ k ih =>
    intro j hj
    refine br_f (nI_nlt (a := 320) (by omega) (by decide)) (br_f (nI_nlt (by omega) (by omega)) ?_)
    rcases qz_cs (mc := mc) (md := md) (cl := cl) (lc := lc) (cu := cu) (st := st) (rt := rt) (lh := lh) (rd := rd) (re := re) (oo := oo) (oa := oa) (ob := ob) (oc := oc) (lg := lg) (rg := rg) (tg := tg) (d := d) (rs := rs) (bd := bd) (p := p) (n := n) al hz h3 (j := j + 1) (by omega) (by omega) with ⟨t, t0, t5, a1, a2, a3, hX⟩ | ⟨no, hX, -⟩
    · have := F4 j
      refine hX _ (br_f (fun z => by have := (nI_eq (b := 3) (by omega) (by decide)).mp z; omega) (nm_r (nI_1 _) (nm_r (nI_1 _) ?_)))
      rw [← qz_Ft t0 t5 a1 a2 inj]
      exact ih (j + 1) (by omega)
    · refine hX _ (br_t rfl (nm_r (nI_1 _) ?_))
      rw [← qz_Fn no]
      exact ih (j + 1) (by omega)
theorem qz_rl (P : Int64 → Prop) (J : Int64 → Int32 → Prop) {x3 x4 : Int32} (w : Int64) {j : Nat} (hX : ∀ (P : Int32 → Prop) (r : Int32), P 0 → wpX_getReg P (nI mc, nI md, nI cl, nI lc, st, rt, nI cu, lh, rd, re, oo, oa, ob, oc, lg, (fun zz => nI (hd zz)), (fun zz => nI (s zz)), (fun zz => nI (rs zz)), (fun zz => nI (bd zz)), (fun zz => nI (d zz)), (fun zz => nI (p zz)), (fun zz => nI (n zz)), rg, tg) (nI j) r) (hJ : J w (nI (j + 1))) :
    ∀ k r, r + k = 8 → wL_check_101 P J w x3 x4 (nI j) (nI mc) (nI md) (nI cl) (nI lc) st rt (nI cu) lh rd re oo oa ob oc lg (fun zz => nI (hd zz)) (fun zz => nI (s zz)) (fun zz => nI (rs zz)) (fun zz => nI (bd zz)) (fun zz => nI (d zz)) (fun zz => nI (p zz)) (fun zz => nI (n zz)) rg tg (k + 1) (nI r) := by
  intro k
  induction k with
  | zero =>
    intro r hr
    exact br_t (nI_le (a := 8) (by omega) (by omega)) (nm_r (nI_1 _) hJ)
  | succ k ih =>
    intro r hr
    exact br_f (nI_ge (b := 8) (by omega) (by decide)) (hX _ _ (br_t rfl (nm_r (nI_1 _) (ih (r + 1) (by omega)))))
theorem qz_ck (P : Int64 → Prop) (al : ∀ t, t ≠ 0 → t < 5 → (s t = 3 ∧ lv t = 0) ∨ (s t < 3 ∧ lv t = 1)) (hz : ∀ t, t ≠ 0 → t < 5 → lv t = 1 → 1 ≤ hd t ∧ hd t ≤ h) (h3 : h ≤ 320)
    (inj : ∀ t t', t ≠ 0 → t < 5 → t' ≠ 0 → t' < 5 → lv t = 1 → lv t' = 1 → hd t = hd t' → t = t') (m1 : 1 ≤ mc) (m4 : mc ≤ 4) (hm : ∀ t, mc < t → t < 5 → lv t = 0) (H : ∀ w, qz_g lv hd h w → P w) :
    ∀ k j w, j + k = 63 → 1 ≤ j → qz_g lv hd h w → wL_check_9 P (nI mc) (nI h) (nI mc) (nI md) (nI cl) (nI lc) st rt (nI cu) lh rd re oo oa ob oc lg (fun zz => nI (hd zz)) (fun zz => nI (s zz)) (fun zz => nI (rs zz)) (fun zz => nI (bd zz)) (fun zz => nI (d zz)) (fun zz => nI (p zz)) (fun zz => nI (n zz)) rg tg (k + 1) w (nI j) := by
  intro k
  induction k with
  | zero =>
    intro j w hj j1 g
    have ct := qz_ct (mc := mc) (md := md) (cl := cl) (lc := lc) (cu := cu) (st := st) (rt := rt) (lh := lh) (rd := rd) (re := re) (oo := oo) (oa := oa) (ob := ob) (oc := oc) (lg := lg) (rg := rg) (tg := tg) (d := d) (rs := rs) (bd := bd) (p := p) (n := n) P w al hz h3 inj m1 m4 hm (H w g) h 0 (by omega)
    rw [qz_F0 (fun t t0 t5 w => (hz t t0 t5 w).1)] at ct
    exact br_t (nI_lt (a := 62) (by omega) (by omega)) ⟨_, ct⟩
  | succ k ih =>
    intro j w hj j1 g
    refine br_f (nI_nlt (a := 62) (by omega) (by decide)) ?_
    rcases qz_cs (mc := mc) (md := md) (cl := cl) (lc := lc) (cu := cu) (st := st) (rt := rt) (lh := lh) (rd := rd) (re := re) (oo := oo) (oa := oa) (ob := ob) (oc := oc) (lg := lg) (rg := rg) (tg := tg) (d := d) (rs := rs) (bd := bd) (p := p) (n := n) al hz h3 (j := j) (by omega) (by omega) with ⟨t, t0, t5, a1, a2, a3, hX⟩ | ⟨no, hX, hDp, hPc, hRg⟩
    · have bf : w.toBitVec.getLsbD j = false := by
        by_cases z : w.toBitVec.getLsbD j = true
        · exact absurd a2 ((g.2 j j1 (by omega) z).2 t t0 t5 a1)
        · simpa using z
      exact hX _ (br_t ((qz_bit w (by omega)).mpr bf) (br_f (fun z => by have := (nI_eq (b := 3) (by omega) (by decide)).mp z; omega) (br_t rfl (nm_r (nI_1 _) (ih (j + 1) w (by omega) (by omega) g)))))
    · have big : ∀ z0 : Int32, (h < j → z0 = 0) → wL_check_40 P (wL_check_9 P (nI mc) (nI h) (nI mc) (nI md) (nI cl) (nI lc) st rt (nI cu) lh rd re oo oa ob oc lg (fun zz => nI (hd zz)) (fun zz => nI (s zz)) (fun zz => nI (rs zz)) (fun zz => nI (bd zz)) (fun zz => nI (d zz)) (fun zz => nI (p zz)) (fun zz => nI (n zz)) rg tg (k + 1)) w (nI mc) (nI h) (nI j) 3 z0 (nI mc) (nI md) (nI cl) (nI lc) st rt (nI cu) lh rd re oo oa ob oc lg (fun zz => nI (hd zz)) (fun zz => nI (s zz)) (fun zz => nI (rs zz)) (fun zz => nI (bd zz)) (fun zz => nI (d zz)) (fun zz => nI (p zz)) (fun zz => nI (n zz)) rg tg := by
        intro z0 hz0
        refine br_t rfl ?_
        by_cases y : h < j
        · rw [hz0 y]
          exact br_t (nI_lt y (by omega)) (br_t rfl (nm_r (nI_1 _) (ih (j + 1) w (by omega) (by omega) g)))
        · refine br_f (nI_nlt (by omega) (by omega)) (nm_e (br_f (by decide) (br_t rfl (hDp _ (br_t rfl (hPc _ (br_t rfl ⟨9, qz_rl P _ _ hRg ?_ 8 0 rfl⟩)))))))
          exact ih (j + 1) _ (by omega) (by omega) (qz_g_or g j1 (by omega) (by omega) no)
      by_cases z : w.toBitVec.getLsbD j = true
      · exact hX _ (br_f (fun y => by rw [(qz_bit w (by omega)).mp y] at z; exact absurd z (by decide)) (big 1 (fun y => by have := (g.2 j j1 (by omega) z).1; omega)))
      · exact hX _ (br_t ((qz_bit w (by omega)).mpr (by simpa using z)) (big 0 (fun _ => rfl)))
theorem qz_check (P : Int64 → Prop) {w : Int64} (al : ∀ t, t ≠ 0 → t < 5 → (s t = 3 ∧ lv t = 0) ∨ (s t < 3 ∧ lv t = 1)) (hz : ∀ t, t ≠ 0 → t < 5 → lv t = 1 → 1 ≤ hd t ∧ hd t ≤ h) (h3 : h ≤ 320)
    (inj : ∀ t t', t ≠ 0 → t < 5 → t' ≠ 0 → t' < 5 → lv t = 1 → lv t' = 1 → hd t = hd t' → t = t') (m1 : 1 ≤ mc) (m4 : mc ≤ 4) (hm : ∀ t, mc < t → t < 5 → lv t = 0) (g : qz_g lv hd h w) (H : ∀ w, qz_g lv hd h w → P w) :
    wpL_check P (nI mc, nI md, nI cl, nI lc, st, rt, nI cu, nI h, rd, re, oo, oa, ob, oc, lg, (fun zz => nI (hd zz)), (fun zz => nI (s zz)), (fun zz => nI (rs zz)), (fun zz => nI (bd zz)), (fun zz => nI (d zz)), (fun zz => nI (p zz)), (fun zz => nI (n zz)), rg, tg) w (nI mc) := by
  unfold wpL_check
  exact ⟨63, qz_ck P al hz h3 inj m1 m4 hm H 62 1 w rfl (by omega) g⟩
end
