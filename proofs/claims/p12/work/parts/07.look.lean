section
variable {mc md cl lc cu h B mp mL : Nat} {st rt lh rd re : Int32} {D : Nat → Prop} {oo oa ob oc lg rg tg : Nat → Int32} {hd d s lv rs bd yr p q n m : Nat → Nat} {c r t x a b : Nat} {l L : List Nat}
theorem qc_al (I : qc_I mc md oo oa ob d s lv rs yr p q n m L) (t0 : t ≠ 0) (t5 : t < 5) : (s t = 3 ∧ lv t = 0) ∨ (s t < 3 ∧ lv t = 1) := by
  have o : qc_O md oa ob d s lv yr p q n m t → (s t = 3 ∧ lv t = 0) ∨ (s t < 3 ∧ lv t = 1) := by
    intro o
    rcases o with o | o
    · exact .inl ⟨o.1, o.2.1⟩
    · exact .inr ⟨by have := o.2.1; omega, o.2.2.1⟩
  cases L with
  | nil => exact o (I.2.2.2.2 t t5)
  | cons c l =>
    obtain ⟨i1, i2, i3, i4, i5, i6, i7⟩ := I
    by_cases z : t ∈ c :: l
    · rcases List.mem_cons.mp z with y | y
      · subst y
        exact .inr ⟨by have := i5.2.2.1; omega, i5.2.2.2.1 t0⟩
      · exact .inr ⟨by have := (i6 t y).2.2.1; omega, (i6 t y).2.2.2.1 t0⟩
    · exact o (i7 t t5 z)
theorem qc_sin (I : qc_I mc md oo oa ob d s lv rs yr p q n m (c :: l)) (z : t ∈ c :: l) : (t = c → s t = 1) ∧ (t ≠ c → s t = 2) := by
  obtain ⟨i1, i2, i3, i4, i5, i6, i7⟩ := I
  have hc : c ∉ l := (List.nodup_cons.mp i2).1
  refine ⟨fun e => ?_, fun e => ?_⟩
  · rw [e]; exact i5.2.2.1
  · rcases List.mem_cons.mp z with y | y
    · exact absurd y e
    · exact (i6 t y).2.2.1
theorem qc_s0 (I : qc_I mc md oo oa ob d s lv rs yr p q n m (c :: l)) (hs : s t = 0) : t ∉ c :: l ∧ t ≠ 0 := by
  have a : t ∉ c :: l := fun z => by
    have h := qc_sin I z
    by_cases e : t = c
    · have := h.1 e; omega
    · have := h.2 e; omega
  exact ⟨a, fun e => a (e ▸ qc_Lk_0 l c I.1)⟩
theorem qc_s00 (I : qc_I mc md oo oa ob d s lv rs yr p q n m (c :: l)) : s 0 = 1 ∨ s 0 = 2 := by
  have h := qc_sin I (qc_Lk_0 l c I.1)
  by_cases e : 0 = c
  · exact .inl (h.1 e)
  · exact .inr (h.2 e)
theorem qz_thl (al : ∀ t, t ≠ 0 → t < 5 → (s t = 3 ∧ lv t = 0) ∨ (s t < 3 ∧ lv t = 1)) (g : Int32) : ∀ k j, j + k = 5 → j ≠ 0 →
    (∃ t, t < 5 ∧ t ≠ 0 ∧ lv t = 1 ∧ s t < 3 ∧ nI (hd t) = g ∧ (∀ P : Int32 → Prop, P (nI t) → wX_threadOf_8 P g (nI mc) (nI md) (nI cl) (nI lc) st rt (nI cu) lh rd re oo oa ob oc lg (fun zz => nI (hd zz)) (fun zz => nI (s zz)) (fun zz => nI (rs zz)) (fun zz => nI (bd zz)) (fun zz => nI (d zz)) (fun zz => nI (p zz)) (fun zz => nI (n zz)) rg tg (k + 1) (nI j))) ∨
    ((∀ t, j ≤ t → t < 5 → lv t = 1 → ¬ nI (hd t) = g) ∧ (∀ P : Int32 → Prop, P (-1) → wX_threadOf_8 P g (nI mc) (nI md) (nI cl) (nI lc) st rt (nI cu) lh rd re oo oa ob oc lg (fun zz => nI (hd zz)) (fun zz => nI (s zz)) (fun zz => nI (rs zz)) (fun zz => nI (bd zz)) (fun zz => nI (d zz)) (fun zz => nI (p zz)) (fun zz => nI (n zz)) rg tg (k + 1) (nI j))) := by
  intro k
  induction k with
  | zero =>
    intro j hj _
    have e : j = 5 := by omega
    subst e
    exact .inr ⟨fun t a b => by omega, fun P h => br_t (nI_le (a := 5) (b := 5) (by omega) (by decide)) h⟩
  | succ k ih =>
    intro j hj j0
    have hx : ¬ (5 : Int32) ≤ nI j := nI_ge (b := 5) (by omega) (by decide)
    have hi : vp_in (nI j) 5 := vp_in_nI (by omega) (by decide)
    have es : (fun zz => nI (s zz)) (nI j).toNatClampNeg = nI (s j) := qc_rd s rfl (by omega)
    have eh : (fun zz => nI (hd zz)) (nI j).toNatClampNeg = nI (hd j) := qc_rd hd rfl (by omega)
    rcases al j j0 (by omega) with ⟨a1, a2⟩ | ⟨a1, a2⟩
    · have cx : (fun zz => nI (s zz)) (nI j).toNatClampNeg = 3 := by rw [es, a1]; rfl
      rcases ih (j + 1) (by omega) (by omega) with ⟨t, b1, b2, b3, b4, b5, b6⟩ | ⟨b5, b6⟩
      · exact .inl ⟨t, b1, b2, b3, b4, b5, fun P h => br_f hx ⟨hi, br_t cx (nm_r (nI_1 j) (b6 P h))⟩⟩
      · refine .inr ⟨fun t c5 d5 w => ?_, fun P h => br_f hx ⟨hi, br_t cx (nm_r (nI_1 j) (b6 P h))⟩⟩
        by_cases z : t = j
        · rw [z] at w; omega
        · exact b5 t (by omega) d5 w
    · have cx : ¬ (fun zz => nI (s zz)) (nI j).toNatClampNeg = 3 := by
        rw [es]
        exact fun z => by have := (nI_eq (b := 3) (by omega) (by decide)).mp z; omega
      by_cases z : nI (hd j) = g
      · exact .inl ⟨j, by omega, j0, a2, a1, z, fun P h => br_f hx ⟨hi, br_f cx ⟨hi, br_t (eh.trans z) h⟩⟩⟩
      · have ch : ¬ (fun zz => nI (hd zz)) (nI j).toNatClampNeg = g := by rw [eh]; exact z
        rcases ih (j + 1) (by omega) (by omega) with ⟨t, b1, b2, b3, b4, b5, b6⟩ | ⟨b5, b6⟩
        · exact .inl ⟨t, b1, b2, b3, b4, b5, fun P h => br_f hx ⟨hi, br_f cx ⟨hi, br_f ch (nm_r (nI_1 j) (b6 P h))⟩⟩⟩
        · refine .inr ⟨fun t c5 d5 w => ?_, fun P h => br_f hx ⟨hi, br_f cx ⟨hi, br_f ch (nm_r (nI_1 j) (b6 P h))⟩⟩⟩
          by_cases y : t = j
          · rw [y]; exact z
          · exact b5 t (by omega) d5 w
theorem qz_thE (al : ∀ t, t ≠ 0 → t < 5 → (s t = 3 ∧ lv t = 0) ∨ (s t < 3 ∧ lv t = 1)) (g : Int32) :
    (∃ t, t < 5 ∧ (t = 0 ↔ g = 0) ∧ (t ≠ 0 → lv t = 1 ∧ s t < 3) ∧ (t ≠ 0 → nI (hd t) = g) ∧ (∀ P : Int32 → Prop, P (nI t) → wpX_threadOf P (nI mc, nI md, nI cl, nI lc, st, rt, nI cu, lh, rd, re, oo, oa, ob, oc, lg, (fun zz => nI (hd zz)), (fun zz => nI (s zz)), (fun zz => nI (rs zz)), (fun zz => nI (bd zz)), (fun zz => nI (d zz)), (fun zz => nI (p zz)), (fun zz => nI (n zz)), rg, tg) g)) ∨
    (g ≠ 0 ∧ (∀ t, t ≠ 0 → t < 5 → lv t = 1 → ¬ nI (hd t) = g) ∧ (∀ P : Int32 → Prop, P (-1) → wpX_threadOf P (nI mc, nI md, nI cl, nI lc, st, rt, nI cu, lh, rd, re, oo, oa, ob, oc, lg, (fun zz => nI (hd zz)), (fun zz => nI (s zz)), (fun zz => nI (rs zz)), (fun zz => nI (bd zz)), (fun zz => nI (d zz)), (fun zz => nI (p zz)), (fun zz => nI (n zz)), rg, tg) g)) := by
  by_cases z : g = 0
  · exact .inl ⟨0, by omega, ⟨fun _ => z, fun _ => rfl⟩, fun z => absurd rfl z, fun z => absurd rfl z, fun P h => br_t z h⟩
  · rcases qz_thl (mc := mc) (md := md) (cl := cl) (lc := lc) (cu := cu) (st := st) (rt := rt) (lh := lh) (rd := rd) (re := re) (oo := oo) (oa := oa) (ob := ob) (oc := oc) (lg := lg) (rg := rg) (tg := tg) (hd := hd) (d := d) (rs := rs) (bd := bd) (p := p) (n := n) al g 4 1 rfl (by omega) with ⟨t, b1, b2, b3, b4, b5, b6⟩ | ⟨b5, b6⟩
    · exact .inl ⟨t, b1, ⟨fun y => absurd y b2, fun y => absurd y z⟩, fun _ => ⟨b3, b4⟩, fun _ => b5, fun P h => br_f z ⟨5, b6 P h⟩⟩
    · exact .inr ⟨z, fun t t0 t5 w => b5 t (by omega) t5 w, fun P h => br_f z ⟨5, b6 P h⟩⟩
theorem qz_thr (al : ∀ t, t ≠ 0 → t < 5 → (s t = 3 ∧ lv t = 0) ∨ (s t < 3 ∧ lv t = 1)) (g : Int32) :
    (∃ t, t < 5 ∧ (t = 0 ↔ g = 0) ∧ (t ≠ 0 → lv t = 1 ∧ s t < 3) ∧ (∀ P : Int32 → Prop, P (nI t) → wpX_threadOf P (nI mc, nI md, nI cl, nI lc, st, rt, nI cu, lh, rd, re, oo, oa, ob, oc, lg, (fun zz => nI (hd zz)), (fun zz => nI (s zz)), (fun zz => nI (rs zz)), (fun zz => nI (bd zz)), (fun zz => nI (d zz)), (fun zz => nI (p zz)), (fun zz => nI (n zz)), rg, tg) g)) ∨
    (g ≠ 0 ∧ (∀ t, t ≠ 0 → t < 5 → lv t = 1 → ¬ nI (hd t) = g) ∧ (∀ P : Int32 → Prop, P (-1) → wpX_threadOf P (nI mc, nI md, nI cl, nI lc, st, rt, nI cu, lh, rd, re, oo, oa, ob, oc, lg, (fun zz => nI (hd zz)), (fun zz => nI (s zz)), (fun zz => nI (rs zz)), (fun zz => nI (bd zz)), (fun zz => nI (d zz)), (fun zz => nI (p zz)), (fun zz => nI (n zz)), rg, tg) g)) := by
  rcases qz_thE al g with ⟨t, a, b, c, _, e⟩ | h
  · exact .inl ⟨t, a, b, c, e⟩
  · exact .inr h
end
