section
variable {mc md cl lc cu h B : Nat} {st rt lh rd re cy : Int32} {oo oa ob oc lg hn rg tg : Nat → Int32} {d s lv rs bd yr p q n m : Nat → Nat} {c r t x a b : Nat} {l L : List Nat}
theorem qc_al (I : qc_I mc md oo oa ob d s lv rs yr p q n m L) (t0 : t ≠ 0) (t5 : t < 5) : (s t = 3 ∧ lv t = 0) ∨ (s t < 3 ∧ lv t = 1) := by
  have o : qc_O md oa ob d s lv yr p q n m t → (s t = 3 ∧ lv t = 0) ∨ (s t < 3 ∧ lv t = 1) := by
    intro o
    rcases o with o | o
    · exact .inl ⟨o.1, o.2.1⟩
    · exact .inr ⟨by have := o.2.1; omega, o.2.2.1⟩
  cases L with
  | nil => exact o (I.2.2.2.2 t t5)
  | cons c l =>
    obtain ⟨i1, i2, i3, i4, i5, i6, i7⟩ := I
    by_cases z : t ∈ c :: l
    · rcases List.mem_cons.mp z with y | y
      · subst y
        exact .inr ⟨by have := i5.2.2.1; omega, i5.2.2.2.1 t0⟩
      · exact .inr ⟨by have := (i6 t y).2.2.1; omega, (i6 t y).2.2.2.1 t0⟩
    · exact o (i7 t t5 z)
theorem qc_sin (I : qc_I mc md oo oa ob d s lv rs yr p q n m (c :: l)) (z : t ∈ c :: l) : (t = c → s t = 1) ∧ (t ≠ c → s t = 2) := by
  obtain ⟨i1, i2, i3, i4, i5, i6, i7⟩ := I
  have hc : c ∉ l := (List.nodup_cons.mp i2).1
  refine ⟨fun e => ?_, fun e => ?_⟩
  · rw [e]; exact i5.2.2.1
  · rcases List.mem_cons.mp z with y | y
    · exact absurd y e
    · exact (i6 t y).2.2.1
theorem qc_s0 (I : qc_I mc md oo oa ob d s lv rs yr p q n m (c :: l)) (hs : s t = 0) : t ∉ c :: l ∧ t ≠ 0 := by
  have a : t ∉ c :: l := fun z => by
    have h := qc_sin I z
    by_cases e : t = c
    · have := h.1 e; omega
    · have := h.2 e; omega
  exact ⟨a, fun e => a (e ▸ qc_Lk_0 l c I.1)⟩
theorem qc_s00 (I : qc_I mc md oo oa ob d s lv rs yr p q n m (c :: l)) : s 0 = 1 ∨ s 0 = 2 := by
  have h := qc_sin I (qc_Lk_0 l c I.1)
  by_cases e : 0 = c
  · exact .inl (h.1 e)
  · exact .inr (h.2 e)
theorem qc_thl (al : ∀ t, t ≠ 0 → t < 5 → (s t = 3 ∧ lv t = 0) ∨ (s t < 3 ∧ lv t = 1)) (g : Int32) : ∀ k j, j + k = 5 → j ≠ 0 →
    (∃ t, t < 5 ∧ t ≠ 0 ∧ lv t = 1 ∧ s t < 3 ∧ (∀ P : Int32 → Prop, P (nI t) → wX_threadOf_8 P g (nI mc) (nI md) (nI cl) (nI lc) st rt (nI cu) lh rd re oo oa ob oc lg hn (fun zz => nI (s zz)) (fun zz => nI (rs zz)) (fun zz => nI (bd zz)) (fun zz => nI (d zz)) (fun zz => nI (p zz)) (fun zz => nI (n zz)) rg tg (k + 1) (nI j)) ∧ (∀ P : Int32 → Prop, P (nI t) → wY_slotOf_8 P g (nI mc) (nI md) st rt cy lh (nI cl) (nI lc) oo oa ob oc lg hn (fun zz => nI (d zz)) (fun zz => nI (rs zz)) (fun zz => nI (bd zz)) (fun zz => nI (yr zz)) (fun zz => nI (lv zz)) rg (fun zz => nI (q zz)) (fun zz => nI (m zz)) tg (k + 1) (nI j))) ∨
    ((∀ P : Int32 → Prop, P (-1) → wX_threadOf_8 P g (nI mc) (nI md) (nI cl) (nI lc) st rt (nI cu) lh rd re oo oa ob oc lg hn (fun zz => nI (s zz)) (fun zz => nI (rs zz)) (fun zz => nI (bd zz)) (fun zz => nI (d zz)) (fun zz => nI (p zz)) (fun zz => nI (n zz)) rg tg (k + 1) (nI j)) ∧ (∀ P : Int32 → Prop, P (-1) → wY_slotOf_8 P g (nI mc) (nI md) st rt cy lh (nI cl) (nI lc) oo oa ob oc lg hn (fun zz => nI (d zz)) (fun zz => nI (rs zz)) (fun zz => nI (bd zz)) (fun zz => nI (yr zz)) (fun zz => nI (lv zz)) rg (fun zz => nI (q zz)) (fun zz => nI (m zz)) tg (k + 1) (nI j))) := by
  intro k
  induction k with
  | zero =>
    intro j hj _
    have e : j = 5 := by omega
    subst e
    exact .inr ⟨fun P h => br_t (nI_le (a := 5) (b := 5) (by omega) (by decide)) h, fun P h => br_t (nI_lt (a := 4) (b := 5) (by omega) (by decide)) h⟩
  | succ k ih =>
    intro j hj j0
    have hx : ¬ (5 : Int32) ≤ nI j := nI_ge (b := 5) (by omega) (by decide)
    have hy : ¬ (4 : Int32) < nI j := nI_nlt (a := 4) (by omega) (by decide)
    have hi : vp_in (nI j) 5 := vp_in_nI (by omega) (by decide)
    have es : (fun zz => nI (s zz)) (nI j).toNatClampNeg = nI (s j) := qc_rd s rfl (by omega)
    have el : (fun zz => nI (lv zz)) (nI j).toNatClampNeg = nI (lv j) := qc_rd lv rfl (by omega)
    have eh : hn (nI j).toNatClampNeg = hn j := qc_rr rfl (by omega)
    rcases al j j0 (by omega) with ⟨a1, a2⟩ | ⟨a1, a2⟩
    · have cx : (fun zz => nI (s zz)) (nI j).toNatClampNeg = 3 := by rw [es, a1]; rfl
      have cy : (fun zz => nI (lv zz)) (nI j).toNatClampNeg = 0 := by rw [el, a2]; rfl
      rcases ih (j + 1) (by omega) (by omega) with ⟨t, b1, b2, b3, b4, b5, b6⟩ | ⟨b5, b6⟩
      · exact .inl ⟨t, b1, b2, b3, b4, fun P h => br_f hx ⟨hi, br_t cx (nm_r (nI_1 j) (b5 P h))⟩, fun P h => br_f hy ⟨hi, br_t cy (nm_r (nI_1 j) (b6 P h))⟩⟩
      · exact .inr ⟨fun P h => br_f hx ⟨hi, br_t cx (nm_r (nI_1 j) (b5 P h))⟩, fun P h => br_f hy ⟨hi, br_t cy (nm_r (nI_1 j) (b6 P h))⟩⟩
    · have cx : ¬ (fun zz => nI (s zz)) (nI j).toNatClampNeg = 3 := by
        rw [es]
        exact fun z => by have := (nI_eq (b := 3) (by omega) (by decide)).mp z; omega
      have cy : ¬ (fun zz => nI (lv zz)) (nI j).toNatClampNeg = 0 := by rw [el, a2]; decide
      by_cases z : hn j = g
      · exact .inl ⟨j, by omega, j0, a2, a1, fun P h => br_f hx ⟨hi, br_f cx ⟨hi, br_t (eh.trans z) h⟩⟩, fun P h => br_f hy ⟨hi, br_f cy ⟨hi, br_t (eh.trans z) h⟩⟩⟩
      · have ch : ¬ hn (nI j).toNatClampNeg = g := by rw [eh]; exact z
        rcases ih (j + 1) (by omega) (by omega) with ⟨t, b1, b2, b3, b4, b5, b6⟩ | ⟨b5, b6⟩
        · exact .inl ⟨t, b1, b2, b3, b4, fun P h => br_f hx ⟨hi, br_f cx ⟨hi, br_f ch (nm_r (nI_1 j) (b5 P h))⟩⟩, fun P h => br_f hy ⟨hi, br_f cy ⟨hi, br_f ch (nm_r (nI_1 j) (b6 P h))⟩⟩⟩
        · exact .inr ⟨fun P h => br_f hx ⟨hi, br_f cx ⟨hi, br_f ch (nm_r (nI_1 j) (b5 P h))⟩⟩, fun P h => br_f hy ⟨hi, br_f cy ⟨hi, br_f ch (nm_r (nI_1 j) (b6 P h))⟩⟩⟩
theorem qc_thr (al : ∀ t, t ≠ 0 → t < 5 → (s t = 3 ∧ lv t = 0) ∨ (s t < 3 ∧ lv t = 1)) (g : Int32) :
    (∃ t, t < 5 ∧ (t = 0 ↔ g = 0) ∧ (t ≠ 0 → lv t = 1 ∧ s t < 3) ∧ (∀ P : Int32 → Prop, P (nI t) → wpX_threadOf P (nI mc, nI md, nI cl, nI lc, st, rt, nI cu, lh, rd, re, oo, oa, ob, oc, lg, hn, (fun zz => nI (s zz)), (fun zz => nI (rs zz)), (fun zz => nI (bd zz)), (fun zz => nI (d zz)), (fun zz => nI (p zz)), (fun zz => nI (n zz)), rg, tg) g) ∧ (∀ P : Int32 → Prop, P (nI t) → wpY_slotOf P (nI mc, nI md, st, rt, cy, lh, nI cl, nI lc, oo, oa, ob, oc, lg, hn, (fun zz => nI (d zz)), (fun zz => nI (rs zz)), (fun zz => nI (bd zz)), (fun zz => nI (yr zz)), (fun zz => nI (lv zz)), rg, (fun zz => nI (q zz)), (fun zz => nI (m zz)), tg) g)) ∨
    (g ≠ 0 ∧ (∀ P : Int32 → Prop, P (-1) → wpX_threadOf P (nI mc, nI md, nI cl, nI lc, st, rt, nI cu, lh, rd, re, oo, oa, ob, oc, lg, hn, (fun zz => nI (s zz)), (fun zz => nI (rs zz)), (fun zz => nI (bd zz)), (fun zz => nI (d zz)), (fun zz => nI (p zz)), (fun zz => nI (n zz)), rg, tg) g) ∧ (∀ P : Int32 → Prop, P (-1) → wpY_slotOf P (nI mc, nI md, st, rt, cy, lh, nI cl, nI lc, oo, oa, ob, oc, lg, hn, (fun zz => nI (d zz)), (fun zz => nI (rs zz)), (fun zz => nI (bd zz)), (fun zz => nI (yr zz)), (fun zz => nI (lv zz)), rg, (fun zz => nI (q zz)), (fun zz => nI (m zz)), tg) g)) := by
  by_cases z : g = 0
  · exact .inl ⟨0, by omega, ⟨fun _ => z, fun _ => rfl⟩, fun z => absurd rfl z, fun P h => br_t z h, fun P h => br_t z h⟩
  · rcases qc_thl (mc := mc) (md := md) (cl := cl) (lc := lc) (cu := cu) (st := st) (rt := rt) (lh := lh) (rd := rd) (re := re) (cy := cy) (oo := oo) (oa := oa) (ob := ob) (oc := oc) (lg := lg) (hn := hn) (rg := rg) (tg := tg) (d := d) (rs := rs) (bd := bd) (yr := yr) (p := p) (q := q) (n := n) (m := m) al g 4 1 rfl (by omega) with ⟨t, b1, b2, b3, b4, b5, b6⟩ | ⟨b5, b6⟩
    · exact .inl ⟨t, b1, ⟨fun y => absurd y b2, fun y => absurd y z⟩, fun _ => ⟨b3, b4⟩, fun P h => br_f z ⟨5, b5 P h⟩, fun P h => br_f z ⟨5, b6 P h⟩⟩
    · exact .inr ⟨z, fun P h => br_f z ⟨5, b5 P h⟩, fun P h => br_f z ⟨5, b6 P h⟩⟩
theorem qc_ywk (P : Int32 → Prop) (t5 : t < 5) (t0 : t ≠ 0) : ∀ (l : List Nat) (x k : Nat), qc_Lk rs (x :: l) → (∀ y, y ∈ x :: l → y < 5) → k + l.length ≤ 5 →
    (t = x → k = 0 → P 1) → (t ∈ x :: l → ¬ (t = x ∧ k = 0) → P 2) → (t ∉ x :: l → P 0) → wY_coStatus_48 P (nI t) (nI mc) (nI md) st rt cy lh (nI cl) (nI lc) oo oa ob oc lg hn (fun zz => nI (d zz)) (fun zz => nI (rs zz)) (fun zz => nI (bd zz)) (fun zz => nI (yr zz)) (fun zz => nI (lv zz)) rg (fun zz => nI (q zz)) (fun zz => nI (m zz)) tg (l.length + 1) (nI x) (nI k) := by
  intro l
  induction l with
  | nil =>
    intro x k hL h5 hk p1 p2 p0
    have x0 : x = 0 := hL
    subst x0
    exact br_f (nI_ge (b := 6) (by simp at hk; omega) (by decide)) (br_f (by decide) (br_t (by decide) (br_f (fun z => t0 ((nI_eq (a := 0) (by omega) (by omega)).mp z).symm) (br_t rfl (p0 (by simpa using t0))))))
  | cons y l ih =>
    intro x k hL h5 hk p1 p2 p0
    have x5 : x < 5 := h5 x List.mem_cons_self
    have hk' : k + l.length + 1 ≤ 5 := by simp at hk; omega
    refine br_f (nI_ge (b := 6) (by omega) (by decide)) (br_f (nI_pos (by omega)) (br_t (nI_le (b := 4) (by omega) (by decide)) ?_))
    by_cases z : x = t
    · refine br_t (by rw [z]) (pk_eq k 0 (fun k0 => p1 z.symm k0) (fun k0 => p2 (by rw [z]; exact List.mem_cons_self) (fun w => k0 w.2)))
    · refine br_f (fun w => z ((nI_eq (by omega) (by omega)).mp w)) (br_f (fun w => hL.1 ((nI_eq (b := 0) (by omega) (by omega)).mp w)) ⟨vp_in_nI x5 (by decide), nm_r ((qc_rd rs rfl (by omega)).trans (congrArg nI hL.2.1)) (nm_r (nI_1 k) (ih y (k + 1) hL.2.2 (fun a ha => h5 a (List.mem_cons_of_mem _ ha)) (by omega) (fun _ w => by omega) (fun w _ => p2 (List.mem_cons_of_mem _ w) (fun u => z u.1.symm)) (fun w => p0 (fun u => ?_))))⟩)
      rcases List.mem_cons.mp u with u | u
      · exact z u.symm
      · exact w u
theorem qc_yco (I : qc_I mc md oo oa ob d s lv rs yr p q n m L) (S : qc_S st rt L) (g : Int32) {mc' md' cl lc : Nat} {lh : Int32} {oo' oa' ob' oc lg hn rg tg : Nat → Int32} {d' bd yr' lv' q' m' : Nat → Nat} (t5 : t < 5) (hg : t = 0 ↔ g = 0) (ha : t ≠ 0 → lv t = 1 ∧ s t < 3)
    (H : ∀ P : Int32 → Prop, P (nI t) → wpY_slotOf P (nI mc', nI md', st, rt, qc_cy L, lh, nI cl, nI lc, oo', oa', ob', oc, lg, hn, (fun zz => nI (d' zz)), (fun zz => nI (rs zz)), (fun zz => nI (bd zz)), (fun zz => nI (yr' zz)), (fun zz => nI (lv' zz)), rg, (fun zz => nI (q' zz)), (fun zz => nI (m' zz)), tg) g) :
    ∀ P : Int32 → Prop, P (nI (s t)) → wpY_coStatus P (nI mc', nI md', st, rt, qc_cy L, lh, nI cl, nI lc, oo', oa', ob', oc, lg, hn, (fun zz => nI (d' zz)), (fun zz => nI (rs zz)), (fun zz => nI (bd zz)), (fun zz => nI (yr' zz)), (fun zz => nI (lv' zz)), rg, (fun zz => nI (q' zz)), (fun zz => nI (m' zz)), tg) g := by
  intro P hP
  cases L with
  | nil =>
    by_cases z : g = 0
    · have t0 := hg.mpr z
      subst t0
      have s3 : s 0 = 3 := by
        rcases I.2.2.2.2 0 (by omega) with o | o
        · exact o.1
        · exact absurd rfl o.1
      rw [s3] at hP
      have hs : ¬ st = 1 := by
        rcases S with S | S | S
        · exact absurd rfl S.2.2
        · rw [S.1]; decide
        · rcases S.1 with e | e <;> rw [e] <;> decide
      exact br_t z (br_f hs hP)
    · have t0 : t ≠ 0 := fun y => z (hg.mp y)
      have s0 : s t = 0 := by
        rcases I.2.2.2.2 t t5 with o | o
        · have := (ha t0).2; omega
        · exact o.2.1
      rw [s0] at hP
      exact br_f z (H _ (br_t (nI_le (a := 1) (by omega) (by omega)) ⟨1, br_f (by decide) (br_t (by decide) hP)⟩))
  | cons c l =>
    have hs : st = 1 := by
      rcases S with S | S | S
      · exact S.1
      · exact absurd S.2.2 (by simp)
      · exact absurd S.2 (by simp)
    have c5 : c < 5 := I.2.2.1 c List.mem_cons_self
    by_cases z : g = 0
    · have t0 := hg.mpr z
      subst t0
      have h := qc_sin I (qc_Lk_0 l c I.1)
      refine br_t z (br_t hs ?_)
      by_cases e : c = 0
      · rw [h.1 e.symm] at hP
        exact br_t (by show nI c = 0; rw [e]; rfl) hP
      · rw [h.2 (fun w => e w.symm)] at hP
        exact br_f (fun w => e ((nI_eq (b := 0) (by omega) (by omega)).mp w)) hP
    · have t0 : t ≠ 0 := fun y => z (hg.mp y)
      refine br_f z (H _ (br_t (nI_le (a := 1) (by omega) (by omega)) ⟨l.length + 1, qc_ywk P t5 t0 l c 0 I.1 I.2.2.1 (by have := qc_len I.2.1 I.2.2.1; simp at this; omega) (fun e _ => ?_) (fun e w => ?_) (fun e => ?_)⟩))
      · rw [(qc_sin I (by rw [e]; exact List.mem_cons_self)).1 e] at hP
        exact hP
      · rw [(qc_sin I e).2 (fun y => w ⟨y, rfl⟩)] at hP
        exact hP
      · have s0 : s t = 0 := by
          rcases I.2.2.2.2.2.2 t t5 e with o | o
          · have := (ha t0).2; omega
          · exact o.2.1
        rw [s0] at hP
        exact hP
end
