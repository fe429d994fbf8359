def qc_R8 (x : Int32) : Prop := ∃ a, a < 8 ∧ x = nI a
def qc_A6 (x : Int32) : Prop := ∃ a, a < 64 ∧ x = nI a
def qc_Fit (o a b c : Int32) : Prop :=
  ((o = 0 ∨ o = 8 ∨ o = 9 ∨ o = 10 ∨ o = 11 ∨ o = 18) ∧ qc_R8 a) ∨
  ((o = 1 ∨ o = 15 ∨ o = 16 ∨ o = 17) ∧ qc_R8 a ∧ qc_R8 b) ∨
  ((o = 2 ∨ o = 3 ∨ o = 4 ∨ o = 13 ∨ o = 14) ∧ qc_R8 a ∧ qc_R8 b ∧ qc_R8 c) ∨
  (o = 5 ∧ qc_A6 a) ∨
  ((o = 6 ∨ o = 12) ∧ qc_R8 a ∧ qc_A6 b) ∨
  (o = 7 ∧ qc_R8 a ∧ qc_A6 b ∧ qc_R8 c)
def qc_K (mc md cl lc h B : Nat) (oo oa ob oc : Nat → Int32) (lv bd : Nat → Nat) : Prop :=
  (1 ≤ mc ∧ mc ≤ 4) ∧ (1 ≤ md ∧ md ≤ 6) ∧ cl ≤ 64 ∧ lc ≤ 64 ∧ h ≤ B ∧ (∀ i, i < cl → qc_Fit (oo i) (oa i) (ob i) (oc i)) ∧ (∀ t, bd t < 64) ∧ lv 0 = 0
def qc_S (st rt : Int32) (L : List Nat) : Prop :=
  (st = 1 ∧ rt = 0 ∧ L ≠ []) ∨ (st = 0 ∧ rt = 0 ∧ L = []) ∨ ((st = 2 ∨ st = 3) ∧ L = [])
def qz_Z (hd lv d p : Nat → Nat) (h mp mL : Nat) (D : Nat → Prop) (L : List Nat) : Prop :=
  (hd 0 = 0 ∧ (∀ t, t ≠ 0 → t < 5 → lv t = 1 → 1 ≤ hd t ∧ hd t ≤ h) ∧ (∀ t t', t ≠ 0 → t < 5 → t' ≠ 0 → t' < 5 → lv t = 1 → lv t' = 1 → hd t = hd t' → t = t')) ∧
  (∀ j, D j → j ≤ h ∧ ∀ t, t ≠ 0 → t < 5 → lv t = 1 → hd t ≠ j) ∧
  (L ≠ [] → d 0 = 1 ∧ p 0 = mp ∧ mp ≤ mL)
def qz_mp (c x : Nat) : Nat := if c = 0 then x + 1 else x
def qz_R (mc cl : Nat) (oo oa ob oc : Nat → Int32) (B mp mL : Nat) (D : Nat → Prop) (u : St2) : Prop :=
  ∃ (md lc cu h : Nat) (st rt re : Int32) (lg rg tg : Nat → Int32) (hd d s lv rs bd yr p q n m : Nat → Nat) (L : List Nat),
    u = (nI mc, nI md, nI cl, nI lc, st, rt, nI cu, nI h, 0, re, oo, oa, ob, oc, lg, (fun zz => nI (hd zz)), (fun zz => nI (s zz)), (fun zz => nI (rs zz)), (fun zz => nI (bd zz)), (fun zz => nI (d zz)), (fun zz => nI (p zz)), (fun zz => nI (n zz)), rg, tg) ∧
    qc_K mc md cl lc h B oo oa ob oc lv bd ∧ qc_S st rt L ∧ ((∀ c l, L = c :: l → cu = c) ∧ (st = 0 → ∀ t, t < 5 → s t = 3)) ∧
    qc_I mc md oo oa ob d s lv rs yr p q n m L ∧ qz_Z hd lv d p h mp mL D L
def qz_Q (mc cl : Nat) (oo oa ob oc : Nat → Int32) (B mp mL : Nat) (D : Nat → Prop) (u : St2) (c : Nat) (e : Int32) : Prop :=
  ∃ (md lc h : Nat) (lg rg tg : Nat → Int32) (hd d s lv rs bd yr p q n m : Nat → Nat) (l : List Nat),
    u = (nI mc, nI md, nI cl, nI lc, 1, 0, nI c, nI h, 1, e, oo, oa, ob, oc, lg, (fun zz => nI (hd zz)), (fun zz => nI (s zz)), (fun zz => nI (rs zz)), (fun zz => nI (bd zz)), (fun zz => nI (d zz)), (fun zz => nI (p zz)), (fun zz => nI (n zz)), rg, tg) ∧
    qc_K mc md cl lc h B oo oa ob oc lv bd ∧
    qc_J mc md oo oa ob d s lv rs yr p q n m (c :: l) ∧ qz_Z hd lv d p h mp mL D (c :: l)
theorem qz_mpl {c mp mL : Nat} (m0 : c = 0 → mp + 1 ≤ mL) (b : mp ≤ mL) : qz_mp c mp ≤ mL := by
  unfold qz_mp
  by_cases z : c = 0
  · rw [if_pos z]; exact m0 z
  · rw [if_neg z]; exact b
section
variable {mc md cl lc cu h B mp mL : Nat} {st rt lh rd re : Int32} {D : Nat → Prop} {oo oa ob oc lg rg tg : Nat → Int32} {hd d s lv rs bd yr p q n m : Nat → Nat} {c r t x a b : Nat} {l L : List Nat}
theorem qz_Za {lv' d' p' : Nat → Nat} {L' : List Nat} (Z : qz_Z hd lv d p h mp mL D (c :: l)) (hv : ∀ t, lv' t = 1 → lv t = 1) (hm : L' ≠ [] → (c = 0 → mp + 1 ≤ mL) ∧ d' 0 = d 0 ∧ p' 0 = qz_mp c (p 0)) : qz_Z hd lv' d' p' h (qz_mp c mp) mL D L' := by
  obtain ⟨⟨a1, a2, a3⟩, a4, a5⟩ := Z
  refine ⟨⟨a1, fun t t0 t5 w => a2 t t0 t5 (hv t w), fun t t' t0 t5 s0 s5 w w' => a3 t t' t0 t5 s0 s5 (hv t w) (hv t' w')⟩, fun j hj => ⟨(a4 j hj).1, fun t t0 t5 w => (a4 j hj).2 t t0 t5 (hv t w)⟩, fun hL => ?_⟩
  obtain ⟨m0, m1, m2⟩ := hm hL
  obtain ⟨b1, b2, b3⟩ := a5 (by simp)
  rw [m1, m2, b2]
  exact ⟨b1, rfl, qz_mpl m0 b3⟩
theorem qz_Zk {lv' d' : Nat → Nat} {L' : List Nat} (Z : qz_Z hd lv d p h mp mL D (c :: l)) (hv : ∀ t, lv' t = 1 → lv t = 1) (hm : L' ≠ [] → d' 0 = d 0) : qz_Z hd lv' d' p h mp mL D L' := by
  obtain ⟨⟨a1, a2, a3⟩, a4, a5⟩ := Z
  refine ⟨⟨a1, fun t t0 t5 w => a2 t t0 t5 (hv t w), fun t t' t0 t5 s0 s5 w w' => a3 t t' t0 t5 s0 s5 (hv t w) (hv t' w')⟩, fun j hj => ⟨(a4 j hj).1, fun t t0 t5 w => (a4 j hj).2 t t0 t5 (hv t w)⟩, fun hL => ?_⟩
  obtain ⟨b1, b2, b3⟩ := a5 (by simp)
  rw [hm hL, b2]
  exact ⟨b1, rfl, b3⟩
theorem qz_Zc {F : Nat} {p' : Nat → Nat} (Z : qz_Z hd lv d p h mp mL D (c :: l)) (F0 : F ≠ 0) (m0 : c = 0 → mp + 1 ≤ mL) (hm : p' 0 = qz_mp c (p 0)) : qz_Z (qc_u hd F (h + 1)) (qc_u lv F 1) d p' (h + 1) (qz_mp c mp) mL D (c :: l) := by
  obtain ⟨⟨a1, a2, a3⟩, a4, a5⟩ := Z
  have lo : ∀ t, t ≠ F → qc_u lv F 1 t = 1 → lv t = 1 := fun t ht w => by rw [qc_uo ht] at w; exact w
  refine ⟨⟨?_, fun t t0 t5 w => ?_, fun t t' t0 t5 s0 s5 w w' e => ?_⟩, fun j hj => ⟨by have := (a4 j hj).1; omega, fun t t0 t5 w => ?_⟩, fun hL => ?_⟩
  · rw [qc_uo (by omega)]; exact a1
  · by_cases z : t = F
    · rw [z, qc_us]; omega
    · rw [qc_uo z]; have := a2 t t0 t5 (lo t z w); omega
  · by_cases z : t = F
    · by_cases y : t' = F
      · rw [z, y]
      · rw [z, qc_us, qc_uo y] at e
        have := a2 t' s0 s5 (lo t' y w'); omega
    · by_cases y : t' = F
      · rw [y, qc_us, qc_uo z] at e
        have := a2 t t0 t5 (lo t z w); omega
      · rw [qc_uo z, qc_uo y] at e
        exact a3 t t' t0 t5 s0 s5 (lo t z w) (lo t' y w') e
  · by_cases z : t = F
    · rw [z, qc_us]; have := (a4 j hj).1; omega
    · rw [qc_uo z]; exact (a4 j hj).2 t t0 t5 (lo t z w)
  · obtain ⟨b1, b2, b3⟩ := a5 (by simp)
    rw [hm, b2]
    exact ⟨b1, rfl, qz_mpl m0 b3⟩
theorem qz_p0 (Z : qz_Z hd lv d p h mp mL D (c :: l)) (h1 : 1 ≤ d c) (hp : p (c * 6 + d c - 1) = x) : qc_u p (c * 6 + d c - 1) (x + 1) 0 = qz_mp c (p 0) := by
  unfold qz_mp
  by_cases z : c = 0
  · rw [if_pos z]
    have d1 := (Z.2.2 (by simp)).1
    have e : c * 6 + d c - 1 = 0 := by rw [z, d1]
    rw [e] at hp ⊢
    rw [qc_us, hp]
  · rw [if_neg z, qc_uo (by omega)]
theorem qz_p1 (c0 : c ≠ 0) (h1 : 1 ≤ d c) (y : Nat) : qc_u p (c * 6 + d c - 1) y 0 = qz_mp c (p 0) := by
  unfold qz_mp
  rw [if_neg c0, qc_uo (by omega)]
end
