def qc_R8 (x : Int32) : Prop := ∃ a, a < 8 ∧ x = nI a
def qc_A6 (x : Int32) : Prop := ∃ a, a < 64 ∧ x = nI a
def qc_Fit (o a b c : Int32) : Prop :=
  ((o = 0 ∨ o = 8 ∨ o = 9 ∨ o = 10 ∨ o = 11 ∨ o = 18) ∧ qc_R8 a) ∨
  ((o = 1 ∨ o = 15 ∨ o = 16 ∨ o = 17) ∧ qc_R8 a ∧ qc_R8 b) ∨
  ((o = 2 ∨ o = 3 ∨ o = 4 ∨ o = 13 ∨ o = 14) ∧ qc_R8 a ∧ qc_R8 b ∧ qc_R8 c) ∨
  (o = 5 ∧ qc_A6 a) ∨
  ((o = 6 ∨ o = 12) ∧ qc_R8 a ∧ qc_A6 b) ∨
  (o = 7 ∧ qc_R8 a ∧ qc_A6 b ∧ qc_R8 c)
def qc_K (mc md cl lc h B : Nat) (oo oa ob oc : Nat → Int32) (lv bd : Nat → Nat) : Prop :=
  (1 ≤ mc ∧ mc ≤ 4) ∧ (1 ≤ md ∧ md ≤ 6) ∧ cl ≤ 64 ∧ lc ≤ 64 ∧ h ≤ B ∧ (∀ i, i < cl → qc_Fit (oo i) (oa i) (ob i) (oc i)) ∧ (∀ t, bd t < 64) ∧ lv 0 = 0
def qc_S (st rt : Int32) (L : List Nat) : Prop :=
  (st = 1 ∧ rt = 0 ∧ L ≠ []) ∨ (st = 0 ∧ rt = 0 ∧ L = []) ∨ ((st = 2 ∨ st = 3) ∧ L = [])
def qc_cy : List Nat → Int32
  | [] => -1
  | c :: _ => nI c
def qc_R (B : Nat) (u : SX) (v : SY) : Prop :=
  ∃ (mc md cl lc cu h : Nat) (st rt re : Int32) (oo oa ob oc lg hn rg tg : Nat → Int32) (d s lv rs bd yr p q n m : Nat → Nat) (L : List Nat),
    u = (nI mc, nI md, nI cl, nI lc, st, rt, nI cu, nI h, 0, re, oo, oa, ob, oc, lg, hn, (fun zz => nI (s zz)), (fun zz => nI (rs zz)), (fun zz => nI (bd zz)), (fun zz => nI (d zz)), (fun zz => nI (p zz)), (fun zz => nI (n zz)), rg, tg) ∧
    v = (nI mc, nI md, st, rt, qc_cy L, nI h, nI cl, nI lc, oo, oa, ob, oc, lg, hn, (fun zz => nI (d zz)), (fun zz => nI (rs zz)), (fun zz => nI (bd zz)), (fun zz => nI (yr zz)), (fun zz => nI (lv zz)), rg, (fun zz => nI (q zz)), (fun zz => nI (m zz)), tg) ∧
    qc_K mc md cl lc h B oo oa ob oc lv bd ∧ qc_S st rt L ∧ ((∀ c l, L = c :: l → cu = c) ∧ (st = 0 → ∀ t, t < 5 → s t = 3)) ∧
    qc_I mc md oo oa ob d s lv rs yr p q n m L
def qc_Q (B : Nat) (u : SX) (v : SY) (c : Nat) (e : Int32) : Prop :=
  ∃ (mc md cl lc h : Nat) (oo oa ob oc lg hn rg tg : Nat → Int32) (d s lv rs bd yr p q n m : Nat → Nat) (l : List Nat),
    u = (nI mc, nI md, nI cl, nI lc, 1, 0, nI c, nI h, 1, e, oo, oa, ob, oc, lg, hn, (fun zz => nI (s zz)), (fun zz => nI (rs zz)), (fun zz => nI (bd zz)), (fun zz => nI (d zz)), (fun zz => nI (p zz)), (fun zz => nI (n zz)), rg, tg) ∧
    v = (nI mc, nI md, 1, 0, nI c, nI h, nI cl, nI lc, oo, oa, ob, oc, lg, hn, (fun zz => nI (d zz)), (fun zz => nI (rs zz)), (fun zz => nI (bd zz)), (fun zz => nI (yr zz)), (fun zz => nI (lv zz)), rg, (fun zz => nI (q zz)), (fun zz => nI (m zz)), tg) ∧
    qc_K mc md cl lc h B oo oa ob oc lv bd ∧
    qc_J mc md oo oa ob d s lv rs yr p q n m (c :: l)
def i_Rel (k : Nat) (u : SX) (v : SY) : Prop := qc_R (1000 * k) u v
