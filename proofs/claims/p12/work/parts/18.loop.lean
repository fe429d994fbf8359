def qz_WL (L : Nat) (xs : Nat → Int32) (mc mL kc ks n : Nat) (w : Int64) (mp j : Nat) (u : St2) : Prop := match u with
  | (a0, a1, a2, a3, a4, a5, a6, a7, a8, a9, a10, a11, a12, a13, a14, a15, a16, a17, a18, a19, a20, a21, a22, a23) => wL_law_238 (fun r => r = 1) L xs (nI mc) (nI mL) kc ks n w (nI mp) (nI j) a0 a1 a2 a3 a4 a5 a6 a7 a8 a9 a10 a11 a12 a13 a14 a15 a16 a17 a18 a19 a20 a21 a22 a23
def qz_MC (L : Nat) (xs : Nat → Int32) (mL : Nat) (oo oa ob : Nat → Int32) : Prop :=
  ∀ i, i < mL → ((qz_kd L xs i = 1 ∨ qz_kd L xs i = 7) → oo i = 13 ∧ oa i = 2 ∧ ob i = nI (qz_hb L xs i)) ∧ (qz_kd L xs i = 2 → oo i = 14 ∧ oa i = 2 ∧ ob i = nI (qz_hb L xs i))
section
variable {mc md cl lc cu h B mp mL : Nat} {st rt lh rd re : Int32} {D : Nat → Prop} {oo oa ob oc lg rg tg : Nat → Int32} {hd d s lv rs bd yr p q n m : Nat → Nat} {c r t x a b : Nat} {l L : List Nat}
theorem qz_364 {L' : Nat} {xs : Nat → Int32} {x10 x12 x13 x14 : Int32} {kc ks j k mp' : Nat} {w : Int64} {u u' : St2} (R : qz_R mc cl oo oa ob oc B mp' mL (qz_D w) u') (hB : B ≤ 320) (b0 : w.toBitVec.getLsbD 0 = false)
    (W : ∀ P : Int32 → St2 → Prop, P 1 u' → wpX_run P u 1) (hx : (x12 = 0 → x10 = nI mp') ∧ (¬ x12 = 0 → x10 + 1 = nI mp'))
    (hv : x13 = 0 ∨ (x14 = 2 ∧ qz_v14 u') ∨ (¬ x14 = 2 ∧ qz_v13 u'))
    (H : ∀ w' : Int64, w'.toBitVec.getLsbD 0 = false → qz_R mc cl oo oa ob oc B mp' mL (qz_D w') u' → qz_WL L' xs mc mL kc ks k w' mp' (j + 1) u') :
    wpX_run (fun _ u => match u with
      | (a0, a1, a2, a3, a4, a5, a6, a7, a8, a9, a10, a11, a12, a13, a14, a15, a16, a17, a18, a19, a20, a21, a22, a23) => (x12 = 0 → wL_law_379 (fun r => r = 1) L' xs (wL_law_238 (fun r => r = 1) L' xs (nI mc) (nI mL) kc ks k) (nI mc) w (nI mL) x10 (nI j) x13 x14 kc ks a0 a1 a2 a3 a4 a5 a6 a7 a8 a9 a10 a11 a12 a13 a14 a15 a16 a17 a18 a19 a20 a21 a22 a23) ∧ (¬ x12 = 0 → ∀ y, y = x10 + 1 → wL_law_379 (fun r => r = 1) L' xs (wL_law_238 (fun r => r = 1) L' xs (nI mc) (nI mL) kc ks k) (nI mc) w (nI mL) y (nI j) x13 x14 kc ks a0 a1 a2 a3 a4 a5 a6 a7 a8 a9 a10 a11 a12 a13 a14 a15 a16 a17 a18 a19 a20 a21 a22 a23)) u 1 := by
  refine W _ ?_
  obtain ⟨md, lc, cu, h, st, rt, re, lg, rg, tg, hd, d, s, lv, rs, bd, yr, p, q, n, m, L, rfl, K, S, C, I, Z⟩ := R
  have N : ∀ w' : Int64, w'.toBitVec.getLsbD 0 = false → qz_Z hd lv d p h mp' mL (qz_D w') L → wL_law_238 (fun r => r = 1) L' xs (nI mc) (nI mL) kc ks k w' (nI mp') (nI (j + 1)) (nI mc) (nI md) (nI cl) (nI lc) st rt (nI cu) (nI h) 0 re oo oa ob oc lg (fun zz => nI (hd zz)) (fun zz => nI (s zz)) (fun zz => nI (rs zz)) (fun zz => nI (bd zz)) (fun zz => nI (d zz)) (fun zz => nI (p zz)) (fun zz => nI (n zz)) rg tg :=
    fun w' b' Z' => H w' b' ⟨md, lc, cu, h, st, rt, re, lg, rg, tg, hd, d, s, lv, rs, bd, yr, p, q, n, m, L, rfl, K, S, C, I, Z'⟩
  have V : x13 = 0 ∨ (x14 = 2 ∧ st = 3 ∧ rt = -1) ∨ (¬ x14 = 2 ∧ st = 1 ∧ nI cu = 0 ∧ rg 2 = -1 ∧ rg 3 = 0) := hv
  refine br_c (fun z => ?_) (fun z => ?_)
  · rw [hx.1 z]
    exact qz_379 K hB C.1 S I Z b0 V N
  · exact nm_r (hx.2 z) (qz_379 K hB C.1 S I Z b0 V N)
end
