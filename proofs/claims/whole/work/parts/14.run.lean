section
variable {mc md cl lc cu h B : Nat} {st rt lh rd re cy : Int32} {oo oa ob oc lg hn rg tg : Nat → Int32} {d s lv rs bd yr p q n m : Nat → Nat} {c r t x a b : Nat} {l L : List Nat}
theorem qc_step (K : qc_K mc md cl lc h B oo oa ob oc lv bd) (I : qc_I mc md oo oa ob d s lv rs yr p q n m (c :: l)) (hB : B < 2147483647) : qc_Out B (nI mc, nI md, nI cl, nI lc, 1, 0, nI c, nI h, 0, re, oo, oa, ob, oc, lg, hn, (fun zz => nI (s zz)), (fun zz => nI (rs zz)), (fun zz => nI (bd zz)), (fun zz => nI (d zz)), (fun zz => nI (p zz)), (fun zz => nI (n zz)), rg, tg) (nI mc, nI md, 1, 0, nI c, nI h, nI cl, nI lc, oo, oa, ob, oc, lg, hn, (fun zz => nI (d zz)), (fun zz => nI (rs zz)), (fun zz => nI (bd zz)), (fun zz => nI (yr zz)), (fun zz => nI (lv zz)), rg, (fun zz => nI (q zz)), (fun zz => nI (m zz)), tg) := by
  generalize hp : p (c * 6 + d c - 1) = x
  by_cases hx : x < cl
  · rcases K.2.2.2.2.2.1 x hx with ⟨ho, ⟨a, a8, ha⟩⟩ | ⟨ho, ⟨a, a8, ha⟩, ⟨b, b8, hb⟩⟩ | ⟨ho, ⟨a, a8, ha⟩, ⟨b, b8, hb⟩, ⟨g, g8, hc⟩⟩ | ⟨ho, ⟨a, a8, ha⟩⟩ | ⟨ho, ⟨a, a8, ha⟩, ⟨b, b6, hb⟩⟩ | ⟨ho, ⟨a, a8, ha⟩, ⟨b, b6, hb⟩, ⟨g, g8, hc⟩⟩
    · rcases ho with ho | ho | ho | ho | ho | ho
      · exact qc_o0 K I hp hx ho ha a8
      · exact qc_o8 K I hp hx ho ha a8
      · exact qc_o9 K I hp hx ho ha a8
      · exact qc_o10 K I hp hx ho ha a8
      · exact qc_o11 K I hp hx ho ha a8
      · exact qc_o18 K I hp hx ho ha a8
    · rcases ho with ho | ho | ho | ho
      · exact qc_o1 K I hp hx ho ha a8 hb b8
      · exact qc_o15 K I hp hx ho ha a8 hb b8
      · exact qc_o16 K I hp hx ho ha a8 hb b8
      · exact qc_o17 K I hp hx ho ha a8 hb b8
    · rcases ho with ho | ho | ho | ho | ho
      · exact qc_o2 K I hp hx ho ha a8 hb b8 hc g8
      · exact qc_o3 K I hp hx ho ha a8 hb b8 hc g8
      · exact qc_o4 K I hp hx ho ha a8 hb b8 hc g8
      · exact qc_o13 K I hp hx ho ha a8 hb b8 hc g8
      · exact qc_o14 K I hp hx ho ha a8 hb b8 hc g8
    · exact qc_o5 K I hp hx ho ha a8
    · rcases ho with ho | ho
      · exact qc_o6 K I hp hx ho ha a8 hb b6
      · exact qc_o12 K I hp hx hB ho ha a8 hb b6
    · exact qc_o7 K I hp hx ho ha a8 hb b6 hc g8
  · exact qc_bad K I hp (by omega)
end
def qc_WX (P : Int32 → SX → Prop) (x2 : Int32) (n : Nat) (x3 : Int32) (u : SX) : Prop := match u with
  | (a0, a1, a2, a3, a4, a5, a6, a7, a8, a9, a10, a11, a12, a13, a14, a15, a16, a17, a18, a19, a20, a21, a22, a23) => wX_run_11 P x2 n x3 a0 a1 a2 a3 a4 a5 a6 a7 a8 a9 a10 a11 a12 a13 a14 a15 a16 a17 a18 a19 a20 a21 a22 a23
def qc_WY (P : Int32 → SY → Prop) (x2 : Int32) (n : Nat) (x3 x4 : Int32) (v : SY) : Prop := match v with
  | (a0, a1, a2, a3, a4, a5, a6, a7, a8, a9, a10, a11, a12, a13, a14, a15, a16, a17, a18, a19, a20, a21, a22) => wY_run_29 P x2 n x3 x4 a0 a1 a2 a3 a4 a5 a6 a7 a8 a9 a10 a11 a12 a13 a14 a15 a16 a17 a18 a19 a20 a21 a22
theorem qc_R_up {B B' : Nat} {u : SX} {v : SY} (hB : B ≤ B') (R : qc_R B u v) : qc_R B' u v := by
  obtain ⟨mc, md, cl, lc, cu, h, st, rt, re, oo, oa, ob, oc, lg, hn, rg, tg, d, s, lv, rs, bd, yr, p, q, n, m, L, hu, hv, K, S⟩ := R
  exact ⟨mc, md, cl, lc, cu, h, st, rt, re, oo, oa, ob, oc, lg, hn, rg, tg, d, s, lv, rs, bd, yr, p, q, n, m, L, hu, hv, ⟨K.1, K.2.1, K.2.2.1, K.2.2.2.1, by have := K.2.2.2.2.1; omega, K.2.2.2.2.2⟩, S⟩
theorem qc_runl {lim : Nat} (hlim : lim ≤ 1000) : ∀ (k i B : Nat) (u : SX) (v : SY), qc_R B u v → i + k = lim → B + k < 2147483647 →
    ∃ (r : Int32) (u' : SX) (v' : SY), qc_R (B + k) u' v' ∧ (∀ P : Int32 → SX → Prop, P r u' → qc_WX P (nI lim) (k + 1) (nI i) u) ∧ (∀ P : Int32 → SY → Prop, P r v' → qc_WY P (nI lim) (k + 1) (nI i) (nI i) v) := by
  intro k
  induction k with
  | zero =>
    intro i B u v R hi hB
    refine ⟨nI i, u, v, R, fun P hP => ?_, fun P hP => ?_⟩
    · obtain ⟨_, _, _, _, _, _, _, _, _, _, _, _, _, _, _, _, _, _, _, _, _, _, _, _, _, _, _, _, rfl, rfl, -⟩ := R
      exact br_t (nI_le (by omega) (by omega)) hP
    · obtain ⟨_, _, _, _, _, _, _, _, _, _, _, _, _, _, _, _, _, _, _, _, _, _, _, _, _, _, _, _, rfl, rfl, -⟩ := R
      exact br_t (nI_le (by omega) (by omega)) hP
  | succ k ih =>
    intro i B u v R hi hB
    have R0 := R
    obtain ⟨mc, md, cl, lc, cu, h, st, rt, re, oo, oa, ob, oc, lg, hn, rg, tg, d, s, lv, rs, bd, yr, p, q, n, m, L, rfl, rfl, K, S, hcu, I⟩ := R
    have hl : ¬ nI lim ≤ nI i := nI_ge (by omega) (by omega)
    cases L with
    | nil =>
      have hs : ¬ st = 1 := by
        rcases S with S | S | S
        · exact absurd rfl S.2.2
        · rw [S.1]; decide
        · rcases S.1 with e | e <;> rw [e] <;> decide
      exact ⟨nI i, _, _, qc_R_up (by omega) R0, fun P hP => br_f hl (br_f hs hP), fun P hP => br_f hl (br_f hs hP)⟩
    | cons c l =>
      have hcc : cu = c := hcu.1 c l rfl
      subst hcc
      obtain ⟨rfl, rfl⟩ : st = 1 ∧ rt = 0 := by
        rcases S with S | S | S
        · exact ⟨S.1, S.2.1⟩
        · exact absurd S.2.2 (by simp)
        · exact absurd S.2 (by simp)
      rcases qc_step (re := re) (lg := lg) (hn := hn) (rg := rg) (tg := tg) K I (by omega) with ⟨u1, v1, R1, X1, Y1⟩ | ⟨u1, v1, c1, e1, Q1, X1, Y1⟩
      · obtain ⟨r, u', v', R', hX, hY⟩ := ih (i + 1) (B + 1) u1 v1 R1 (by omega) (by omega)
        obtain ⟨_, _, _, _, _, _, _, _, _, _, _, _, _, _, _, _, _, _, _, _, _, _, _, _, _, _, _, _, rfl, rfl, -⟩ := R1
        refine ⟨r, u', v', qc_R_up (by omega) R', fun P hP => ?_, fun P hP => ?_⟩
        · exact br_f hl (br_t rfl (X1 _ (br_t rfl (nm_r (nI_1 i) (hX P hP)))))
        · exact br_f hl (br_t rfl (Y1 _ (nm_r (nI_1 i) (nm_r (nI_1 i) (hY P hP)))))
      · obtain ⟨u2, v2, R2, X2, Y2⟩ := qc_settle Q1
        obtain ⟨r, u', v', R', hX, hY⟩ := ih (i + 1) (B + 1) u2 v2 R2 (by omega) (by omega)
        obtain ⟨_, _, _, _, _, _, _, _, _, _, _, _, _, _, _, _, _, _, _, _, _, _, _, _, _, _, _, _, rfl, rfl, -⟩ := R2
        obtain ⟨_, _, _, _, _, _, _, _, _, _, _, _, _, _, _, _, _, _, _, _, _, _, _, _, rfl, rfl, -⟩ := Q1
        refine ⟨r, u', v', qc_R_up (by omega) R', fun P hP => ?_, fun P hP => ?_⟩
        · exact br_f hl (br_t rfl (X1 _ (br_f (by decide) (X2 _ (nm_r (nI_1 i) (hX P hP))))))
        · exact br_f hl (br_t rfl (Y1 _ Y2 _ (nm_r (nI_1 i) (nm_r (nI_1 i) (hY P hP)))))
theorem i_vc_run {k : Nat} {u : SX} {v : SY} (I : i_Rel k u v) (hk : k + 5 ≤ 2562) (v1 : Int32) : wpX_run (fun r u' => wpY_run (fun r' v' => r' = r ∧ i_Rel (k + 5) u' v') v v1) u v1 := by
  have main : ∀ lim : Nat, lim ≤ 1000 → ∃ (r : Int32) (u' : SX) (v' : SY), i_Rel (k + 5) u' v' ∧ (∀ P : Int32 → SX → Prop, P r u' → ∃ n, qc_WX P (nI lim) n 0 u) ∧ (∀ P : Int32 → SY → Prop, P r v' → ∃ n, qc_WY P (nI lim) n 0 0 v) := by
    intro lim hl
    obtain ⟨r, u', v', R, hX, hY⟩ := qc_runl hl lim 0 (1000 * k) u v I (by omega) (by omega)
    exact ⟨r, u', v', qc_R_up (by omega) R, fun P hP => ⟨_, hX P hP⟩, fun P hP => ⟨_, hY P hP⟩⟩
  obtain ⟨_, _, _, _, _, _, _, _, _, _, _, _, _, _, _, _, _, _, _, _, _, _, _, _, _, _, _, _, rfl, rfl, -⟩ := I
  by_cases z1 : 1 ≤ v1
  · by_cases z2 : v1 ≤ 1000
    · obtain ⟨j, hj, rfl⟩ := nI_of2 (x := v1) (M := 1000) (n := 1000) (by decide) (fun w => by exact absurd (Int32.lt_of_le_of_lt z1 w) (by decide)) z2
      obtain ⟨r, u', v', R, hX, hY⟩ := main j hj
      unfold wpX_run
      exact br_t z1 (br_t z2 (hX _ (br_t z1 (br_t z2 (hY _ ⟨rfl, R⟩)))))
    · obtain ⟨r, u', v', R, hX, hY⟩ := main 1000 (by omega)
      unfold wpX_run
      exact br_t z1 (br_f z2 (hX _ (br_t z1 (br_f z2 (hY _ ⟨rfl, R⟩)))))
  · obtain ⟨r, u', v', R, hX, hY⟩ := main 1 (by omega)
    unfold wpX_run
    exact br_f z1 (hX _ (br_f z1 (hY _ ⟨rfl, R⟩)))
