section
variable {mc md cl lc cu h B mp mL : Nat} {st rt lh rd re : Int32} {D : Nat → Prop} {oo oa ob oc lg rg tg : Nat → Int32} {hd d s lv rs bd yr p q n m : Nat → Nat} {c r t x a b : Nat} {l L : List Nat}
theorem qz_318 {L' : Nat} {xs : Nat → Int32} (hL : L' ≤ 260) {kc ks j k : Nat} {w : Int64} (K : qc_K mc md cl lc h j oo oa ob oc lv bd) (I : qc_I mc md oo oa ob d s lv rs yr p q n m (c :: l)) (Z : qz_Z hd lv d p h mp mL (qz_D w) (c :: l)) (M : qz_M mL cl oo) (MC : qz_MC L' xs mL oo oa ob) (hj : j < 300) (hm24 : mL ≤ 24)
    (b0 : w.toBitVec.getLsbD 0 = false) (c0 : c = 0) (hmp : mp < mL) (hk : qz_kd L' xs mp = 1 ∨ qz_kd L' xs mp = 7 ∨ qz_kd L' xs mp = 2)
    (H : ∀ (mp' : Nat) (u' : St2) (w' : Int64), w'.toBitVec.getLsbD 0 = false → qz_R mc cl oo oa ob oc (j + 1) mp' mL (qz_D w') u' → qz_WL L' xs mc mL kc ks k w' mp' (j + 1) u') :
    wL_law_318 (fun r => r = 1) L' xs (wL_law_238 (fun r => r = 1) L' xs (nI mc) (nI mL) kc ks k) (nI mc) w (nI mL) (nI mp) (nI j) 1 (nI (qz_kd L' xs mp)) kc ks (nI mc) (nI md) (nI cl) (nI lc) 1 0 (nI c) (nI h) 0 re oo oa ob oc lg (fun zz => nI (hd zz)) (fun zz => nI (s zz)) (fun zz => nI (rs zz)) (fun zz => nI (bd zz)) (fun zz => nI (d zz)) (fun zz => nI (p zz)) (fun zz => nI (n zz)) rg tg := by
  obtain ⟨d1, p0, -⟩ := Z.2.2 (by simp)
  have f0 : (c * 6 + d c - 1) = 0 := by rw [c0, d1]
  have hp : p (c * 6 + d c - 1) = mp := by rw [f0]; exact p0
  have hmL : c = 0 → mp + 1 ≤ mL := fun _ => by omega
  have e : qz_mp c mp = mp + 1 := if_pos c0
  have hx : mp < cl := by have := M.1; omega
  have h8 : qz_hb L' xs mp < 8 := by rcases qz_hb8 L' xs mp with w | w <;> omega
  have xx : ((1 : Int32) = 0 → nI mp = nI (qz_mp c mp)) ∧ (¬ (1 : Int32) = 0 → nI mp + 1 = nI (qz_mp c mp)) := ⟨fun z => absurd z (by decide), fun _ => by rw [e, nI_1]⟩
  obtain ⟨u', R', W⟩ := qz_run1 (re := re) (lg := lg) (rg := rg) (tg := tg) K I Z (by omega) M
  have no : wL_law_361 (fun r => r = 1) L' xs (wL_law_238 (fun r => r = 1) L' xs (nI mc) (nI mL) kc ks k) (nI mc) w (nI mL) (nI mp) (nI j) 1 (nI (qz_kd L' xs mp)) kc ks (nI mc) (nI md) (nI cl) (nI lc) 1 0 (nI c) (nI h) 0 re oo oa ob oc lg (fun zz => nI (hd zz)) (fun zz => nI (s zz)) (fun zz => nI (rs zz)) (fun zz => nI (bd zz)) (fun zz => nI (d zz)) (fun zz => nI (p zz)) (fun zz => nI (n zz)) rg tg := by
    unfold wL_law_361 wL_law_362 wL_law_364
    exact qz_364 R' (by omega) b0 W xx (.inl rfl) (H _ u')
  unfold wL_law_318
  refine qz_hw _ (by omega) hL ?_
  refine qz_gr _ h8 d1 ?_
  refine br_c (fun _ => no) (fun z1 => br_c (fun _ => no) (fun z2 => br_c (fun _ => no) (fun z3 => ?_)))
  have z0 : ¬ rg (qz_hb L' xs mp) < 0 := fun y => z1 (Int32.lt_trans y (by decide))
  obtain ⟨jj, hjj, hj'⟩ := nI_of z0
  rw [hj'] at z1 z2 z3
  have j1 : 1 ≤ jj := by
    by_cases y : jj < 1
    · exact absurd (nI_lt (b := 1) y (by decide)) z1
    · omega
  have j2 : jj ≤ 62 := by
    by_cases y : 62 < jj
    · exact absurd (nI_lt (a := 62) y hjj) z2
    · omega
  have dj : qz_D w jj := by
    refine ⟨j1, j2, ?_⟩
    by_cases y : w.toBitVec.getLsbD jj = true
    · exact y
    · exact absurd ((qz_bit w (by omega)).mpr (Bool.eq_false_iff.mpr y)) z3
  have F := K.2.2.2.2.2.1 mp hx
  unfold wL_law_362 wL_law_364
  have hk' : (qz_kd L' xs mp = 1 ∨ qz_kd L' xs mp = 7) ∨ qz_kd L' xs mp = 2 := by omega
  rcases hk' with hk | hk
  · obtain ⟨ho, ha, hb⟩ := (MC mp hmp).1 hk
    have h2 : ¬ nI (qz_kd L' xs mp) = 2 := by rcases hk with e | e <;> rw [e] <;> decide
    rw [ho] at F
    obtain ⟨-, -, g, g8, hc⟩ := (qc_F13 _ _ _).mp F
    obtain ⟨u2, R2, v2, W2⟩ := qz_pr13 (re := re) (lg := lg) (rg := rg) (tg := tg) K I hp hx Z hmL c0 ho ha hb h8 hc g8 j1 j2 hj' dj (by omega)
    exact qz_364 R2 (by omega) b0 W2 xx (.inr (.inr ⟨h2, v2⟩)) (H _ u2)
  · obtain ⟨ho, ha, hb⟩ := (MC mp hmp).2 hk
    rw [ho] at F
    obtain ⟨-, -, g, g8, hc⟩ := (qc_F14 _ _ _).mp F
    obtain ⟨u2, R2, v2, W2⟩ := qz_pr14 (re := re) (lg := lg) (rg := rg) (tg := tg) K I hp hx Z hmL c0 ho ha hb h8 hc g8 j1 j2 hj' dj (by omega)
    exact qz_364 R2 (by omega) b0 W2 xx (.inr (.inl ⟨by rw [hk]; rfl, v2⟩)) (H _ u2)
theorem qz_loop {L' : Nat} {xs : Nat → Int32} (hL : L' ≤ 260) {kc ks : Nat} (M : qz_M mL cl oo) (MC : qz_MC L' xs mL oo oa ob) (hm24 : mL ≤ 24) :
    ∀ (k j mp : Nat) (w : Int64) (u : St2), j + k = 300 → w.toBitVec.getLsbD 0 = false → qz_R mc cl oo oa ob oc j mp mL (qz_D w) u → qz_WL L' xs mc mL kc ks (k + 1) w mp j u := by
  intro k
  induction k with
  | zero =>
    intro j mp w u hj b0 R
    obtain ⟨_, _, _, _, _, _, _, _, _, _, _, _, _, _, _, _, _, _, _, _, _, _, rfl, -⟩ := R
    exact br_t (nI_le (a := 300) (by omega) (by omega)) rfl
  | succ k ih =>
    intro j mp w u hj b0 R
    obtain ⟨md, lc, cu, h, st, rt, re, lg, rg, tg, hd, d, s, lv, rs, bd, yr, p, q, n, m, L, rfl, K, S, C, I, Z⟩ := R
    refine br_f (nI_ge (b := 300) (by omega) (by decide)) ?_
    cases L with
    | nil =>
      have hs : ¬ st = 1 := by
        rcases S with S | S | S
        · exact absurd rfl S.2.2
        · rw [S.1]; decide
        · rcases S.1 with e | e <;> rw [e] <;> decide
      exact br_f hs rfl
    | cons c l =>
      have hcc : cu = c := C.1 c l rfl
      subst hcc
      obtain ⟨rfl, rfl⟩ : st = 1 ∧ rt = 0 := by
        rcases S with S | S | S
        · exact ⟨S.1, S.2.1⟩
        · exact absurd S.2.2 (by simp)
        · exact absurd S.2 (by simp)
      have c5 : cu < 5 := I.2.2.1 cu List.mem_cons_self
      have mple := (Z.2.2 (by simp)).2.2
      have H : ∀ (mp' : Nat) (u' : St2) (w' : Int64), w'.toBitVec.getLsbD 0 = false → qz_R mc cl oo oa ob oc (j + 1) mp' mL (qz_D w') u' → qz_WL L' xs mc mL kc ks (k + 1) w' mp' (j + 1) u' := fun mp' u' w' b' R' => ih (j + 1) mp' w' u' (by omega) b' R'
      refine br_t rfl (br_t rfl ⟨vp_in_nI c5 (by decide), ?_⟩)
      rw [qc_rd hd rfl (by omega)]
      obtain ⟨u', R', W⟩ := qz_run1 (re := re) (lg := lg) (rg := rg) (tg := tg) K I Z (by omega) M
      by_cases c0 : cu = 0
      · have e : qz_mp cu mp = mp + 1 := if_pos c0
        have xx : ((1 : Int32) = 0 → nI mp = nI (qz_mp cu mp)) ∧ (¬ (1 : Int32) = 0 → nI mp + 1 = nI (qz_mp cu mp)) := ⟨fun z => absurd z (by decide), fun _ => by rw [e, nI_1]⟩
        refine br_t (by rw [c0, Z.1.1]; rfl) (br_f (by decide) ?_)
        by_cases z : mL ≤ mp
        · refine br_t (nI_le z (by omega)) ?_
          unfold wL_law_364
          exact qz_364 R' (by omega) b0 W xx (.inl rfl) (H _ u')
        · refine br_f (nI_ge (by omega) (by omega)) ?_
          refine qz_kw _ (by omega) hL ?_
          have kl : qz_kd L' xs mp < 8 := Nat.mod_lt _ (by decide)
          by_cases k1 : qz_kd L' xs mp = 1
          · exact br_t (by rw [k1]; rfl) (qz_318 hL K I Z M MC (by omega) hm24 b0 c0 (by omega) (.inl k1) H)
          · refine br_f (fun y => k1 ((nI_eq (b := 1) (by omega) (by decide)).mp y)) ?_
            by_cases k2 : qz_kd L' xs mp = 2
            · exact br_t (by rw [k2]; rfl) (qz_318 hL K I Z M MC (by omega) hm24 b0 c0 (by omega) (.inr (.inr k2)) H)
            · refine br_f (fun y => k2 ((nI_eq (b := 2) (by omega) (by decide)).mp y)) ?_
              by_cases k7 : qz_kd L' xs mp = 7
              · exact br_t (by rw [k7]; rfl) (qz_318 hL K I Z M MC (by omega) hm24 b0 c0 (by omega) (.inr (.inl k7)) H)
              · refine br_f (fun y => k7 ((nI_eq (b := 7) (by omega) (by decide)).mp y)) ?_
                unfold wL_law_364
                exact qz_364 R' (by omega) b0 W xx (.inl rfl) (H _ u')
      · have e : qz_mp cu mp = mp := if_neg c0
        have hc1 := Z.1.2.1 cu c0 c5 (I.2.2.2.2.1.2.2.2.1 c0)
        have hjB : h ≤ j := K.2.2.2.2.1
        refine br_f (fun y => by have := (nI_eq (b := 0) (by omega) (by decide)).mp y; omega) (br_t rfl ?_)
        unfold wL_law_364
        exact qz_364 R' (by omega) b0 W ⟨fun _ => by rw [e], fun z => absurd rfl z⟩ (.inl rfl) (H _ u')
end
