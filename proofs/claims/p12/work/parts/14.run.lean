def qz_M (mL cl : Nat) (oo : Nat → Int32) : Prop := mL < cl ∧ oo mL = 8 ∧ ∀ i, i < mL → oo i = 0 ∨ oo i = 1 ∨ oo i = 12 ∨ oo i = 13 ∨ oo i = 14 ∨ oo i = 16 ∨ oo i = 17
section
variable {mc md cl lc cu h B mp mL : Nat} {st rt lh rd re : Int32} {D : Nat → Prop} {oo oa ob oc lg rg tg : Nat → Int32} {hd d s lv rs bd yr p q n m : Nat → Nat} {c r t x a b : Nat} {l L : List Nat}
theorem qz_step (K : qc_K mc md cl lc h B oo oa ob oc lv bd) (I : qc_I mc md oo oa ob d s lv rs yr p q n m (c :: l)) (Z : qz_Z hd lv d p h mp mL D (c :: l)) (hB : B < 2147483647) (M : qz_M mL cl oo) :
    qz_Out mc cl oo oa ob oc B (qz_mp c mp) mL D (nI mc, nI md, nI cl, nI lc, 1, 0, nI c, nI h, 0, re, oo, oa, ob, oc, lg, (fun zz => nI (hd zz)), (fun zz => nI (s zz)), (fun zz => nI (rs zz)), (fun zz => nI (bd zz)), (fun zz => nI (d zz)), (fun zz => nI (p zz)), (fun zz => nI (n zz)), rg, tg) := by
  generalize hp : p (c * 6 + d c - 1) = x
  have hc : c = 0 → x = mp ∧ ((x < mL ∧ (oo x = 0 ∨ oo x = 1 ∨ oo x = 12 ∨ oo x = 13 ∨ oo x = 14 ∨ oo x = 16 ∨ oo x = 17)) ∨ (x = mL ∧ oo x = 8)) := by
    intro z
    obtain ⟨d1, p0, le⟩ := Z.2.2 (by simp)
    have e : (c * 6 + d c - 1) = 0 := by rw [z, d1]
    rw [e, p0] at hp
    refine ⟨hp.symm, ?_⟩
    by_cases w : x < mL
    · exact .inl ⟨w, M.2.2 x w⟩
    · have e2 : x = mL := by omega
      exact .inr ⟨e2, by rw [e2]; exact M.2.1⟩
  by_cases hx : x < cl
  · rcases K.2.2.2.2.2.1 x hx with ⟨ho, ⟨a, a8, ha⟩⟩ | ⟨ho, ⟨a, a8, ha⟩, ⟨b, b8, hb⟩⟩ | ⟨ho, ⟨a, a8, ha⟩, ⟨b, b8, hb⟩, ⟨g, g8, hg⟩⟩ | ⟨ho, ⟨a, a8, ha⟩⟩ | ⟨ho, ⟨a, a8, ha⟩, ⟨b, b6, hb⟩⟩ | ⟨ho, ⟨a, a8, ha⟩, ⟨b, b6, hb⟩, ⟨g, g8, hg⟩⟩
    · rcases ho with ho | ho | ho | ho | ho | ho
      · exact qc_o0 K I hp hx Z (fun z => by obtain ⟨e, w⟩ := hc z; rcases w with ⟨w, _⟩ | ⟨_, w⟩; exact (by omega); exact absurd (ho.symm.trans w) (by decide)) ho ha a8
      · exact qc_o8 K I hp hx Z ho ha a8
      · exact qc_o9 K I hp hx Z (fun z => by rcases (hc z).2 with ⟨_, w | w | w | w | w | w | w⟩ | ⟨_, w⟩ <;> exact absurd (ho.symm.trans w) (by decide)) ho ha a8
      · exact qc_o10 K I hp hx Z (fun z => by rcases (hc z).2 with ⟨_, w | w | w | w | w | w | w⟩ | ⟨_, w⟩ <;> exact absurd (ho.symm.trans w) (by decide)) ho ha a8
      · exact qc_o11 K I hp hx Z (fun z => by rcases (hc z).2 with ⟨_, w | w | w | w | w | w | w⟩ | ⟨_, w⟩ <;> exact absurd (ho.symm.trans w) (by decide)) ho ha a8
      · exact qc_o18 K I hp hx Z (fun z => by rcases (hc z).2 with ⟨_, w | w | w | w | w | w | w⟩ | ⟨_, w⟩ <;> exact absurd (ho.symm.trans w) (by decide)) ho ha a8
    · rcases ho with ho | ho | ho | ho
      · exact qc_o1 K I hp hx Z (fun z => by obtain ⟨e, w⟩ := hc z; rcases w with ⟨w, _⟩ | ⟨_, w⟩; exact (by omega); exact absurd (ho.symm.trans w) (by decide)) ho ha a8 hb b8
      · exact qc_o15 K I hp hx Z (fun z => by rcases (hc z).2 with ⟨_, w | w | w | w | w | w | w⟩ | ⟨_, w⟩ <;> exact absurd (ho.symm.trans w) (by decide)) ho ha a8 hb b8
      · exact qc_o16 K I hp hx Z (fun z => by obtain ⟨e, w⟩ := hc z; rcases w with ⟨w, _⟩ | ⟨_, w⟩; exact (by omega); exact absurd (ho.symm.trans w) (by decide)) ho ha a8 hb b8
      · exact qc_o17 K I hp hx Z (fun z => by obtain ⟨e, w⟩ := hc z; rcases w with ⟨w, _⟩ | ⟨_, w⟩; exact (by omega); exact absurd (ho.symm.trans w) (by decide)) ho ha a8 hb b8
    · rcases ho with ho | ho | ho | ho | ho
      · exact qc_o2 K I hp hx Z (fun z => by rcases (hc z).2 with ⟨_, w | w | w | w | w | w | w⟩ | ⟨_, w⟩ <;> exact absurd (ho.symm.trans w) (by decide)) ho ha a8 hb b8 hg g8
      · exact qc_o3 K I hp hx Z (fun z => by rcases (hc z).2 with ⟨_, w | w | w | w | w | w | w⟩ | ⟨_, w⟩ <;> exact absurd (ho.symm.trans w) (by decide)) ho ha a8 hb b8 hg g8
      · exact qc_o4 K I hp hx Z (fun z => by rcases (hc z).2 with ⟨_, w | w | w | w | w | w | w⟩ | ⟨_, w⟩ <;> exact absurd (ho.symm.trans w) (by decide)) ho ha a8 hb b8 hg g8
      · exact qc_o13 K I hp hx Z (fun z => by obtain ⟨e, w⟩ := hc z; rcases w with ⟨w, _⟩ | ⟨_, w⟩; exact (by omega); exact absurd (ho.symm.trans w) (by decide)) ho ha a8 hb b8 hg g8
      · exact qc_o14 K I hp hx Z (fun z => by obtain ⟨e, w⟩ := hc z; rcases w with ⟨w, _⟩ | ⟨_, w⟩; exact (by omega); exact absurd (ho.symm.trans w) (by decide)) ho ha a8 hb b8 hg g8
    · exact qc_o5 K I hp hx Z (fun z => by rcases (hc z).2 with ⟨_, w | w | w | w | w | w | w⟩ | ⟨_, w⟩ <;> exact absurd (ho.symm.trans w) (by decide)) ho ha a8
    · rcases ho with ho | ho
      · exact qc_o6 K I hp hx Z (fun z => by rcases (hc z).2 with ⟨_, w | w | w | w | w | w | w⟩ | ⟨_, w⟩ <;> exact absurd (ho.symm.trans w) (by decide)) ho ha a8 hb b6
      · exact qc_o12 K I hp hx Z (fun z => by obtain ⟨e, w⟩ := hc z; rcases w with ⟨w, _⟩ | ⟨_, w⟩; exact (by omega); exact absurd (ho.symm.trans w) (by decide)) hB ho ha a8 hb b6
    · exact qc_o7 K I hp hx Z (fun z => by rcases (hc z).2 with ⟨_, w | w | w | w | w | w | w⟩ | ⟨_, w⟩ <;> exact absurd (ho.symm.trans w) (by decide)) ho ha a8 hb b6 hg g8
  · have c0 : c ≠ 0 := fun z => by
      have h1 := hc z
      have h2 := M.1
      omega
    exact qc_bad K I hp (by omega) Z c0
theorem qz_run1 (K : qc_K mc md cl lc h B oo oa ob oc lv bd) (I : qc_I mc md oo oa ob d s lv rs yr p q n m (c :: l)) (Z : qz_Z hd lv d p h mp mL D (c :: l)) (hB : B < 2147483647) (M : qz_M mL cl oo) :
    ∃ u' : St2, qz_R mc cl oo oa ob oc (B + 1) (qz_mp c mp) mL D u' ∧ ∀ P : Int32 → St2 → Prop, P 1 u' → wpX_run P (nI mc, nI md, nI cl, nI lc, 1, 0, nI c, nI h, 0, re, oo, oa, ob, oc, lg, (fun zz => nI (hd zz)), (fun zz => nI (s zz)), (fun zz => nI (rs zz)), (fun zz => nI (bd zz)), (fun zz => nI (d zz)), (fun zz => nI (p zz)), (fun zz => nI (n zz)), rg, tg) 1 := by
  rcases qz_step (re := re) (lg := lg) (rg := rg) (tg := tg) K I Z hB M with ⟨u1, R1, X1⟩ | ⟨u1, c1, e1, Q1, X1⟩
  · refine ⟨u1, R1, fun P hP => ?_⟩
    obtain ⟨_, _, _, _, _, _, _, _, _, _, _, _, _, _, _, _, _, _, _, _, _, _, rfl, -⟩ := R1
    unfold wpX_run
    exact br_t (by decide) (br_t (by decide) ⟨2, br_f (by decide) (br_t rfl (X1 _ (br_t rfl (nm_r (e' := 1) rfl (br_t (by decide) hP)))))⟩)
  · obtain ⟨u2, R2, X2⟩ := qz_settle Q1
    refine ⟨u2, R2, fun P hP => ?_⟩
    obtain ⟨_, _, _, _, _, _, _, _, _, _, _, _, _, _, _, _, _, _, _, _, _, _, rfl, -⟩ := R2
    obtain ⟨_, _, _, _, _, _, _, _, _, _, _, _, _, _, _, _, _, _, rfl, -⟩ := Q1
    unfold wpX_run
    exact br_t (by decide) (br_t (by decide) ⟨2, br_f (by decide) (br_t rfl (X1 _ (br_f (by decide) (X2 _ (nm_r (e' := 1) rfl (br_t (by decide) hP))))))⟩)
end
