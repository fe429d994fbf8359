section
variable {mc md : Nat} {oo oa ob : Nat → Int32} {d s lv rs yr p q n m : Nat → Nat} {c r t x b : Nat} {l : List Nat}
theorem qc_uf {p : Nat → Nat} {f v t i c : Nat} (h1 : c * 6 ≤ f) (h2 : f < c * 6 + 6) (ht : t ≠ c) (hl : i < 6) : qc_u p f v (t * 6 + i) = p (t * 6 + i) := qc_uo (by omega)
theorem qc_uu (d : Nat → Nat) (k x y : Nat) : qc_u (qc_u d k x) k y = qc_u d k y := by
  funext j
  by_cases h : j = k
  · rw [h, qc_us, qc_us]
  · rw [qc_uo h, qc_uo h, qc_uo h]
theorem qc_tr_pc (hm : md ≤ 6) (I : qc_I mc md oo oa ob d s lv rs yr p q n m (c :: l)) (hx : x ≤ 64) :
    qc_I mc md oo oa ob d s lv rs yr (qc_u p (c * 6 + d c - 1) x) (qc_u q (c * 6 + d c - 1) x) n m (c :: l) := by
  obtain ⟨h1, h2, h3, h4, h5⟩ := I.2.2.2.2.1
  refine qc_I_hd hm (qc_J_of I) (fun t t5 ht => ⟨rfl, rfl, rfl, rfl, fun i hi => ⟨?_, ?_, rfl, rfl⟩⟩) ⟨h1, h2, h3, h4, fun i hi => ?_⟩
  · exact qc_uf (by omega) (by omega) ht hi
  · exact qc_uf (by omega) (by omega) ht hi
  · by_cases z : i = d c - 1
    · have e : c * 6 + i = c * 6 + d c - 1 := by omega
      have h := h5 i hi
      rw [e] at h ⊢
      rw [qc_us, qc_us]
      exact ⟨rfl, hx, h.2.2.1, h.2.2.2.1, fun y => by omega⟩
    · rw [qc_uo (by omega), qc_uo (by omega)]
      exact h5 i hi
theorem qc_tr_j (hm : md ≤ 6) (I : qc_I mc md oo oa ob d s lv rs yr p q n m (c :: l)) :
    qc_J mc md oo oa ob d s lv rs yr (qc_u p (c * 6 + d c - 1) x) q n m (c :: l) := by
  obtain ⟨h1, h2, h3, h4, h5⟩ := I.2.2.2.2.1
  refine qc_J_hd hm (qc_J_of I) (fun t t5 ht => ⟨rfl, rfl, rfl, rfl, fun i hi => ⟨?_, rfl, rfl, rfl⟩⟩) ⟨h1, h2, h3, h4, qc_Tw_of h5⟩
  exact qc_uf (by omega) (by omega) ht hi
theorem qc_tr_call (hm : md ≤ 6) (I : qc_I mc md oo oa ob d s lv rs yr p q n m (c :: l)) (hd : d c < md) (hx : qc_RA oa x) (hb : b ≤ 64) :
    qc_I mc md oo oa ob (qc_u d c (d c + 1)) s lv rs yr (qc_u (qc_u p (c * 6 + d c - 1) x) (c * 6 + d c) b) (qc_u (qc_u q (c * 6 + d c - 1) x) (c * 6 + d c) b)
      (qc_u n (c * 6 + d c) 0) (qc_u m (c * 6 + d c) 0) (c :: l) := by
  obtain ⟨h1, h2, h3, h4, h5⟩ := I.2.2.2.2.1
  refine qc_I_hd hm (qc_J_of I) (fun t t5 ht => ⟨qc_uo ht, rfl, rfl, rfl, fun i hi => ⟨?_, ?_, ?_, ?_⟩⟩) ⟨?_, ?_, h3, h4, fun i hi => ?_⟩
  · rw [qc_uf (c := c) (by omega) (by omega) ht hi, qc_uf (c := c) (by omega) (by omega) ht hi]
  · rw [qc_uf (c := c) (by omega) (by omega) ht hi, qc_uf (c := c) (by omega) (by omega) ht hi]
  · exact qc_uf (by omega) (by omega) ht hi
  · exact qc_uf (by omega) (by omega) ht hi
  · rw [qc_us]; omega
  · rw [qc_us]; omega
  · rw [qc_us] at hi ⊢
    by_cases z : i = d c
    · rw [z, qc_us, qc_us, qc_us, qc_us]
      exact ⟨rfl, hb, rfl, by omega, fun y => by omega⟩
    · rw [qc_uo (k := c * 6 + d c) (by omega), qc_uo (k := c * 6 + d c) (by omega), qc_uo (k := c * 6 + d c) (by omega), qc_uo (k := c * 6 + d c) (by omega)]
      by_cases y : i = d c - 1
      · have e : c * 6 + i = c * 6 + d c - 1 := by omega
        have h := h5 i (by omega)
        rw [e] at h ⊢
        rw [qc_us, qc_us]
        exact ⟨rfl, hx.2.1, h.2.2.1, h.2.2.2.1, fun _ => hx⟩
      · rw [qc_uo (by omega), qc_uo (by omega)]
        have h := h5 i (by omega)
        exact ⟨h.1, h.2.1, h.2.2.1, h.2.2.2.1, fun _ => h.2.2.2.2 (by omega)⟩
theorem qc_tr_ret1 (hm : md ≤ 6) (I : qc_I mc md oo oa ob d s lv rs yr p q n m (c :: l)) (hd : 1 < d c) :
    qc_I mc md oo oa ob (qc_u d c (d c - 1)) s lv rs yr (qc_u p (c * 6 + d c - 1) x) q n (qc_u m (c * 6 + d c - 1) 0) (c :: l) := by
  obtain ⟨h1, h2, h3, h4, h5⟩ := I.2.2.2.2.1
  refine qc_I_hd hm (qc_J_of I) (fun t t5 ht => ⟨qc_uo ht, rfl, rfl, rfl, fun i hi => ⟨?_, rfl, rfl, ?_⟩⟩) ⟨?_, ?_, h3, h4, fun i hi => ?_⟩
  · exact qc_uf (by omega) (by omega) ht hi
  · exact qc_uf (by omega) (by omega) ht hi
  · rw [qc_us]; omega
  · rw [qc_us]; omega
  · rw [qc_us] at hi ⊢
    rw [qc_uo (k := c * 6 + d c - 1) (by omega), qc_uo (k := c * 6 + d c - 1) (by omega)]
    have h := h5 i (by omega)
    exact ⟨h.1, h.2.1, h.2.2.1, h.2.2.2.1, fun y => h.2.2.2.2 (by omega)⟩
theorem qc_tr_ret2 (hm : md ≤ 6) (I : qc_I mc md oo oa ob d s lv rs yr p q n m (c :: r :: l)) (hd : d c = 1) :
    qc_I mc md oo oa ob (qc_u d c (d c - 1)) (qc_u (qc_u s c 3) r 1) (qc_u lv c 0) rs yr (qc_u p (c * 6 + d c - 1) x) q n (qc_u m (c * 6 + d c - 1) 0) (r :: l) := by
  have hc : c ∉ r :: l := (List.nodup_cons.mp I.2.1).1
  have hcr : c ≠ r := fun z => hc (by rw [z]; exact List.mem_cons_self)
  refine qc_I_lv hm (qc_J_of I) (fun t t5 ht hr => ⟨qc_uo ht, ?_, qc_uo ht, rfl, fun i hi => ⟨?_, rfl, rfl, ?_⟩⟩) ⟨qc_uo hcr.symm, qc_uo hcr.symm, fun i hi => ⟨?_, rfl, rfl, ?_⟩⟩ (qc_us _ _ _) (.inl ⟨?_, qc_us _ _ _, ?_⟩)
  · rw [qc_uo hr, qc_uo ht]
  · exact qc_uf (by omega) (by omega) ht hi
  · exact qc_uf (by omega) (by omega) ht hi
  · exact qc_uf (by omega) (by omega) hcr.symm hi
  · exact qc_uf (by omega) (by omega) hcr.symm hi
  · rw [qc_uo hcr, qc_us]
  · rw [qc_us]; omega
theorem qc_tr_ret3 (hm : md ≤ 6) (I : qc_I mc md oo oa ob d s lv rs yr p q n m [0]) (h0 : lv 0 = 0) (hd : d 0 = 1) :
    qc_I mc md oo oa ob (qc_u d 0 (d 0 - 1)) (qc_u s 0 3) lv rs yr (qc_u p (0 * 6 + d 0 - 1) x) q n (qc_u m (0 * 6 + d 0 - 1) 0) [] := by
  refine qc_I_end hm (qc_J_of I) (fun t t5 ht => ⟨qc_uo ht, qc_uo ht, rfl, rfl, fun i hi => ⟨?_, rfl, rfl, ?_⟩⟩) (.inl ⟨qc_us _ _ _, h0, ?_⟩)
  · exact qc_uf (c := 0) (by omega) (by omega) ht hi
  · exact qc_uf (c := 0) (by omega) (by omega) ht hi
  · rw [qc_us]; omega
theorem qc_tr_yield (hm : md ≤ 6) (I : qc_I mc md oo oa ob d s lv rs yr p q n m (c :: r :: l)) (hx : 1 ≤ x) (hx' : x ≤ 64) (hb : b < 8) (he : ob (x - 1) = nI b) :
    qc_I mc md oo oa ob d (qc_u (qc_u s c 0) r 1) lv rs (qc_u yr c b) (qc_u p (c * 6 + d c - 1) x) (qc_u q (c * 6 + d c - 1) x) n m (r :: l) := by
  have hc : c ∉ r :: l := (List.nodup_cons.mp I.2.1).1
  have hcr : c ≠ r := fun z => hc (by rw [z]; exact List.mem_cons_self)
  have I' := qc_tr_pc hm I hx'
  obtain ⟨h1, h2, h3, h4, h5⟩ := I'.2.2.2.2.1
  refine qc_I_lv hm (qc_J_of I') (fun t t5 ht hr => ⟨rfl, ?_, rfl, qc_uo ht, fun i hi => ⟨rfl, rfl, rfl, rfl⟩⟩) ⟨rfl, rfl, fun i hi => ⟨rfl, rfl, rfl, rfl⟩⟩ (qc_us _ _ _) (.inr ⟨I.1.1, ?_, h4 I.1.1, h2, h5, fun _ => ?_⟩)
  · rw [qc_uo hr, qc_uo ht]
  · rw [qc_uo hcr, qc_us]
  · rw [qc_us, qc_us]
    exact ⟨hx, hb, he⟩
theorem qc_tr_raise (hm : md ≤ 6) (I : qc_J mc md oo oa ob d s lv rs yr p q n m (c :: r :: l)) :
    qc_I mc md oo oa ob (qc_u d c 0) (qc_u (qc_u s c 3) r 1) (qc_u lv c 0) rs yr p q n (qc_mz c (d c) m) (r :: l) := by
  have hc : c ∉ r :: l := (List.nodup_cons.mp I.2.1).1
  have hcr : c ≠ r := fun z => hc (by rw [z]; exact List.mem_cons_self)
  have hd : d c ≤ md := I.2.2.2.2.1.2.1
  refine qc_I_lv hm I (fun t t5 ht hr => ⟨qc_uo ht, ?_, qc_uo ht, rfl, fun i hi => ⟨rfl, rfl, rfl, ?_⟩⟩) ⟨qc_uo hcr.symm, qc_uo hcr.symm, fun i hi => ⟨rfl, rfl, rfl, ?_⟩⟩ (qc_us _ _ _) (.inl ⟨?_, qc_us _ _ _, qc_us _ _ _⟩)
  · rw [qc_uo hr, qc_uo ht]
  · exact qc_mz_o _ _ (fun k hk => by omega)
  · exact qc_mz_o _ _ (fun k hk => by omega)
  · rw [qc_uo hcr, qc_us]
theorem qc_tr_raise0 (hm : md ≤ 6) (I : qc_J mc md oo oa ob d s lv rs yr p q n m [0]) (h0 : lv 0 = 0) :
    qc_I mc md oo oa ob (qc_u d 0 0) (qc_u s 0 3) lv rs yr p q n (qc_mz 0 (d 0) m) [] := by
  have hd : d 0 ≤ md := I.2.2.2.2.1.2.1
  refine qc_I_end hm I (fun t t5 ht => ⟨qc_uo ht, qc_uo ht, rfl, rfl, fun i hi => ⟨rfl, rfl, rfl, ?_⟩⟩) (.inl ⟨qc_us _ _ _, h0, qc_us _ _ _⟩)
  exact qc_mz_o _ _ (fun k hk => by omega)
theorem qc_tr_N (hm : md ≤ 6) (I : qc_I mc md oo oa ob d s lv rs yr p q n m (c :: l)) (hx : qc_RA oa x) (ho : oo (x - 1) = 13 ∨ oo (x - 1) = 14) {s' : Nat → Nat} (hs : s' c = 2) :
    qc_N md oo oa d s' lv (qc_u p (c * 6 + d c - 1) x) (qc_u q (c * 6 + d c - 1) x) n m c := by
  obtain ⟨h1, h2, h3, h4, h5⟩ := (qc_tr_pc hm I hx.2.1).2.2.2.2.1
  refine ⟨h1, h2, hs, h4, h5, ?_, ?_⟩
  · rw [qc_us]; exact hx
  · rw [qc_us]; exact ho
theorem qc_tr_en1 (hm : md ≤ 6) (h1m : 1 ≤ md) (I : qc_I mc md oo oa ob d s lv rs yr p q n m (c :: l)) (hx : qc_RA oa x) (ho : oo (x - 1) = 13 ∨ oo (x - 1) = 14)
    (t5 : t < 5) (ht : t ∉ c :: l) (hs : s t = 0) (hd : d t = 0) (hb : b ≤ 64) :
    qc_I mc md oo oa ob (qc_u d t (d t + 1)) (qc_u (qc_u s c 2) t 1) lv (qc_u rs t c) yr (qc_u (qc_u p (c * 6 + d c - 1) x) (t * 6 + d t) b) (qc_u (qc_u q (c * 6 + d c - 1) x) (t * 6 + d t) b)
      (qc_u n (t * 6 + d t) 0) (qc_u m (t * 6 + d t) 0) (t :: c :: l) := by
  have htc : t ≠ c := fun z => ht (by rw [z]; exact List.mem_cons_self)
  have I' := qc_tr_pc hm I hx.2.1
  rcases I.2.2.2.2.2.2 t t5 ht with o | ⟨t0, o1, o2, o3, o4, o5⟩
  · omega
  refine qc_I_en hm I' t5 t0 ht (fun y y5 hc hy => ⟨qc_uo hy, ?_, rfl, rfl, fun i hi => ⟨?_, ?_, ?_, ?_⟩⟩) ?_ ⟨?_, ?_, qc_us _ _ _, fun _ => o2, fun i hi => ?_⟩
  · rw [qc_uo hy, qc_uo hc]
  · exact qc_uf (by omega) (by omega) hy hi
  · exact qc_uf (by omega) (by omega) hy hi
  · exact qc_uf (by omega) (by omega) hy hi
  · exact qc_uf (by omega) (by omega) hy hi
  · refine qc_N_c hm (s := qc_u (qc_u s c 2) t 1) (yr := yr) (yr' := yr) ⟨qc_uo htc.symm, rfl, rfl, rfl, fun i hi => ⟨?_, ?_, ?_, ?_⟩⟩ (qc_tr_N hm I hx ho ?_)
    · exact qc_uf (by omega) (by omega) htc.symm hi
    · exact qc_uf (by omega) (by omega) htc.symm hi
    · exact qc_uf (by omega) (by omega) htc.symm hi
    · exact qc_uf (by omega) (by omega) htc.symm hi
    · rw [qc_uo htc.symm, qc_us]
  · rw [qc_us]; omega
  · rw [qc_us]; omega
  · rw [qc_us] at hi ⊢
    have e : i = d t := by omega
    rw [e, qc_us, qc_us, qc_us, qc_us]
    exact ⟨rfl, hb, rfl, by omega, fun y => by omega⟩
theorem qc_tr_en2 (hm : md ≤ 6) (I : qc_I mc md oo oa ob d s lv rs yr p q n m (c :: l)) (hx : qc_RA oa x) (ho : oo (x - 1) = 13 ∨ oo (x - 1) = 14)
    (t5 : t < 5) (ht : t ∉ c :: l) (hs : s t = 0) (hd : 0 < d t) :
    qc_I mc md oo oa ob d (qc_u (qc_u s c 2) t 1) lv (qc_u rs t c) yr (qc_u p (c * 6 + d c - 1) x) (qc_u q (c * 6 + d c - 1) x) n m (t :: c :: l) := by
  have htc : t ≠ c := fun z => ht (by rw [z]; exact List.mem_cons_self)
  have I' := qc_tr_pc hm I hx.2.1
  rcases I'.2.2.2.2.2.2 t t5 ht with o | ⟨t0, o1, o2, o3, o4, o5⟩
  · omega
  refine qc_I_en hm I' t5 t0 ht (fun y y5 hc hy => ⟨rfl, ?_, rfl, rfl, fun i hi => ⟨rfl, rfl, rfl, rfl⟩⟩) (qc_tr_N hm I hx ho ?_) ⟨hd, o3, qc_us _ _ _, fun _ => o2, o4⟩
  · rw [qc_uo hy, qc_uo hc]
  · rw [qc_uo htc.symm, qc_us]
theorem qc_tr_create (hm : md ≤ 6) (I : qc_I mc md oo oa ob d s lv rs yr p q n m (c :: l)) (t5 : t < 5) (t0 : t ≠ 0) (htm : t ≤ mc) (hs : s t = 3) :
    d t = 0 ∧ qc_I mc md oo oa ob d (qc_u s t 0) (qc_u lv t 1) rs yr p q n m (c :: l) := by
  have ht : t ∉ c :: l := by
    intro z
    rcases List.mem_cons.mp z with z | z
    · have := I.2.2.2.2.1.2.2.1
      rw [← z] at this
      omega
    · have := (I.2.2.2.2.2.1 t z).2.2.1
      omega
  rcases I.2.2.2.2.2.2 t t5 ht with ⟨o1, o2, o3⟩ | o
  · refine ⟨o3, qc_I_out hm I ht (fun y y5 hy => ⟨rfl, qc_uo hy, qc_uo hy, rfl, fun i hi => ⟨rfl, rfl, rfl, rfl⟩⟩) (fun _ z => by omega) (fun _ => .inr ⟨t0, qc_us _ _ _, qc_us _ _ _, by omega, fun i hi => by omega, fun z => by omega⟩)⟩
  · omega
theorem qc_tr_close (hm : md ≤ 6) (I : qc_I mc md oo oa ob d s lv rs yr p q n m (c :: l)) (ht : t ∉ c :: l) (hd : d t ≤ 6) :
    qc_I mc md oo oa ob (qc_u d t 0) (qc_u s t 3) (qc_u lv t 0) rs yr p q n (qc_mz t (d t) m) (c :: l) := by
  refine qc_I_out hm I ht (fun y y5 hy => ⟨qc_uo hy, qc_uo hy, qc_uo hy, rfl, fun i hi => ⟨rfl, rfl, rfl, ?_⟩⟩) (fun _ _ => qc_us _ _ _) (fun _ => .inl ⟨qc_us _ _ _, qc_us _ _ _, qc_us _ _ _⟩)
  exact qc_mz_o _ _ (fun k hk => by omega)
theorem qc_tr_defer (hm : md ≤ 6) (I : qc_I mc md oo oa ob d s lv rs yr p q n m (c :: l)) (hx : x ≤ 4) :
    qc_I mc md oo oa ob d s lv rs yr p q (qc_u n (c * 6 + d c - 1) x) (qc_u m (c * 6 + d c - 1) x) (c :: l) := by
  obtain ⟨h1, h2, h3, h4, h5⟩ := I.2.2.2.2.1
  refine qc_I_hd hm (qc_J_of I) (fun t t5 ht => ⟨rfl, rfl, rfl, rfl, fun i hi => ⟨rfl, rfl, ?_, ?_⟩⟩) ⟨h1, h2, h3, h4, fun i hi => ?_⟩
  · exact qc_uf (by omega) (by omega) ht hi
  · exact qc_uf (by omega) (by omega) ht hi
  · have h := h5 i hi
    by_cases z : i = d c - 1
    · have e : c * 6 + i = c * 6 + d c - 1 := by omega
      rw [e] at h ⊢
      rw [qc_us, qc_us]
      exact ⟨h.1, h.2.1, rfl, hx, fun y => by omega⟩
    · rw [qc_uo (k := c * 6 + d c - 1) (by omega), qc_uo (k := c * 6 + d c - 1) (by omega)]
      exact h
theorem qc_tr_start (hm : md ≤ 6) (h1m : 1 ≤ md) (I : qc_I mc md oo oa ob d s lv rs yr p q n m []) (hb : b ≤ 64) :
    d 0 = 0 ∧ qc_I mc md oo oa ob (qc_u d 0 (d 0 + 1)) (qc_u s 0 1) lv rs yr (qc_u p (0 * 6 + d 0) b) (qc_u q (0 * 6 + d 0) b) (qc_u n (0 * 6 + d 0) 0) (qc_u m (0 * 6 + d 0) 0) [0] := by
  have h0 : d 0 = 0 := by
    rcases I.2.2.2.2 0 (by omega) with ⟨o1, o2, o3⟩ | o
    · exact o3
    · exact absurd rfl o.1
  refine ⟨h0, qc_I_beg hm I (fun y y5 hy => ⟨qc_uo hy, qc_uo hy, rfl, rfl, fun i hi => ⟨?_, ?_, ?_, ?_⟩⟩) ⟨?_, ?_, qc_us _ _ _, fun z => absurd rfl z, fun i hi => ?_⟩⟩
  · exact qc_uf (c := 0) (by omega) (by omega) hy hi
  · exact qc_uf (c := 0) (by omega) (by omega) hy hi
  · exact qc_uf (c := 0) (by omega) (by omega) hy hi
  · exact qc_uf (c := 0) (by omega) (by omega) hy hi
  · rw [qc_us]; omega
  · rw [qc_us]; omega
  · rw [qc_us] at hi ⊢
    have e : i = d 0 := by omega
    rw [e, qc_us, qc_us, qc_us, qc_us]
    exact ⟨rfl, hb, rfl, by omega, fun y => by omega⟩
end
