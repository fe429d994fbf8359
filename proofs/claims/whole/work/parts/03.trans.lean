section
variable {mc md : Nat} {oo oa ob : Nat → Int32} {d s lv rs yr p q n m : Nat → Nat} {c r t x b : Nat} {l : List Nat}
theorem sc_uf {p : Nat → Nat} {f v t i c : Nat} (h1 : c * 6 ≤ f) (h2 : f < c * 6 + 6) (ht : t ≠ c) (hl : i < 6) : sc_u p f v (t * 6 + i) = p (t * 6 + i) := sc_uo (by omega)
theorem sc_uu (d : Nat → Nat) (k x y : Nat) : sc_u (sc_u d k x) k y = sc_u d k y := by
  funext j
  by_cases h : j = k
  · rw [h, sc_us, sc_us]
  · rw [sc_uo h, sc_uo h, sc_uo h]
theorem sc_tr_pc (hm : md ≤ 6) (I : sc_I mc md oo oa ob d s lv rs yr p q n m (c :: l)) (hx : x ≤ 64) :
    sc_I mc md oo oa ob d s lv rs yr (sc_u p (c * 6 + d c - 1) x) (sc_u q (c * 6 + d c - 1) x) n m (c :: l) := by
  obtain ⟨h1, h2, h3, h4, h5⟩ := I.2.2.2.2.1
  refine sc_I_hd hm (sc_J_of I) (fun t t5 ht => ⟨rfl, rfl, rfl, rfl, fun i hi => ⟨?_, ?_, rfl, rfl⟩⟩) ⟨h1, h2, h3, h4, fun i hi => ?_⟩
  · exact sc_uf (by omega) (by omega) ht hi
  · exact sc_uf (by omega) (by omega) ht hi
  · by_cases z : i = d c - 1
    · have e : c * 6 + i = c * 6 + d c - 1 := by omega
      have h := h5 i hi
      rw [e] at h ⊢
      rw [sc_us, sc_us]
      exact ⟨rfl, hx, h.2.2.1, h.2.2.2.1, fun y => by omega⟩
    · rw [sc_uo (by omega), sc_uo (by omega)]
      exact h5 i hi
theorem sc_tr_j (hm : md ≤ 6) (I : sc_I mc md oo oa ob d s lv rs yr p q n m (c :: l)) :
    sc_J mc md oo oa ob d s lv rs yr (sc_u p (c * 6 + d c - 1) x) q n m (c :: l) := by
  obtain ⟨h1, h2, h3, h4, h5⟩ := I.2.2.2.2.1
  refine sc_J_hd hm (sc_J_of I) (fun t t5 ht => ⟨rfl, rfl, rfl, rfl, fun i hi => ⟨?_, rfl, rfl, rfl⟩⟩) ⟨h1, h2, h3, h4, sc_Tw_of h5⟩
  exact sc_uf (by omega) (by omega) ht hi
theorem sc_tr_call (hm : md ≤ 6) (I : sc_I mc md oo oa ob d s lv rs yr p q n m (c :: l)) (hd : d c < md) (hx : sc_RA oa x) (hb : b ≤ 64) :
    sc_I mc md oo oa ob (sc_u d c (d c + 1)) s lv rs yr (sc_u (sc_u p (c * 6 + d c - 1) x) (c * 6 + d c) b) (sc_u (sc_u q (c * 6 + d c - 1) x) (c * 6 + d c) b)
      (sc_u n (c * 6 + d c) 0) (sc_u m (c * 6 + d c) 0) (c :: l) := by
  obtain ⟨h1, h2, h3, h4, h5⟩ := I.2.2.2.2.1
  refine sc_I_hd hm (sc_J_of I) (fun t t5 ht => ⟨sc_uo ht, rfl, rfl, rfl, fun i hi => ⟨?_, ?_, ?_, ?_⟩⟩) ⟨?_, ?_, h3, h4, fun i hi => ?_⟩
  · rw [sc_uf (c := c) (by omega) (by omega) ht hi, sc_uf (c := c) (by omega) (by omega) ht hi]
  · rw [sc_uf (c := c) (by omega) (by omega) ht hi, sc_uf (c := c) (by omega) (by omega) ht hi]
  · exact sc_uf (by omega) (by omega) ht hi
  · exact sc_uf (by omega) (by omega) ht hi
  · rw [sc_us]; omega
  · rw [sc_us]; omega
  · rw [sc_us] at hi ⊢
    by_cases z : i = d c
    · rw [z, sc_us, sc_us, sc_us, sc_us]
      exact ⟨rfl, hb, rfl, by omega, fun y => by omega⟩
    · rw [sc_uo (k := c * 6 + d c) (by omega), sc_uo (k := c * 6 + d c) (by omega), sc_uo (k := c * 6 + d c) (by omega), sc_uo (k := c * 6 + d c) (by omega)]
      by_cases y : i = d c - 1
      · have e : c * 6 + i = c * 6 + d c - 1 := by omega
        have h := h5 i (by omega)
        rw [e] at h ⊢
        rw [sc_us, sc_us]
        exact ⟨rfl, hx.2.1, h.2.2.1, h.2.2.2.1, fun _ => hx⟩
      · rw [sc_uo (by omega), sc_uo (by omega)]
        have h := h5 i (by omega)
        exact ⟨h.1, h.2.1, h.2.2.1, h.2.2.2.1, fun _ => h.2.2.2.2 (by omega)⟩
theorem sc_tr_ret1 (hm : md ≤ 6) (I : sc_I mc md oo oa ob d s lv rs yr p q n m (c :: l)) (hd : 1 < d c) :
    sc_I mc md oo oa ob (sc_u d c (d c - 1)) s lv rs yr (sc_u p (c * 6 + d c - 1) x) q n (sc_u m (c * 6 + d c - 1) 0) (c :: l) := by
  obtain ⟨h1, h2, h3, h4, h5⟩ := I.2.2.2.2.1
  refine sc_I_hd hm (sc_J_of I) (fun t t5 ht => ⟨sc_uo ht, rfl, rfl, rfl, fun i hi => ⟨?_, rfl, rfl, ?_⟩⟩) ⟨?_, ?_, h3, h4, fun i hi => ?_⟩
  · exact sc_uf (by omega) (by omega) ht hi
  · exact sc_uf (by omega) (by omega) ht hi
  · rw [sc_us]; omega
  · rw [sc_us]; omega
  · rw [sc_us] at hi ⊢
    rw [sc_uo (k := c * 6 + d c - 1) (by omega), sc_uo (k := c * 6 + d c - 1) (by omega)]
    have h := h5 i (by omega)
    exact ⟨h.1, h.2.1, h.2.2.1, h.2.2.2.1, fun y => h.2.2.2.2 (by omega)⟩
theorem sc_tr_ret2 (hm : md ≤ 6) (I : sc_I mc md oo oa ob d s lv rs yr p q n m (c :: r :: l)) (hd : d c = 1) :
    sc_I mc md oo oa ob (sc_u d c (d c - 1)) (sc_u (sc_u s c 3) r 1) (sc_u lv c 0) rs yr (sc_u p (c * 6 + d c - 1) x) q n (sc_u m (c * 6 + d c - 1) 0) (r :: l) := by
  have hc : c ∉ r :: l := (List.nodup_cons.mp I.2.1).1
  have hcr : c ≠ r := fun z => hc (by rw [z]; exact List.mem_cons_self)
  refine sc_I_lv hm (sc_J_of I) (fun t t5 ht hr => ⟨sc_uo ht, ?_, sc_uo ht, rfl, fun i hi => ⟨?_, rfl, rfl, ?_⟩⟩) ⟨sc_uo hcr.symm, sc_uo hcr.symm, fun i hi => ⟨?_, rfl, rfl, ?_⟩⟩ (sc_us _ _ _) (.inl ⟨?_, sc_us _ _ _, ?_⟩)
  · rw [sc_uo hr, sc_uo ht]
  · exact sc_uf (by omega) (by omega) ht hi
  · exact sc_uf (by omega) (by omega) ht hi
  · exact sc_uf (by omega) (by omega) hcr.symm hi
  · exact sc_uf (by omega) (by omega) hcr.symm hi
  · rw [sc_uo hcr, sc_us]
  · rw [sc_us]; omega
theorem sc_tr_ret3 (hm : md ≤ 6) (I : sc_I mc md oo oa ob d s lv rs yr p q n m [0]) (h0 : lv 0 = 0) (hd : d 0 = 1) :
    sc_I mc md oo oa ob (sc_u d 0 (d 0 - 1)) (sc_u s 0 3) lv rs yr (sc_u p (0 * 6 + d 0 - 1) x) q n (sc_u m (0 * 6 + d 0 - 1) 0) [] := by
  refine sc_I_end hm (sc_J_of I) (fun t t5 ht => ⟨sc_uo ht, sc_uo ht, rfl, rfl, fun i hi => ⟨?_, rfl, rfl, ?_⟩⟩) (.inl ⟨sc_us _ _ _, h0, ?_⟩)
  · exact sc_uf (c := 0) (by omega) (by omega) ht hi
  · exact sc_uf (c := 0) (by omega) (by omega) ht hi
  · rw [sc_us]; omega
theorem sc_tr_yield (hm : md ≤ 6) (I : sc_I mc md oo oa ob d s lv rs yr p q n m (c :: r :: l)) (hx : 1 ≤ x) (hx' : x ≤ 64) (hb : b < 8) (he : ob (x - 1) = nI b) :
    sc_I mc md oo oa ob d (sc_u (sc_u s c 0) r 1) lv rs (sc_u yr c b) (sc_u p (c * 6 + d c - 1) x) (sc_u q (c * 6 + d c - 1) x) n m (r :: l) := by
  have hc : c ∉ r :: l := (List.nodup_cons.mp I.2.1).1
  have hcr : c ≠ r := fun z => hc (by rw [z]; exact List.mem_cons_self)
  have I' := sc_tr_pc hm I hx'
  obtain ⟨h1, h2, h3, h4, h5⟩ := I'.2.2.2.2.1
  refine sc_I_lv hm (sc_J_of I') (fun t t5 ht hr => ⟨rfl, ?_, rfl, sc_uo ht, fun i hi => ⟨rfl, rfl, rfl, rfl⟩⟩) ⟨rfl, rfl, fun i hi => ⟨rfl, rfl, rfl, rfl⟩⟩ (sc_us _ _ _) (.inr ⟨I.1.1, ?_, h4 I.1.1, h2, h5, fun _ => ?_⟩)
  · rw [sc_uo hr, sc_uo ht]
  · rw [sc_uo hcr, sc_us]
  · rw [sc_us, sc_us]
    exact ⟨hx, hb, he⟩
theorem sc_tr_raise (hm : md ≤ 6) (I : sc_J mc md oo oa ob d s lv rs yr p q n m (c :: r :: l)) :
    sc_I mc md oo oa ob (sc_u d c 0) (sc_u (sc_u s c 3) r 1) (sc_u lv c 0) rs yr p q n (sc_mz c (d c) m) (r :: l) := by
  have hc : c ∉ r :: l := (List.nodup_cons.mp I.2.1).1
  have hcr : c ≠ r := fun z => hc (by rw [z]; exact List.mem_cons_self)
  have hd : d c ≤ md := I.2.2.2.2.1.2.1
  refine sc_I_lv hm I (fun t t5 ht hr => ⟨sc_uo ht, ?_, sc_uo ht, rfl, fun i hi => ⟨rfl, rfl, rfl, ?_⟩⟩) ⟨sc_uo hcr.symm, sc_uo hcr.symm, fun i hi => ⟨rfl, rfl, rfl, ?_⟩⟩ (sc_us _ _ _) (.inl ⟨?_, sc_us _ _ _, sc_us _ _ _⟩)
  · rw [sc_uo hr, sc_uo ht]
  · exact sc_mz_o _ _ (fun k hk => by omega)
  · exact sc_mz_o _ _ (fun k hk => by omega)
  · rw [sc_uo hcr, sc_us]
theorem sc_tr_raise0 (hm : md ≤ 6) (I : sc_J mc md oo oa ob d s lv rs yr p q n m [0]) (h0 : lv 0 = 0) :
    sc_I mc md oo oa ob (sc_u d 0 0) (sc_u s 0 3) lv rs yr p q n (sc_mz 0 (d 0) m) [] := by
  have hd : d 0 ≤ md := I.2.2.2.2.1.2.1
  refine sc_I_end hm I (fun t t5 ht => ⟨sc_uo ht, sc_uo ht, rfl, rfl, fun i hi => ⟨rfl, rfl, rfl, ?_⟩⟩) (.inl ⟨sc_us _ _ _, h0, sc_us _ _ _⟩)
  exact sc_mz_o _ _ (fun k hk => by omega)
theorem sc_tr_N (hm : md ≤ 6) (I : sc_I mc md oo oa ob d s lv rs yr p q n m (c :: l)) (hx : sc_RA oa x) (ho : oo (x - 1) = 13 ∨ oo (x - 1) = 14) {s' : Nat → Nat} (hs : s' c = 2) :
    sc_N md oo oa d s' lv (sc_u p (c * 6 + d c - 1) x) (sc_u q (c * 6 + d c - 1) x) n m c := by
  obtain ⟨h1, h2, h3, h4, h5⟩ := (sc_tr_pc hm I hx.2.1).2.2.2.2.1
  refine ⟨h1, h2, hs, h4, h5, ?_, ?_⟩
  · rw [sc_us]; exact hx
  · rw [sc_us]; exact ho
theorem sc_tr_en1 (hm : md ≤ 6) (h1m : 1 ≤ md) (I : sc_I mc md oo oa ob d s lv rs yr p q n m (c :: l)) (hx : sc_RA oa x) (ho : oo (x - 1) = 13 ∨ oo (x - 1) = 14)
    (t5 : t < 5) (ht : t ∉ c :: l) (hs : s t = 0) (hd : d t = 0) (hb : b ≤ 64) :
    sc_I mc md oo oa ob (sc_u d t (d t + 1)) (sc_u (sc_u s c 2) t 1) lv (sc_u rs t c) yr (sc_u (sc_u p (c * 6 + d c - 1) x) (t * 6 + d t) b) (sc_u (sc_u q (c * 6 + d c - 1) x) (t * 6 + d t) b)
      (sc_u n (t * 6 + d t) 0) (sc_u m (t * 6 + d t) 0) (t :: c :: l) := by
  have htc : t ≠ c := fun z => ht (by rw [z]; exact List.mem_cons_self)
  have I' := sc_tr_pc hm I hx.2.1
  rcases I.2.2.2.2.2.2 t t5 ht with o | ⟨t0, o1, o2, o3, o4, o5⟩
  · omega
  refine sc_I_en hm I' t5 t0 ht (fun y y5 hc hy => ⟨sc_uo hy, ?_, rfl, rfl, fun i hi => ⟨?_, ?_, ?_, ?_⟩⟩) ?_ ⟨?_, ?_, sc_us _ _ _, fun _ => o2, fun i hi => ?_⟩
  · rw [sc_uo hy, sc_uo hc]
  · exact sc_uf (by omega) (by omega) hy hi
  · exact sc_uf (by omega) (by omega) hy hi
  · exact sc_uf (by omega) (by omega) hy hi
  · exact sc_uf (by omega) (by omega) hy hi
  · refine sc_N_c hm (s := sc_u (sc_u s c 2) t 1) (yr := yr) (yr' := yr) ⟨sc_uo htc.symm, rfl, rfl, rfl, fun i hi => ⟨?_, ?_, ?_, ?_⟩⟩ (sc_tr_N hm I hx ho ?_)
    · exact sc_uf (by omega) (by omega) htc.symm hi
    · exact sc_uf (by omega) (by omega) htc.symm hi
    · exact sc_uf (by omega) (by omega) htc.symm hi
    · exact sc_uf (by omega) (by omega) htc.symm hi
    · rw [sc_uo htc.symm, sc_us]
  · rw [sc_us]; omega
  · rw [sc_us]; omega
  · rw [sc_us] at hi ⊢
    have e : i = d t := by omega
    rw [e, sc_us, sc_us, sc_us, sc_us]
    exact ⟨rfl, hb, rfl, by omega, fun y => by omega⟩
theorem sc_tr_en2 (hm : md ≤ 6) (I : sc_I mc md oo oa ob d s lv rs yr p q n m (c :: l)) (hx : sc_RA oa x) (ho : oo (x - 1) = 13 ∨ oo (x - 1) = 14)
    (t5 : t < 5) (ht : t ∉ c :: l) (hs : s t = 0) (hd : 0 < d t) :
    sc_I mc md oo oa ob d (sc_u (sc_u s c 2) t 1) lv (sc_u rs t c) yr (sc_u p (c * 6 + d c - 1) x) (sc_u q (c * 6 + d c - 1) x) n m (t :: c :: l) := by
  have htc : t ≠ c := fun z => ht (by rw [z]; exact List.mem_cons_self)
  have I' := sc_tr_pc hm I hx.2.1
  rcases I'.2.2.2.2.2.2 t t5 ht with o | ⟨t0, o1, o2, o3, o4, o5⟩
  · omega
  refine sc_I_en hm I' t5 t0 ht (fun y y5 hc hy => ⟨rfl, ?_, rfl, rfl, fun i hi => ⟨rfl, rfl, rfl, rfl⟩⟩) (sc_tr_N hm I hx ho ?_) ⟨hd, o3, sc_us _ _ _, fun _ => o2, o4⟩
  · rw [sc_uo hy, sc_uo hc]
  · rw [sc_uo htc.symm, sc_us]
theorem sc_tr_create (hm : md ≤ 6) (I : sc_I mc md oo oa ob d s lv rs yr p q n m (c :: l)) (t5 : t < 5) (t0 : t ≠ 0) (htm : t ≤ mc) (hs : s t = 3) :
    d t = 0 ∧ sc_I mc md oo oa ob d (sc_u s t 0) (sc_u lv t 1) rs yr p q n m (c :: l) := by
  have ht : t ∉ c :: l := by
    intro z
    rcases List.mem_cons.mp z with z | z
    · have := I.2.2.2.2.1.2.2.1
      rw [← z] at this
      omega
    · have := (I.2.2.2.2.2.1 t z).2.2.1
      omega
  rcases I.2.2.2.2.2.2 t t5 ht with ⟨o1, o2, o3⟩ | o
  · refine ⟨o3, sc_I_out hm I ht (fun y y5 hy => ⟨rfl, sc_uo hy, sc_uo hy, rfl, fun i hi => ⟨rfl, rfl, rfl, rfl⟩⟩) (fun _ z => by omega) (fun _ => .inr ⟨t0, sc_us _ _ _, sc_us _ _ _, by omega, fun i hi => by omega, fun z => by omega⟩)⟩
  · omega
theorem sc_tr_close (hm : md ≤ 6) (I : sc_I mc md oo oa ob d s lv rs yr p q n m (c :: l)) (ht : t ∉ c :: l) (hd : d t ≤ 6) :
    sc_I mc md oo oa ob (sc_u d t 0) (sc_u s t 3) (sc_u lv t 0) rs yr p q n (sc_mz t (d t) m) (c :: l) := by
  refine sc_I_out hm I ht (fun y y5 hy => ⟨sc_uo hy, sc_uo hy, sc_uo hy, rfl, fun i hi => ⟨rfl, rfl, rfl, ?_⟩⟩) (fun _ _ => sc_us _ _ _) (fun _ => .inl ⟨sc_us _ _ _, sc_us _ _ _, sc_us _ _ _⟩)
  exact sc_mz_o _ _ (fun k hk => by omega)
theorem sc_tr_defer (hm : md ≤ 6) (I : sc_I mc md oo oa ob d s lv rs yr p q n m (c :: l)) (hx : x ≤ 4) :
    sc_I mc md oo oa ob d s lv rs yr p q (sc_u n (c * 6 + d c - 1) x) (sc_u m (c * 6 + d c - 1) x) (c :: l) := by
  obtain ⟨h1, h2, h3, h4, h5⟩ := I.2.2.2.2.1
  refine sc_I_hd hm (sc_J_of I) (fun t t5 ht => ⟨rfl, rfl, rfl, rfl, fun i hi => ⟨rfl, rfl, ?_, ?_⟩⟩) ⟨h1, h2, h3, h4, fun i hi => ?_⟩
  · exact sc_uf (by omega) (by omega) ht hi
  · exact sc_uf (by omega) (by omega) ht hi
  · have h := h5 i hi
    by_cases z : i = d c - 1
    · have e : c * 6 + i = c * 6 + d c - 1 := by omega
      rw [e] at h ⊢
      rw [sc_us, sc_us]
      exact ⟨h.1, h.2.1, rfl, hx, fun y => by omega⟩
    · rw [sc_uo (k := c * 6 + d c - 1) (by omega), sc_uo (k := c * 6 + d c - 1) (by omega)]
      exact h
theorem sc_tr_start (hm : md ≤ 6) (h1m : 1 ≤ md) (I : sc_I mc md oo oa ob d s lv rs yr p q n m []) (hb : b ≤ 64) :
    d 0 = 0 ∧ sc_I mc md oo oa ob (sc_u d 0 (d 0 + 1)) (sc_u s 0 1) lv rs yr (sc_u p (0 * 6 + d 0) b) (sc_u q (0 * 6 + d 0) b) (sc_u n (0 * 6 + d 0) 0) (sc_u m (0 * 6 + d 0) 0) [0] := by
  have h0 : d 0 = 0 := by
    rcases I.2.2.2.2 0 (by omega) with ⟨o1, o2, o3⟩ | o
    · exact o3
    · exact absurd rfl o.1
  refine ⟨h0, sc_I_beg hm I (fun y y5 hy => ⟨sc_uo hy, sc_uo hy, rfl, rfl, fun i hi => ⟨?_, ?_, ?_, ?_⟩⟩) ⟨?_, ?_, sc_us _ _ _, fun z => absurd rfl z, fun i hi => ?_⟩⟩
  · exact sc_uf (c := 0) (by omega) (by omega) hy hi
  · exact sc_uf (c := 0) (by omega) (by omega) hy hi
  · exact sc_uf (c := 0) (by omega) (by omega) hy hi
  · exact sc_uf (c := 0) (by omega) (by omega) hy hi
  · rw [sc_us]; omega
  · rw [sc_us]; omega
  · rw [sc_us] at hi ⊢
    have e : i = d 0 := by omega
    rw [e, sc_us, sc_us, sc_us, sc_us]
    exact ⟨rfl, hb, rfl, by omega, fun y => by omega⟩
end
