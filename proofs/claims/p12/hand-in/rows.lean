section
def qc_u (d : Nat → Nat) (k x : Nat) : Nat → Nat := fun j => if j = k then x else d j
theorem qc_us (d : Nat → Nat) (k x : Nat) : qc_u d k x k = x := by simp [qc_u]
theorem qc_uo {d : Nat → Nat} {k x j : Nat} (h : j ≠ k) : qc_u d k x j = d j := by simp [qc_u, h]
theorem qc_uI (d : Nat → Nat) (k x : Nat) : upd (fun t => nI (d t)) k (nI x) = fun t => nI (qc_u d k x t) := by
  funext j
  by_cases h : j = k
  · simp [upd, qc_u, h]
  · simp [upd, qc_u, h]
theorem qc_ue {d : Nat → Nat} {k x : Nat} (h : d k = x) : qc_u d k x = d := by
  funext j
  by_cases e : j = k
  · rw [e, qc_us, h]
  · exact qc_uo e

def qc_Lk (rs : Nat → Nat) : List Nat → Prop
  | [] => True
  | [x] => x = 0
  | x :: y :: l => x ≠ 0 ∧ rs x = y ∧ qc_Lk rs (y :: l)
theorem qc_Lk_t {rs : Nat → Nat} {x : Nat} {l : List Nat} (h : qc_Lk rs (x :: l)) : qc_Lk rs l := by
  cases l with
  | nil => trivial
  | cons y l => exact h.2.2
theorem qc_Lk_0 {rs : Nat → Nat} : ∀ (l : List Nat) (x : Nat), qc_Lk rs (x :: l) → 0 ∈ x :: l := by
  intro l
  induction l with
  | nil => intro x h; have h : x = 0 := h; simp [h]
  | cons y l ih => intro x h; exact List.mem_cons_of_mem _ (ih y h.2.2)
theorem qc_Lk_c {rs : Nat → Nat} {k v : Nat} : ∀ L : List Nat, k ∉ L → qc_Lk rs L → qc_Lk (qc_u rs k v) L := by
  intro L
  induction L with
  | nil => intro _ _; trivial
  | cons x l ih =>
    intro hk h
    cases l with
    | nil => exact h
    | cons y l =>
      have hx : x ≠ k := fun e => hk (by rw [e]; exact List.mem_cons_self)
      exact ⟨h.1, by rw [qc_uo hx]; exact h.2.1, ih (fun e => hk (List.mem_cons_of_mem _ e)) h.2.2⟩
theorem qc_Lk_1 {rs : Nat → Nat} {x : Nat} {l : List Nat} (h : qc_Lk rs (x :: l)) (hx : x ≠ 0) : ∃ r l', l = r :: l' ∧ rs x = r := by
  cases l with
  | nil => exact absurd h hx
  | cons y l => exact ⟨y, l, rfl, h.2.1⟩
theorem qc_Lk_2 {rs : Nat → Nat} {l : List Nat} (h : qc_Lk rs (0 :: l)) : l = [] := by
  cases l with
  | nil => rfl
  | cons y l => exact absurd rfl h.1
theorem qc_len {L : List Nat} (hn : L.Nodup) (h : ∀ t, t ∈ L → t < 5) : L.length ≤ 5 := by
  have := hn.length_le_of_subset (l₂ := List.range 5) (fun t ht => List.mem_range.mpr (h t ht))
  simpa using this

def qc_RA (A : Nat → Int32) (x : Nat) : Prop := 1 ≤ x ∧ x ≤ 64 ∧ ∃ a, a < 8 ∧ A (x - 1) = nI a
def qc_Th (A : Nat → Int32) (p q n m : Nat → Nat) (t dt : Nat) : Prop :=
  ∀ l, l < dt → q (t * 6 + l) = p (t * 6 + l) ∧ p (t * 6 + l) ≤ 64 ∧ m (t * 6 + l) = n (t * 6 + l) ∧ n (t * 6 + l) ≤ 4 ∧ (l + 1 < dt → qc_RA A (p (t * 6 + l)))
def qc_Tw (n m : Nat → Nat) (t dt : Nat) : Prop := ∀ l, l < dt → m (t * 6 + l) = n (t * 6 + l) ∧ n (t * 6 + l) ≤ 4
theorem qc_Tw_of {A : Nat → Int32} {p q n m : Nat → Nat} {t dt : Nat} (h : qc_Th A p q n m t dt) : qc_Tw n m t dt :=
  fun l hl => ⟨(h l hl).2.2.1, (h l hl).2.2.2.1⟩
def qc_H (md : Nat) (oa : Nat → Int32) (d s lv p q n m : Nat → Nat) (t : Nat) : Prop :=
  0 < d t ∧ d t ≤ md ∧ s t = 1 ∧ (t ≠ 0 → lv t = 1) ∧ qc_Th oa p q n m t (d t)
def qc_W (md : Nat) (d s lv n m : Nat → Nat) (t : Nat) : Prop :=
  0 < d t ∧ d t ≤ md ∧ s t = 1 ∧ (t ≠ 0 → lv t = 1) ∧ qc_Tw n m t (d t)
def qc_N (md : Nat) (oo oa : Nat → Int32) (d s lv p q n m : Nat → Nat) (t : Nat) : Prop :=
  0 < d t ∧ d t ≤ md ∧ s t = 2 ∧ (t ≠ 0 → lv t = 1) ∧ qc_Th oa p q n m t (d t) ∧
  qc_RA oa (p (t * 6 + d t - 1)) ∧ (oo (p (t * 6 + d t - 1) - 1) = 13 ∨ oo (p (t * 6 + d t - 1) - 1) = 14)
def qc_O (md : Nat) (oa ob : Nat → Int32) (d s lv yr p q n m : Nat → Nat) (t : Nat) : Prop :=
  (s t = 3 ∧ lv t = 0 ∧ d t = 0) ∨
  (t ≠ 0 ∧ s t = 0 ∧ lv t = 1 ∧ d t ≤ md ∧ qc_Th oa p q n m t (d t) ∧
    (0 < d t → 1 ≤ p (t * 6 + d t - 1) ∧ yr t < 8 ∧ ob (p (t * 6 + d t - 1) - 1) = nI (yr t)))
def qc_F (p q n m p' q' n' m' : Nat → Nat) (t : Nat) : Prop :=
  ∀ l, l < 6 → p' (t * 6 + l) = p (t * 6 + l) ∧ q' (t * 6 + l) = q (t * 6 + l) ∧ n' (t * 6 + l) = n (t * 6 + l) ∧ m' (t * 6 + l) = m (t * 6 + l)
def qc_E (d s lv yr p q n m d' s' lv' yr' p' q' n' m' : Nat → Nat) (t : Nat) : Prop :=
  d' t = d t ∧ s' t = s t ∧ lv' t = lv t ∧ yr' t = yr t ∧ qc_F p q n m p' q' n' m' t

section
variable {mc md : Nat} {oo oa ob : Nat → Int32} {d s lv rs yr p q n m d' s' lv' yr' p' q' n' m' : Nat → Nat}
theorem qc_Th_c {t dt : Nat} (hd : dt ≤ 6) (e : qc_F p q n m p' q' n' m' t) (h : qc_Th oa p q n m t dt) : qc_Th oa p' q' n' m' t dt := by
  intro l hl
  obtain ⟨e1, e2, e3, e4⟩ := e l (by omega)
  rw [e1, e2, e3, e4]
  exact h l hl
theorem qc_Tw_c {t dt : Nat} (hd : dt ≤ 6) (e : qc_F p q n m p' q' n' m' t) (h : qc_Tw n m t dt) : qc_Tw n' m' t dt := by
  intro l hl
  obtain ⟨e1, e2, e3, e4⟩ := e l (by omega)
  rw [e3, e4]
  exact h l hl
theorem qc_top {t dt : Nat} (h0 : 0 < dt) (hd : dt ≤ 6) (e : qc_F p q n m p' q' n' m' t) : p' (t * 6 + dt - 1) = p (t * 6 + dt - 1) := by
  have := (e (dt - 1) (by omega)).1
  have h : t * 6 + (dt - 1) = t * 6 + dt - 1 := by omega
  rw [h] at this
  exact this
theorem qc_H_c {t : Nat} (hm : md ≤ 6) (e : qc_E d s lv yr p q n m d' s' lv' yr' p' q' n' m' t) (h : qc_H md oa d s lv p q n m t) : qc_H md oa d' s' lv' p' q' n' m' t := by
  obtain ⟨e1, e2, e3, e4, e5⟩ := e
  obtain ⟨h1, h2, h3, h4, h5⟩ := h
  unfold qc_H
  rw [e1, e2, e3]
  exact ⟨h1, h2, h3, h4, qc_Th_c (by omega) e5 h5⟩
theorem qc_N_c {t : Nat} (hm : md ≤ 6) (e : qc_E d s lv yr p q n m d' s' lv' yr' p' q' n' m' t) (h : qc_N md oo oa d s lv p q n m t) : qc_N md oo oa d' s' lv' p' q' n' m' t := by
  obtain ⟨e1, e2, e3, e4, e5⟩ := e
  obtain ⟨h1, h2, h3, h4, h5, h6, h7⟩ := h
  unfold qc_N
  rw [e1, e2, e3, qc_top h1 (by omega) e5]
  exact ⟨h1, h2, h3, h4, qc_Th_c (by omega) e5 h5, h6, h7⟩
theorem qc_O_c {t : Nat} (hm : md ≤ 6) (e : qc_E d s lv yr p q n m d' s' lv' yr' p' q' n' m' t) (h : qc_O md oa ob d s lv yr p q n m t) : qc_O md oa ob d' s' lv' yr' p' q' n' m' t := by
  obtain ⟨e1, e2, e3, e4, e5⟩ := e
  unfold qc_O
  rw [e1, e2, e3, e4]
  rcases h with h | ⟨h0, h1, h2, h3, h4, h5⟩
  · exact .inl h
  · refine .inr ⟨h0, h1, h2, h3, qc_Th_c (by omega) e5 h4, fun z => ?_⟩
    rw [qc_top z (by omega) e5]
    exact h5 z

def qc_Hs (Hd Nn Oo : Nat → Prop) : List Nat → Prop
  | [] => ∀ t, t < 5 → Oo t
  | c :: l => Hd c ∧ (∀ t, t ∈ l → Nn t) ∧ ∀ t, t < 5 → t ∉ c :: l → Oo t
def qc_G (rs lv : Nat → Nat) (mc : Nat) (Hd Nn Oo : Nat → Prop) (L : List Nat) : Prop :=
  qc_Lk rs L ∧ L.Nodup ∧ (∀ t, t ∈ L → t < 5) ∧ (∀ t, mc < t → t < 5 → lv t = 0) ∧ qc_Hs Hd Nn Oo L
end
def qc_I (mc md : Nat) (oo oa ob : Nat → Int32) (d s lv rs yr p q n m : Nat → Nat) (L : List Nat) : Prop :=
  qc_G rs lv mc (qc_H md oa d s lv p q n m) (qc_N md oo oa d s lv p q n m) (qc_O md oa ob d s lv yr p q n m) L
def qc_J (mc md : Nat) (oo oa ob : Nat → Int32) (d s lv rs yr p q n m : Nat → Nat) (L : List Nat) : Prop :=
  qc_G rs lv mc (qc_W md d s lv n m) (qc_N md oo oa d s lv p q n m) (qc_O md oa ob d s lv yr p q n m) L

section
variable {mc md : Nat} {oo oa ob : Nat → Int32} {d s lv rs yr p q n m d' s' lv' yr' p' q' n' m' : Nat → Nat} {c r t : Nat} {l : List Nat}
theorem qc_W_of (h : qc_H md oa d s lv p q n m t) : qc_W md d s lv n m t := ⟨h.1, h.2.1, h.2.2.1, h.2.2.2.1, qc_Tw_of h.2.2.2.2⟩
theorem qc_J_of (I : qc_I mc md oo oa ob d s lv rs yr p q n m (c :: l)) : qc_J mc md oo oa ob d s lv rs yr p q n m (c :: l) :=
  ⟨I.1, I.2.1, I.2.2.1, I.2.2.2.1, qc_W_of I.2.2.2.2.1, I.2.2.2.2.2.1, I.2.2.2.2.2.2⟩
/-- only the head thread's own data change -/
theorem qc_I_hd (hm : md ≤ 6) (I : qc_J mc md oo oa ob d s lv rs yr p q n m (c :: l))
    (e : ∀ t, t < 5 → t ≠ c → qc_E d s lv yr p q n m d' s lv yr p' q' n' m' t)
    (h : qc_H md oa d' s lv p' q' n' m' c) : qc_I mc md oo oa ob d' s lv rs yr p' q' n' m' (c :: l) := by
  obtain ⟨i1, i2, i3, i4, i5, i6, i7⟩ := I
  have hc : c ∉ l := (List.nodup_cons.mp i2).1
  refine ⟨i1, i2, i3, i4, h, fun t ht => ?_, fun t h5 ht => ?_⟩
  · exact qc_N_c hm (e t (i3 t (List.mem_cons_of_mem _ ht)) (fun z => hc (z ▸ ht))) (i6 t ht)
  · exact qc_O_c hm (e t h5 (fun z => ht (by rw [z]; exact List.mem_cons_self))) (i7 t h5 ht)
theorem qc_J_hd (hm : md ≤ 6) (I : qc_J mc md oo oa ob d s lv rs yr p q n m (c :: l))
    (e : ∀ t, t < 5 → t ≠ c → qc_E d s lv yr p q n m d' s lv yr p' q' n' m' t)
    (h : qc_W md d' s lv n' m' c) : qc_J mc md oo oa ob d' s lv rs yr p' q' n' m' (c :: l) := by
  obtain ⟨i1, i2, i3, i4, i5, i6, i7⟩ := I
  have hc : c ∉ l := (List.nodup_cons.mp i2).1
  refine ⟨i1, i2, i3, i4, h, fun t ht => ?_, fun t h5 ht => ?_⟩
  · exact qc_N_c hm (e t (i3 t (List.mem_cons_of_mem _ ht)) (fun z => hc (z ▸ ht))) (i6 t ht)
  · exact qc_O_c hm (e t h5 (fun z => ht (by rw [z]; exact List.mem_cons_self))) (i7 t h5 ht)
/-- the head leaves the chain for its resumer -/
theorem qc_I_lv (hm : md ≤ 6) (I : qc_J mc md oo oa ob d s lv rs yr p q n m (c :: r :: l))
    (e : ∀ t, t < 5 → t ≠ c → t ≠ r → qc_E d s lv yr p q n m d' s' lv' yr' p' q' n' m' t)
    (er : d' r = d r ∧ lv' r = lv r ∧ qc_F p q n m p' q' n' m' r) (hs : s' r = 1)
    (ho : qc_O md oa ob d' s' lv' yr' p' q' n' m' c) :
    qc_I mc md oo oa ob d' s' lv' rs yr' p' q' n' m' (r :: l) := by
  obtain ⟨i1, i2, i3, i4, i5, i6, i7⟩ := I
  have hc : c ∉ r :: l := (List.nodup_cons.mp i2).1
  have i2' := (List.nodup_cons.mp i2).2
  have hr : r ∉ l := (List.nodup_cons.mp i2').1
  have hrc : r ≠ c := fun z => hc (by rw [z]; exact List.mem_cons_self)
  have c0 : c ≠ 0 := i1.1
  have hcm : ¬ mc < c := fun z => by
    have a := i4 c z (i3 c List.mem_cons_self)
    have b := i5.2.2.2.1 c0
    omega
  refine ⟨qc_Lk_t i1, i2', fun t ht => i3 t (List.mem_cons_of_mem _ ht), fun t h1 h5 => ?_, ?_, fun t ht => ?_, fun t h5 ht => ?_⟩
  · by_cases z : t = c
    · exact absurd (z ▸ h1) hcm
    · by_cases y : t = r
      · rw [y, er.2.1]; exact i4 r (y ▸ h1) (y ▸ h5)
      · rw [(e t h5 z y).2.2.1]; exact i4 t h1 h5
  · obtain ⟨h1, h2, h3, h4, h5, h6, h7⟩ := i6 r List.mem_cons_self
    unfold qc_H
    rw [er.1, er.2.1]
    exact ⟨h1, h2, hs, h4, qc_Th_c (by omega) er.2.2 h5⟩
  · have tc : t ≠ c := fun z => hc (z ▸ List.mem_cons_of_mem _ ht)
    have tr : t ≠ r := fun z => hr (z ▸ ht)
    exact qc_N_c hm (e t (i3 t (List.mem_cons_of_mem _ (List.mem_cons_of_mem _ ht))) tc tr) (i6 t (List.mem_cons_of_mem _ ht))
  · by_cases z : t = c
    · rw [z]; exact ho
    · have tr : t ≠ r := fun y => ht (by rw [y]; exact List.mem_cons_self)
      refine qc_O_c hm (e t h5 z tr) (i7 t h5 fun y => ?_)
      rcases List.mem_cons.mp y with y | y
      · exact z y
      · exact ht y
/-- the main thread ends -/
theorem qc_I_end (hm : md ≤ 6) (I : qc_J mc md oo oa ob d s lv rs yr p q n m [c])
    (e : ∀ t, t < 5 → t ≠ c → qc_E d s lv yr p q n m d' s' lv' yr' p' q' n' m' t)
    (ho : qc_O md oa ob d' s' lv' yr' p' q' n' m' c) :
    qc_I mc md oo oa ob d' s' lv' rs yr' p' q' n' m' [] := by
  obtain ⟨i1, i2, i3, i4, i5, i6, i7⟩ := I
  have c0 : c = 0 := i1
  refine ⟨trivial, List.nodup_nil, fun t ht => absurd ht List.not_mem_nil, fun t h1 h5 => ?_, fun t h5 => ?_⟩
  · rw [(e t h5 (by omega)).2.2.1]; exact i4 t h1 h5
  · by_cases z : t = c
    · rw [z]; exact ho
    · exact qc_O_c hm (e t h5 z) (i7 t h5 (by simpa using z))
/-- a thread outside the chain is entered -/
theorem qc_I_en (hm : md ≤ 6) (I : qc_I mc md oo oa ob d s lv rs yr p q n m (c :: l)) (h5 : t < 5) (h0 : t ≠ 0) (ht : t ∉ c :: l)
    (e : ∀ x, x < 5 → x ≠ c → x ≠ t → qc_E d s lv yr p q n m d' s' lv yr p' q' n' m' x)
    (hN : qc_N md oo oa d' s' lv p' q' n' m' c) (hH : qc_H md oa d' s' lv p' q' n' m' t) :
    qc_I mc md oo oa ob d' s' lv (qc_u rs t c) yr p' q' n' m' (t :: c :: l) := by
  obtain ⟨i1, i2, i3, i4, i5, i6, i7⟩ := I
  have hc : c ∉ l := (List.nodup_cons.mp i2).1
  refine ⟨⟨h0, qc_us _ _ _, qc_Lk_c _ ht i1⟩, List.nodup_cons.mpr ⟨ht, i2⟩, fun x hx => ?_, i4, hH, fun x hx => ?_, fun x x5 hx => ?_⟩
  · rcases List.mem_cons.mp hx with y | y
    · rw [y]; exact h5
    · exact i3 x y
  · rcases List.mem_cons.mp hx with y | y
    · rw [y]; exact hN
    · exact qc_N_c hm (e x (i3 x hx) (fun z => hc (z ▸ y)) (fun z => ht (z ▸ hx))) (i6 x y)
  · have h1 : x ∉ c :: l := fun z => hx (List.mem_cons_of_mem _ z)
    exact qc_O_c hm (e x x5 (fun z => h1 (by rw [z]; exact List.mem_cons_self)) (fun z => hx (by rw [z]; exact List.mem_cons_self))) (i7 x x5 h1)
/-- a thread outside the chain changes -/
theorem qc_I_out (hm : md ≤ 6) (I : qc_I mc md oo oa ob d s lv rs yr p q n m (c :: l)) (ht : t ∉ c :: l)
    (e : ∀ x, x < 5 → x ≠ t → qc_E d s lv yr p q n m d' s' lv' yr' p' q' n' m' x)
    (hl : t < 5 → mc < t → lv' t = 0) (ho : t < 5 → qc_O md oa ob d' s' lv' yr' p' q' n' m' t) :
    qc_I mc md oo oa ob d' s' lv' rs yr' p' q' n' m' (c :: l) := by
  obtain ⟨i1, i2, i3, i4, i5, i6, i7⟩ := I
  have nt : ∀ x, x ∈ c :: l → x ≠ t := fun x hx z => ht (z ▸ hx)
  refine ⟨i1, i2, i3, fun x h1 x5 => ?_, ?_, fun x hx => ?_, fun x x5 hx => ?_⟩
  · by_cases z : x = t
    · rw [z]; exact hl (z ▸ x5) (z ▸ h1)
    · rw [(e x x5 z).2.2.1]; exact i4 x h1 x5
  · exact qc_H_c hm (e c (i3 c List.mem_cons_self) (nt c List.mem_cons_self)) i5
  · exact qc_N_c hm (e x (i3 x (List.mem_cons_of_mem _ hx)) (nt x (List.mem_cons_of_mem _ hx))) (i6 x hx)
  · by_cases z : x = t
    · rw [z]; exact ho (z ▸ x5)
    · exact qc_O_c hm (e x x5 z) (i7 x x5 hx)
/-- the program starts -/
theorem qc_I_beg (hm : md ≤ 6) (I : qc_I mc md oo oa ob d s lv rs yr p q n m [])
    (e : ∀ x, x < 5 → x ≠ 0 → qc_E d s lv yr p q n m d' s' lv yr p' q' n' m' x)
    (hH : qc_H md oa d' s' lv p' q' n' m' 0) :
    qc_I mc md oo oa ob d' s' lv rs yr p' q' n' m' [0] := by
  obtain ⟨i1, i2, i3, i4, i5⟩ := I
  refine ⟨rfl, by simp, fun x hx => ?_, i4, hH, fun x hx => absurd hx List.not_mem_nil, fun x x5 hx => ?_⟩
  · have : x = 0 := by simpa using hx
    omega
  · exact qc_O_c hm (e x x5 (by simpa using hx)) (i5 x x5)
end
end
section
def qc_ap (x : (Nat → Int32) × Nat) (v : Int32) : (Nat → Int32) × Nat := if x.2 < 64 then (upd x.1 x.2 v, x.2 + 1) else x
def qc_cl (tg : Nat → Int32) (f : Nat) : Nat → (Nat → Int32) × Nat → (Nat → Int32) × Nat
  | 0, x => x
  | k + 1, x => qc_cl tg f k (qc_ap x (tg (f * 4 + k)))
def qc_uw (tg : Nat → Int32) (n : Nat → Nat) (t : Nat) : Nat → (Nat → Int32) × Nat → (Nat → Int32) × Nat
  | 0, x => x
  | l + 1, x => qc_uw tg n t l (qc_cl tg (t * 6 + l) (n (t * 6 + l)) x)
theorem qc_ap_le {x : (Nat → Int32) × Nat} {v : Int32} (h : x.2 ≤ 64) : (qc_ap x v).2 ≤ 64 := by
  unfold qc_ap
  split
  · show x.2 + 1 ≤ 64
    omega
  · exact h
theorem qc_cl_le {tg : Nat → Int32} {f : Nat} : ∀ (k : Nat) (x : (Nat → Int32) × Nat), x.2 ≤ 64 → (qc_cl tg f k x).2 ≤ 64 := by
  intro k
  induction k with
  | zero => intro x h; exact h
  | succ k ih => intro x h; exact ih _ (qc_ap_le h)
theorem qc_uw_le {tg : Nat → Int32} {n : Nat → Nat} {t : Nat} : ∀ (l : Nat) (x : (Nat → Int32) × Nat), x.2 ≤ 64 → (qc_uw tg n t l x).2 ≤ 64 := by
  intro k
  induction k with
  | zero => intro x h; exact h
  | succ k ih => intro x h; exact ih _ (qc_cl_le _ _ h)
theorem qc_uw_c {tg : Nat → Int32} {n m : Nat → Nat} {t : Nat} : ∀ (l : Nat) (x : (Nat → Int32) × Nat), (∀ i, i < l → m (t * 6 + i) = n (t * 6 + i)) → qc_uw tg m t l x = qc_uw tg n t l x := by
  intro l
  induction l with
  | zero => intro x _; rfl
  | succ l ih =>
    intro x h
    show qc_uw tg m t l (qc_cl tg (t * 6 + l) (m (t * 6 + l)) x) = qc_uw tg n t l (qc_cl tg (t * 6 + l) (n (t * 6 + l)) x)
    rw [h l (by omega), ih _ (fun i hi => h i (by omega))]
def qc_mz (t : Nat) : Nat → (Nat → Nat) → (Nat → Nat)
  | 0, m => m
  | l + 1, m => qc_mz t l (qc_u m (t * 6 + l) 0)
theorem qc_mz_o {t j : Nat} : ∀ (l : Nat) (m : Nat → Nat), (∀ i, i < l → j ≠ t * 6 + i) → qc_mz t l m j = m j := by
  intro l
  induction l with
  | zero => intro m _; rfl
  | succ l ih =>
    intro m h
    show qc_mz t l (qc_u m (t * 6 + l) 0) j = m j
    rw [ih _ (fun i hi => h i (by omega)), qc_uo (h l (by omega))]
def qc_z (rg : Nat → Int32) (b r : Nat) : Nat → Int32 := fun j => if b + r ≤ j ∧ j < b + 8 then 0 else rg j
theorem qc_z8 (rg : Nat → Int32) (b : Nat) : qc_z rg b 8 = rg := by
  funext j
  unfold qc_z
  rw [if_neg (by omega)]
theorem qc_zs (rg : Nat → Int32) {b r : Nat} (h : r < 8) : qc_z (upd rg (b + r) 0) b (r + 1) = qc_z rg b r := by
  funext j
  unfold qc_z upd
  by_cases h1 : b + (r + 1) ≤ j ∧ j < b + 8
  · rw [if_pos h1, if_pos (by omega)]
  · rw [if_neg h1]
    by_cases h2 : j = b + r
    · rw [if_pos h2, if_pos (by omega)]
    · rw [if_neg h2, if_neg (by omega)]
def qc_pr (rg : Nat → Int32) (b : Nat) (v : Int32) : Nat → Int32 := upd (qc_z rg b 0) b v
theorem qc_pr_x (rg : Nat → Int32) (b : Nat) (v : Int32) : qc_z (upd rg b v) b 1 = qc_pr rg b v := by
  funext j
  simp only [qc_pr, qc_z, upd]
  (repeat' split) <;> first | rfl | (exfalso; omega)
theorem qc_m8 (t : Nat) : nI t * 8 = nI (t * 8) := pk_mul t 8
theorem qc_m6 (t : Nat) : nI t * 6 = nI (t * 6) := pk_mul t 6
theorem qc_m4 (t : Nat) : nI t * 4 = nI (t * 4) := pk_mul t 4
theorem qc_s1 {t : Nat} (h : 1 ≤ t) : nI t - 1 = nI (t - 1) := pk_sub (b := 1) h
theorem qc_tf {t dt : Nat} (h : 1 ≤ dt) : nI t * 6 + nI dt - 1 = nI (t * 6 + dt - 1) := by
  rw [qc_m6, nI_add, qc_s1 (by omega)]
theorem qc_a7 {a : Nat} (h : a < 8) : nI a &&& 7 = nI a := by
  rw [pk_andN (by omega) 3 (by decide), Nat.mod_eq_of_lt (by omega)]
theorem qc_a17 {a : Nat} (h : a < 8) : (nI a + 1) &&& 7 = nI ((a + 1) % 8) := by
  rw [nI_1, pk_andN (by omega) 3 (by decide)]
theorem qc_r8 {a : Nat} (h : a < 8) : (nI a + 1) - (nI a + 1) / 8 * 8 = nI ((a + 1) % 8) := by
  rw [nI_1]
  exact pk_rem (d := 8) (by omega) (by decide) (by decide)
def qc_sm (f : Nat → Nat) : Nat → Nat → Nat
  | 0, _ => 0
  | k + 1, j => f j + qc_sm f k (j + 1)
def qc_fr (f : Nat → Nat) : Nat → Nat → Nat
  | 0, j => j
  | k + 1, j => if f j = 0 then j else qc_fr f k (j + 1)
theorem qc_fr_in {f : Nat → Nat} : ∀ k j, j ≤ qc_fr f k j ∧ qc_fr f k j ≤ j + k ∧ (qc_fr f k j < j + k → f (qc_fr f k j) = 0) := by
  intro k
  induction k with
  | zero => intro j; exact ⟨Nat.le_refl _, Nat.le_refl _, fun h => absurd h (Nat.lt_irrefl _)⟩
  | succ k ih =>
    intro j
    unfold qc_fr
    split
    · rename_i h
      exact ⟨Nat.le_refl _, by omega, fun _ => h⟩
    · obtain ⟨a, b, c⟩ := ih (j + 1)
      exact ⟨by omega, by omega, fun h => c (by omega)⟩
theorem qc_fr_s {f : Nat → Nat} : ∀ k j, qc_fr f (k + 1) j = if qc_fr f k j < j + k then qc_fr f k j else if f (j + k) = 0 then j + k else j + k + 1 := by
  intro k
  induction k with
  | zero =>
    intro j
    show (if f j = 0 then j else j + 1) = if j < j + 0 then j else if f (j + 0) = 0 then j + 0 else j + 0 + 1
    rw [if_neg (show ¬ j < j + 0 by omega)]
    rfl
  | succ k ih =>
    intro j
    show (if f j = 0 then j else qc_fr f (k + 1) (j + 1)) = if (if f j = 0 then j else qc_fr f k (j + 1)) < j + (k + 1) then (if f j = 0 then j else qc_fr f k (j + 1)) else if f (j + (k + 1)) = 0 then j + (k + 1) else j + (k + 1) + 1
    by_cases h : f j = 0
    · rw [if_pos h, if_pos h, if_pos (by omega)]
    · rw [if_neg h, if_neg h, ih (j + 1)]
      have e : j + 1 + k = j + (k + 1) := by omega
      rw [e]
theorem qc_free {lv : Nat → Nat} {mc : Nat} (h1 : 1 ≤ mc) (h4 : mc ≤ 4) (hl : ∀ t, t < 5 → lv t ≤ 1) (hz : ∀ t, mc < t → t < 5 → lv t = 0) :
    (qc_fr lv mc 1 ≤ mc → qc_fr lv 4 1 = qc_fr lv mc 1 ∧ qc_sm lv 4 1 < mc) ∧ (¬ qc_fr lv mc 1 ≤ mc → mc ≤ qc_sm lv 4 1) := by
  have a1 := hl 1 (by omega)
  have a2 := hl 2 (by omega)
  have a3 := hl 3 (by omega)
  have a4 := hl 4 (by omega)
  have z2 := hz 2
  have z3 := hz 3
  have z4 := hz 4
  have e : mc = 1 ∨ mc = 2 ∨ mc = 3 ∨ mc = 4 := by omega
  have b1 : lv 1 = 0 ∨ lv 1 = 1 := by omega
  have b2 : lv 2 = 0 ∨ lv 2 = 1 := by omega
  have b3 : lv 3 = 0 ∨ lv 3 = 1 := by omega
  have b4 : lv 4 = 0 ∨ lv 4 = 1 := by omega
  clear a1 a2 a3 a4 hl hz h1 h4
  rcases e with rfl | rfl | rfl | rfl <;> rcases b1 with b1 | b1 <;> rcases b2 with b2 | b2 <;> rcases b3 with b3 | b3 <;> rcases b4 with b4 | b4 <;> first | omega | simp [qc_fr, qc_sm, b1, b2, b3, b4]
end
section
section
variable {mc md : Nat} {oo oa ob : Nat → Int32} {d s lv rs yr p q n m : Nat → Nat} {c r t x b : Nat} {l : List Nat}
theorem qc_uf {p : Nat → Nat} {f v t i c : Nat} (h1 : c * 6 ≤ f) (h2 : f < c * 6 + 6) (ht : t ≠ c) (hl : i < 6) : qc_u p f v (t * 6 + i) = p (t * 6 + i) := qc_uo (by omega)
theorem qc_uu (d : Nat → Nat) (k x y : Nat) : qc_u (qc_u d k x) k y = qc_u d k y := by
  funext j
  by_cases h : j = k
  · rw [h, qc_us, qc_us]
  · rw [qc_uo h, qc_uo h, qc_uo h]
theorem qc_tr_pc (hm : md ≤ 6) (I : qc_I mc md oo oa ob d s lv rs yr p q n m (c :: l)) (hx : x ≤ 64) :
    qc_I mc md oo oa ob d s lv rs yr (qc_u p (c * 6 + d c - 1) x) (qc_u q (c * 6 + d c - 1) x) n m (c :: l) := by
  obtain ⟨h1, h2, h3, h4, h5⟩ := I.2.2.2.2.1
  refine qc_I_hd hm (qc_J_of I) (fun t t5 ht => ⟨rfl, rfl, rfl, rfl, fun i hi => ⟨?_, ?_, rfl, rfl⟩⟩) ⟨h1, h2, h3, h4, fun i hi => ?_⟩
  · exact qc_uf (by omega) (by omega) ht hi
  · exact qc_uf (by omega) (by omega) ht hi
  · by_cases z : i = d c - 1
    · have e : c * 6 + i = c * 6 + d c - 1 := by omega
      have h := h5 i hi
      rw [e] at h ⊢
      rw [qc_us, qc_us]
      exact ⟨rfl, hx, h.2.2.1, h.2.2.2.1, fun y => by omega⟩
    · rw [qc_uo (by omega), qc_uo (by omega)]
      exact h5 i hi
theorem qc_tr_j (hm : md ≤ 6) (I : qc_I mc md oo oa ob d s lv rs yr p q n m (c :: l)) :
    qc_J mc md oo oa ob d s lv rs yr (qc_u p (c * 6 + d c - 1) x) q n m (c :: l) := by
  obtain ⟨h1, h2, h3, h4, h5⟩ := I.2.2.2.2.1
  refine qc_J_hd hm (qc_J_of I) (fun t t5 ht => ⟨rfl, rfl, rfl, rfl, fun i hi => ⟨?_, rfl, rfl, rfl⟩⟩) ⟨h1, h2, h3, h4, qc_Tw_of h5⟩
  exact qc_uf (by omega) (by omega) ht hi
theorem qc_tr_call (hm : md ≤ 6) (I : qc_I mc md oo oa ob d s lv rs yr p q n m (c :: l)) (hd : d c < md) (hx : qc_RA oa x) (hb : b ≤ 64) :
    qc_I mc md oo oa ob (qc_u d c (d c + 1)) s lv rs yr (qc_u (qc_u p (c * 6 + d c - 1) x) (c * 6 + d c) b) (qc_u (qc_u q (c * 6 + d c - 1) x) (c * 6 + d c) b)
      (qc_u n (c * 6 + d c) 0) (qc_u m (c * 6 + d c) 0) (c :: l) := by
  obtain ⟨h1, h2, h3, h4, h5⟩ := I.2.2.2.2.1
  refine qc_I_hd hm (qc_J_of I) (fun t t5 ht => ⟨qc_uo ht, rfl, rfl, rfl, fun i hi => ⟨?_, ?_, ?_, ?_⟩⟩) ⟨?_, ?_, h3, h4, fun i hi => ?_⟩
  · rw [qc_uf (c := c) (by omega) (by omega) ht hi, qc_uf (c := c) (by omega) (by omega) ht hi]
  · rw [qc_uf (c := c) (by omega) (by omega) ht hi, qc_uf (c := c) (by omega) (by omega) ht hi]
  · exact qc_uf (by omega) (by omega) ht hi
  · exact qc_uf (by omega) (by omega) ht hi
  · rw [qc_us]; omega
  · rw [qc_us]; omega
  · rw [qc_us] at hi ⊢
    by_cases z : i = d c
    · rw [z, qc_us, qc_us, qc_us, qc_us]
      exact ⟨rfl, hb, rfl, by omega, fun y => by omega⟩
    · rw [qc_uo (k := c * 6 + d c) (by omega), qc_uo (k := c * 6 + d c) (by omega), qc_uo (k := c * 6 + d c) (by omega), qc_uo (k := c * 6 + d c) (by omega)]
      by_cases y : i = d c - 1
      · have e : c * 6 + i = c * 6 + d c - 1 := by omega
        have h := h5 i (by omega)
        rw [e] at h ⊢
        rw [qc_us, qc_us]
        exact ⟨rfl, hx.2.1, h.2.2.1, h.2.2.2.1, fun _ => hx⟩
      · rw [qc_uo (by omega), qc_uo (by omega)]
        have h := h5 i (by omega)
        exact ⟨h.1, h.2.1, h.2.2.1, h.2.2.2.1, fun _ => h.2.2.2.2 (by omega)⟩
theorem qc_tr_ret1 (hm : md ≤ 6) (I : qc_I mc md oo oa ob d s lv rs yr p q n m (c :: l)) (hd : 1 < d c) :
    qc_I mc md oo oa ob (qc_u d c (d c - 1)) s lv rs yr (qc_u p (c * 6 + d c - 1) x) q n (qc_u m (c * 6 + d c - 1) 0) (c :: l) := by
  obtain ⟨h1, h2, h3, h4, h5⟩ := I.2.2.2.2.1
  refine qc_I_hd hm (qc_J_of I) (fun t t5 ht => ⟨qc_uo ht, rfl, rfl, rfl, fun i hi => ⟨?_, rfl, rfl, ?_⟩⟩) ⟨?_, ?_, h3, h4, fun i hi => ?_⟩
  · exact qc_uf (by omega) (by omega) ht hi
  · exact qc_uf (by omega) (by omega) ht hi
  · rw [qc_us]; omega
  · rw [qc_us]; omega
  · rw [qc_us] at hi ⊢
    rw [qc_uo (k := c * 6 + d c - 1) (by omega), qc_uo (k := c * 6 + d c - 1) (by omega)]
    have h := h5 i (by omega)
    exact ⟨h.1, h.2.1, h.2.2.1, h.2.2.2.1, fun y => h.2.2.2.2 (by omega)⟩
theorem qc_tr_ret2 (hm : md ≤ 6) (I : qc_I mc md oo oa ob d s lv rs yr p q n m (c :: r :: l)) (hd : d c = 1) :
    qc_I mc md oo oa ob (qc_u d c (d c - 1)) (qc_u (qc_u s c 3) r 1) (qc_u lv c 0) rs yr (qc_u p (c * 6 + d c - 1) x) q n (qc_u m (c * 6 + d c - 1) 0) (r :: l) := by
  have hc : c ∉ r :: l := (List.nodup_cons.mp I.2.1).1
  have hcr : c ≠ r := fun z => hc (by rw [z]; exact List.mem_cons_self)
  refine qc_I_lv hm (qc_J_of I) (fun t t5 ht hr => ⟨qc_uo ht, ?_, qc_uo ht, rfl, fun i hi => ⟨?_, rfl, rfl, ?_⟩⟩) ⟨qc_uo hcr.symm, qc_uo hcr.symm, fun i hi => ⟨?_, rfl, rfl, ?_⟩⟩ (qc_us _ _ _) (.inl ⟨?_, qc_us _ _ _, ?_⟩)
  · rw [qc_uo hr, qc_uo ht]
  · exact qc_uf (by omega) (by omega) ht hi
  · exact qc_uf (by omega) (by omega) ht hi
  · exact qc_uf (by omega) (by omega) hcr.symm hi
  · exact qc_uf (by omega) (by omega) hcr.symm hi
  · rw [qc_uo hcr, qc_us]
  · rw [qc_us]; omega
theorem qc_tr_ret3 (hm : md ≤ 6) (I : qc_I mc md oo oa ob d s lv rs yr p q n m [0]) (h0 : lv 0 = 0) (hd : d 0 = 1) :
    qc_I mc md oo oa ob (qc_u d 0 (d 0 - 1)) (qc_u s 0 3) lv rs yr (qc_u p (0 * 6 + d 0 - 1) x) q n (qc_u m (0 * 6 + d 0 - 1) 0) [] := by
  refine qc_I_end hm (qc_J_of I) (fun t t5 ht => ⟨qc_uo ht, qc_uo ht, rfl, rfl, fun i hi => ⟨?_, rfl, rfl, ?_⟩⟩) (.inl ⟨qc_us _ _ _, h0, ?_⟩)
  · exact qc_uf (c := 0) (by omega) (by omega) ht hi
  · exact qc_uf (c := 0) (by omega) (by omega) ht hi
  · rw [qc_us]; omega
theorem qc_tr_yield (hm : md ≤ 6) (I : qc_I mc md oo oa ob d s lv rs yr p q n m (c :: r :: l)) (hx : 1 ≤ x) (hx' : x ≤ 64) (hb : b < 8) (he : ob (x - 1) = nI b) :
    qc_I mc md oo oa ob d (qc_u (qc_u s c 0) r 1) lv rs (qc_u yr c b) (qc_u p (c * 6 + d c - 1) x) (qc_u q (c * 6 + d c - 1) x) n m (r :: l) := by
  have hc : c ∉ r :: l := (List.nodup_cons.mp I.2.1).1
  have hcr : c ≠ r := fun z => hc (by rw [z]; exact List.mem_cons_self)
  have I' := qc_tr_pc hm I hx'
  obtain ⟨h1, h2, h3, h4, h5⟩ := I'.2.2.2.2.1
  refine qc_I_lv hm (qc_J_of I') (fun t t5 ht hr => ⟨rfl, ?_, rfl, qc_uo ht, fun i hi => ⟨rfl, rfl, rfl, rfl⟩⟩) ⟨rfl, rfl, fun i hi => ⟨rfl, rfl, rfl, rfl⟩⟩ (qc_us _ _ _) (.inr ⟨I.1.1, ?_, h4 I.1.1, h2, h5, fun _ => ?_⟩)
  · rw [qc_uo hr, qc_uo ht]
  · rw [qc_uo hcr, qc_us]
  · rw [qc_us, qc_us]
    exact ⟨hx, hb, he⟩
theorem qc_tr_raise (hm : md ≤ 6) (I : qc_J mc md oo oa ob d s lv rs yr p q n m (c :: r :: l)) :
    qc_I mc md oo oa ob (qc_u d c 0) (qc_u (qc_u s c 3) r 1) (qc_u lv c 0) rs yr p q n (qc_mz c (d c) m) (r :: l) := by
  have hc : c ∉ r :: l := (List.nodup_cons.mp I.2.1).1
  have hcr : c ≠ r := fun z => hc (by rw [z]; exact List.mem_cons_self)
  have hd : d c ≤ md := I.2.2.2.2.1.2.1
  refine qc_I_lv hm I (fun t t5 ht hr => ⟨qc_uo ht, ?_, qc_uo ht, rfl, fun i hi => ⟨rfl, rfl, rfl, ?_⟩⟩) ⟨qc_uo hcr.symm, qc_uo hcr.symm, fun i hi => ⟨rfl, rfl, rfl, ?_⟩⟩ (qc_us _ _ _) (.inl ⟨?_, qc_us _ _ _, qc_us _ _ _⟩)
  · rw [qc_uo hr, qc_uo ht]
  · exact qc_mz_o _ _ (fun k hk => by omega)
  · exact qc_mz_o _ _ (fun k hk => by omega)
  · rw [qc_uo hcr, qc_us]
theorem qc_tr_raise0 (hm : md ≤ 6) (I : qc_J mc md oo oa ob d s lv rs yr p q n m [0]) (h0 : lv 0 = 0) :
    qc_I mc md oo oa ob (qc_u d 0 0) (qc_u s 0 3) lv rs yr p q n (qc_mz 0 (d 0) m) [] := by
  have hd : d 0 ≤ md := I.2.2.2.2.1.2.1
  refine qc_I_end hm I (fun t t5 ht => ⟨qc_uo ht, qc_uo ht, rfl, rfl, fun i hi => ⟨rfl, rfl, rfl, ?_⟩⟩) (.inl ⟨qc_us _ _ _, h0, qc_us _ _ _⟩)
  exact qc_mz_o _ _ (fun k hk => by omega)
theorem qc_tr_N (hm : md ≤ 6) (I : qc_I mc md oo oa ob d s lv rs yr p q n m (c :: l)) (hx : qc_RA oa x) (ho : oo (x - 1) = 13 ∨ oo (x - 1) = 14) {s' : Nat → Nat} (hs : s' c = 2) :
    qc_N md oo oa d s' lv (qc_u p (c * 6 + d c - 1) x) (qc_u q (c * 6 + d c - 1) x) n m c := by
  obtain ⟨h1, h2, h3, h4, h5⟩ := (qc_tr_pc hm I hx.2.1).2.2.2.2.1
  refine ⟨h1, h2, hs, h4, h5, ?_, ?_⟩
  · rw [qc_us]; exact hx
  · rw [qc_us]; exact ho
theorem qc_tr_en1 (hm : md ≤ 6) (h1m : 1 ≤ md) (I : qc_I mc md oo oa ob d s lv rs yr p q n m (c :: l)) (hx : qc_RA oa x) (ho : oo (x - 1) = 13 ∨ oo (x - 1) = 14)
    (t5 : t < 5) (ht : t ∉ c :: l) (hs : s t = 0) (hd : d t = 0) (hb : b ≤ 64) :
    qc_I mc md oo oa ob (qc_u d t (d t + 1)) (qc_u (qc_u s c 2) t 1) lv (qc_u rs t c) yr (qc_u (qc_u p (c * 6 + d c - 1) x) (t * 6 + d t) b) (qc_u (qc_u q (c * 6 + d c - 1) x) (t * 6 + d t) b)
      (qc_u n (t * 6 + d t) 0) (qc_u m (t * 6 + d t) 0) (t :: c :: l) := by
  have htc : t ≠ c := fun z => ht (by rw [z]; exact List.mem_cons_self)
  have I' := qc_tr_pc hm I hx.2.1
  rcases I.2.2.2.2.2.2 t t5 ht with o | ⟨t0, o1, o2, o3, o4, o5⟩
  · omega
  refine qc_I_en hm I' t5 t0 ht (fun y y5 hc hy => ⟨qc_uo hy, ?_, rfl, rfl, fun i hi => ⟨?_, ?_, ?_, ?_⟩⟩) ?_ ⟨?_, ?_, qc_us _ _ _, fun _ => o2, fun i hi => ?_⟩
  · rw [qc_uo hy, qc_uo hc]
  · exact qc_uf (by omega) (by omega) hy hi
  · exact qc_uf (by omega) (by omega) hy hi
  · exact qc_uf (by omega) (by omega) hy hi
  · exact qc_uf (by omega) (by omega) hy hi
  · refine qc_N_c hm (s := qc_u (qc_u s c 2) t 1) (yr := yr) (yr' := yr) ⟨qc_uo htc.symm, rfl, rfl, rfl, fun i hi => ⟨?_, ?_, ?_, ?_⟩⟩ (qc_tr_N hm I hx ho ?_)
    · exact qc_uf (by omega) (by omega) htc.symm hi
    · exact qc_uf (by omega) (by omega) htc.symm hi
    · exact qc_uf (by omega) (by omega) htc.symm hi
    · exact qc_uf (by omega) (by omega) htc.symm hi
    · rw [qc_uo htc.symm, qc_us]
  · rw [qc_us]; omega
  · rw [qc_us]; omega
  · rw [qc_us] at hi ⊢
    have e : i = d t := by omega
    rw [e, qc_us, qc_us, qc_us, qc_us]
    exact ⟨rfl, hb, rfl, by omega, fun y => by omega⟩
theorem qc_tr_en2 (hm : md ≤ 6) (I : qc_I mc md oo oa ob d s lv rs yr p q n m (c :: l)) (hx : qc_RA oa x) (ho : oo (x - 1) = 13 ∨ oo (x - 1) = 14)
    (t5 : t < 5) (ht : t ∉ c :: l) (hs : s t = 0) (hd : 0 < d t) :
    qc_I mc md oo oa ob d (qc_u (qc_u s c 2) t 1) lv (qc_u rs t c) yr (qc_u p (c * 6 + d c - 1) x) (qc_u q (c * 6 + d c - 1) x) n m (t :: c :: l) := by
  have htc : t ≠ c := fun z => ht (by rw [z]; exact List.mem_cons_self)
  have I' := qc_tr_pc hm I hx.2.1
  rcases I'.2.2.2.2.2.2 t t5 ht with o | ⟨t0, o1, o2, o3, o4, o5⟩
  · omega
  refine qc_I_en hm I' t5 t0 ht (fun y y5 hc hy => ⟨rfl, ?_, rfl, rfl, fun i hi => ⟨rfl, rfl, rfl, rfl⟩⟩) (qc_tr_N hm I hx ho ?_) ⟨hd, o3, qc_us _ _ _, fun _ => o2, o4⟩
  · rw [qc_uo hy, qc_uo hc]
  · rw [qc_uo htc.symm, qc_us]
theorem qc_tr_create (hm : md ≤ 6) (I : qc_I mc md oo oa ob d s lv rs yr p q n m (c :: l)) (t5 : t < 5) (t0 : t ≠ 0) (htm : t ≤ mc) (hs : s t = 3) :
    d t = 0 ∧ qc_I mc md oo oa ob d (qc_u s t 0) (qc_u lv t 1) rs yr p q n m (c :: l) := by
  have ht : t ∉ c :: l := by
    intro z
    rcases List.mem_cons.mp z with z | z
    · have := I.2.2.2.2.1.2.2.1
      rw [← z] at this
      omega
    · have := (I.2.2.2.2.2.1 t z).2.2.1
      omega
  rcases I.2.2.2.2.2.2 t t5 ht with ⟨o1, o2, o3⟩ | o
  · refine ⟨o3, qc_I_out hm I ht (fun y y5 hy => ⟨rfl, qc_uo hy, qc_uo hy, rfl, fun i hi => ⟨rfl, rfl, rfl, rfl⟩⟩) (fun _ z => by omega) (fun _ => .inr ⟨t0, qc_us _ _ _, qc_us _ _ _, by omega, fun i hi => by omega, fun z => by omega⟩)⟩
  · omega
theorem qc_tr_close (hm : md ≤ 6) (I : qc_I mc md oo oa ob d s lv rs yr p q n m (c :: l)) (ht : t ∉ c :: l) (hd : d t ≤ 6) :
    qc_I mc md oo oa ob (qc_u d t 0) (qc_u s t 3) (qc_u lv t 0) rs yr p q n (qc_mz t (d t) m) (c :: l) := by
  refine qc_I_out hm I ht (fun y y5 hy => ⟨qc_uo hy, qc_uo hy, qc_uo hy, rfl, fun i hi => ⟨rfl, rfl, rfl, ?_⟩⟩) (fun _ _ => qc_us _ _ _) (fun _ => .inl ⟨qc_us _ _ _, qc_us _ _ _, qc_us _ _ _⟩)
  exact qc_mz_o _ _ (fun k hk => by omega)
theorem qc_tr_defer (hm : md ≤ 6) (I : qc_I mc md oo oa ob d s lv rs yr p q n m (c :: l)) (hx : x ≤ 4) :
    qc_I mc md oo oa ob d s lv rs yr p q (qc_u n (c * 6 + d c - 1) x) (qc_u m (c * 6 + d c - 1) x) (c :: l) := by
  obtain ⟨h1, h2, h3, h4, h5⟩ := I.2.2.2.2.1
  refine qc_I_hd hm (qc_J_of I) (fun t t5 ht => ⟨rfl, rfl, rfl, rfl, fun i hi => ⟨rfl, rfl, ?_, ?_⟩⟩) ⟨h1, h2, h3, h4, fun i hi => ?_⟩
  · exact qc_uf (by omega) (by omega) ht hi
  · exact qc_uf (by omega) (by omega) ht hi
  · have h := h5 i hi
    by_cases z : i = d c - 1
    · have e : c * 6 + i = c * 6 + d c - 1 := by omega
      rw [e] at h ⊢
      rw [qc_us, qc_us]
      exact ⟨h.1, h.2.1, rfl, hx, fun y => by omega⟩
    · rw [qc_uo (k := c * 6 + d c - 1) (by omega), qc_uo (k := c * 6 + d c - 1) (by omega)]
      exact h
theorem qc_tr_start (hm : md ≤ 6) (h1m : 1 ≤ md) (I : qc_I mc md oo oa ob d s lv rs yr p q n m []) (hb : b ≤ 64) :
    d 0 = 0 ∧ qc_I mc md oo oa ob (qc_u d 0 (d 0 + 1)) (qc_u s 0 1) lv rs yr (qc_u p (0 * 6 + d 0) b) (qc_u q (0 * 6 + d 0) b) (qc_u n (0 * 6 + d 0) 0) (qc_u m (0 * 6 + d 0) 0) [0] := by
  have h0 : d 0 = 0 := by
    rcases I.2.2.2.2 0 (by omega) with ⟨o1, o2, o3⟩ | o
    · exact o3
    · exact absurd rfl o.1
  refine ⟨h0, qc_I_beg hm I (fun y y5 hy => ⟨qc_uo hy, qc_uo hy, rfl, rfl, fun i hi => ⟨?_, ?_, ?_, ?_⟩⟩) ⟨?_, ?_, qc_us _ _ _, fun z => absurd rfl z, fun i hi => ?_⟩⟩
  · exact qc_uf (c := 0) (by omega) (by omega) hy hi
  · exact qc_uf (c := 0) (by omega) (by omega) hy hi
  · exact qc_uf (c := 0) (by omega) (by omega) hy hi
  · exact qc_uf (c := 0) (by omega) (by omega) hy hi
  · rw [qc_us]; omega
  · rw [qc_us]; omega
  · rw [qc_us] at hi ⊢
    have e : i = d 0 := by omega
    rw [e, qc_us, qc_us, qc_us, qc_us]
    exact ⟨rfl, hb, rfl, by omega, fun y => by omega⟩
end
end
section
def qc_R8 (x : Int32) : Prop := ∃ a, a < 8 ∧ x = nI a
def qc_A6 (x : Int32) : Prop := ∃ a, a < 64 ∧ x = nI a
def qc_Fit (o a b c : Int32) : Prop :=
  ((o = 0 ∨ o = 8 ∨ o = 9 ∨ o = 10 ∨ o = 11 ∨ o = 18) ∧ qc_R8 a) ∨
  ((o = 1 ∨ o = 15 ∨ o = 16 ∨ o = 17) ∧ qc_R8 a ∧ qc_R8 b) ∨
  ((o = 2 ∨ o = 3 ∨ o = 4 ∨ o = 13 ∨ o = 14) ∧ qc_R8 a ∧ qc_R8 b ∧ qc_R8 c) ∨
  (o = 5 ∧ qc_A6 a) ∨
  ((o = 6 ∨ o = 12) ∧ qc_R8 a ∧ qc_A6 b) ∨
  (o = 7 ∧ qc_R8 a ∧ qc_A6 b ∧ qc_R8 c)
def qc_K (mc md cl lc h B : Nat) (oo oa ob oc : Nat → Int32) (lv bd : Nat → Nat) : Prop :=
  (1 ≤ mc ∧ mc ≤ 4) ∧ (1 ≤ md ∧ md ≤ 6) ∧ cl ≤ 64 ∧ lc ≤ 64 ∧ h ≤ B ∧ (∀ i, i < cl → qc_Fit (oo i) (oa i) (ob i) (oc i)) ∧ (∀ t, bd t < 64) ∧ lv 0 = 0
def qc_S (st rt : Int32) (L : List Nat) : Prop :=
  (st = 1 ∧ rt = 0 ∧ L ≠ []) ∨ (st = 0 ∧ rt = 0 ∧ L = []) ∨ ((st = 2 ∨ st = 3) ∧ L = [])
def qz_Z (hd lv d p : Nat → Nat) (h mp mL : Nat) (D : Nat → Prop) (L : List Nat) : Prop :=
  (hd 0 = 0 ∧ (∀ t, t ≠ 0 → t < 5 → lv t = 1 → 1 ≤ hd t ∧ hd t ≤ h) ∧ (∀ t t', t ≠ 0 → t < 5 → t' ≠ 0 → t' < 5 → lv t = 1 → lv t' = 1 → hd t = hd t' → t = t')) ∧
  (∀ j, D j → j ≤ h ∧ ∀ t, t ≠ 0 → t < 5 → lv t = 1 → hd t ≠ j) ∧
  (L ≠ [] → d 0 = 1 ∧ p 0 = mp ∧ mp ≤ mL)
def qz_mp (c x : Nat) : Nat := if c = 0 then x + 1 else x
def qz_R (mc cl : Nat) (oo oa ob oc : Nat → Int32) (B mp mL : Nat) (D : Nat → Prop) (u : St2) : Prop :=
  ∃ (md lc cu h : Nat) (st rt re : Int32) (lg rg tg : Nat → Int32) (hd d s lv rs bd yr p q n m : Nat → Nat) (L : List Nat),
    u = (nI mc, nI md, nI cl, nI lc, st, rt, nI cu, nI h, 0, re, oo, oa, ob, oc, lg, (fun zz => nI (hd zz)), (fun zz => nI (s zz)), (fun zz => nI (rs zz)), (fun zz => nI (bd zz)), (fun zz => nI (d zz)), (fun zz => nI (p zz)), (fun zz => nI (n zz)), rg, tg) ∧
    qc_K mc md cl lc h B oo oa ob oc lv bd ∧ qc_S st rt L ∧ ((∀ c l, L = c :: l → cu = c) ∧ (st = 0 → ∀ t, t < 5 → s t = 3)) ∧
    qc_I mc md oo oa ob d s lv rs yr p q n m L ∧ qz_Z hd lv d p h mp mL D L
def qz_Q (mc cl : Nat) (oo oa ob oc : Nat → Int32) (B mp mL : Nat) (D : Nat → Prop) (u : St2) (c : Nat) (e : Int32) : Prop :=
  ∃ (md lc h : Nat) (lg rg tg : Nat → Int32) (hd d s lv rs bd yr p q n m : Nat → Nat) (l : List Nat),
    u = (nI mc, nI md, nI cl, nI lc, 1, 0, nI c, nI h, 1, e, oo, oa, ob, oc, lg, (fun zz => nI (hd zz)), (fun zz => nI (s zz)), (fun zz => nI (rs zz)), (fun zz => nI (bd zz)), (fun zz => nI (d zz)), (fun zz => nI (p zz)), (fun zz => nI (n zz)), rg, tg) ∧
    qc_K mc md cl lc h B oo oa ob oc lv bd ∧
    qc_J mc md oo oa ob d s lv rs yr p q n m (c :: l) ∧ qz_Z hd lv d p h mp mL D (c :: l)
theorem qz_mpl {c mp mL : Nat} (m0 : c = 0 → mp + 1 ≤ mL) (b : mp ≤ mL) : qz_mp c mp ≤ mL := by
  unfold qz_mp
  by_cases z : c = 0
  · rw [if_pos z]; exact m0 z
  · rw [if_neg z]; exact b
section
variable {mc md cl lc cu h B mp mL : Nat} {st rt lh rd re : Int32} {D : Nat → Prop} {oo oa ob oc lg rg tg : Nat → Int32} {hd d s lv rs bd yr p q n m : Nat → Nat} {c r t x a b : Nat} {l L : List Nat}
theorem qz_Za {lv' d' p' : Nat → Nat} {L' : List Nat} (Z : qz_Z hd lv d p h mp mL D (c :: l)) (hv : ∀ t, lv' t = 1 → lv t = 1) (hm : L' ≠ [] → (c = 0 → mp + 1 ≤ mL) ∧ d' 0 = d 0 ∧ p' 0 = qz_mp c (p 0)) : qz_Z hd lv' d' p' h (qz_mp c mp) mL D L' := by
  obtain ⟨⟨a1, a2, a3⟩, a4, a5⟩ := Z
  refine ⟨⟨a1, fun t t0 t5 w => a2 t t0 t5 (hv t w), fun t t' t0 t5 s0 s5 w w' => a3 t t' t0 t5 s0 s5 (hv t w) (hv t' w')⟩, fun j hj => ⟨(a4 j hj).1, fun t t0 t5 w => (a4 j hj).2 t t0 t5 (hv t w)⟩, fun hL => ?_⟩
  obtain ⟨m0, m1, m2⟩ := hm hL
  obtain ⟨b1, b2, b3⟩ := a5 (by simp)
  rw [m1, m2, b2]
  exact ⟨b1, rfl, qz_mpl m0 b3⟩
theorem qz_Zk {lv' d' : Nat → Nat} {L' : List Nat} (Z : qz_Z hd lv d p h mp mL D (c :: l)) (hv : ∀ t, lv' t = 1 → lv t = 1) (hm : L' ≠ [] → d' 0 = d 0) : qz_Z hd lv' d' p h mp mL D L' := by
  obtain ⟨⟨a1, a2, a3⟩, a4, a5⟩ := Z
  refine ⟨⟨a1, fun t t0 t5 w => a2 t t0 t5 (hv t w), fun t t' t0 t5 s0 s5 w w' => a3 t t' t0 t5 s0 s5 (hv t w) (hv t' w')⟩, fun j hj => ⟨(a4 j hj).1, fun t t0 t5 w => (a4 j hj).2 t t0 t5 (hv t w)⟩, fun hL => ?_⟩
  obtain ⟨b1, b2, b3⟩ := a5 (by simp)
  rw [hm hL, b2]
  exact ⟨b1, rfl, b3⟩
theorem qz_Zc {F : Nat} {p' : Nat → Nat} (Z : qz_Z hd lv d p h mp mL D (c :: l)) (F0 : F ≠ 0) (m0 : c = 0 → mp + 1 ≤ mL) (hm : p' 0 = qz_mp c (p 0)) : qz_Z (qc_u hd F (h + 1)) (qc_u lv F 1) d p' (h + 1) (qz_mp c mp) mL D (c :: l) := by
  obtain ⟨⟨a1, a2, a3⟩, a4, a5⟩ := Z
  have lo : ∀ t, t ≠ F → qc_u lv F 1 t = 1 → lv t = 1 := fun t ht w => by rw [qc_uo ht] at w; exact w
  refine ⟨⟨?_, fun t t0 t5 w => ?_, fun t t' t0 t5 s0 s5 w w' e => ?_⟩, fun j hj => ⟨by have := (a4 j hj).1; omega, fun t t0 t5 w => ?_⟩, fun hL => ?_⟩
  · rw [qc_uo (by omega)]; exact a1
  · by_cases z : t = F
    · rw [z, qc_us]; omega
    · rw [qc_uo z]; have := a2 t t0 t5 (lo t z w); omega
  · by_cases z : t = F
    · by_cases y : t' = F
      · rw [z, y]
      · rw [z, qc_us, qc_uo y] at e
        have := a2 t' s0 s5 (lo t' y w'); omega
    · by_cases y : t' = F
      · rw [y, qc_us, qc_uo z] at e
        have := a2 t t0 t5 (lo t z w); omega
      · rw [qc_uo z, qc_uo y] at e
        exact a3 t t' t0 t5 s0 s5 (lo t z w) (lo t' y w') e
  · by_cases z : t = F
    · rw [z, qc_us]; have := (a4 j hj).1; omega
    · rw [qc_uo z]; exact (a4 j hj).2 t t0 t5 (lo t z w)
  · obtain ⟨b1, b2, b3⟩ := a5 (by simp)
    rw [hm, b2]
    exact ⟨b1, rfl, qz_mpl m0 b3⟩
theorem qz_p0 (Z : qz_Z hd lv d p h mp mL D (c :: l)) (h1 : 1 ≤ d c) (hp : p (c * 6 + d c - 1) = x) : qc_u p (c * 6 + d c - 1) (x + 1) 0 = qz_mp c (p 0) := by
  unfold qz_mp
  by_cases z : c = 0
  · rw [if_pos z]
    have d1 := (Z.2.2 (by simp)).1
    have e : c * 6 + d c - 1 = 0 := by rw [z, d1]
    rw [e] at hp ⊢
    rw [qc_us, hp]
  · rw [if_neg z, qc_uo (by omega)]
theorem qz_p1 (c0 : c ≠ 0) (h1 : 1 ≤ d c) (y : Nat) : qc_u p (c * 6 + d c - 1) y 0 = qz_mp c (p 0) := by
  unfold qz_mp
  rw [if_neg c0, qc_uo (by omega)]
end
end
section
theorem qc_st {d : Nat → Nat} {k x : Nat} {i V : Int32} (hi : i = nI k) (hV : V = nI x) (hk : k < 2 ^ 31) : upd (fun zz => nI (d zz)) i.toNatClampNeg V = fun zz => nI (qc_u d k x zz) := by
  subst hi hV
  rw [nI_clamp hk]
  exact qc_uI d k x
theorem qc_sr {f : Nat → Int32} {k : Nat} {i V W : Int32} (hi : i = nI k) (hk : k < 2 ^ 31) (hV : V = W) : upd f i.toNatClampNeg V = upd f k W := by
  subst hi hV
  rw [nI_clamp hk]
theorem qc_rr {f : Nat → Int32} {k : Nat} {i : Int32} (hi : i = nI k) (hk : k < 2 ^ 31) : f i.toNatClampNeg = f k := by
  subst hi
  rw [nI_clamp hk]
theorem qc_rd (d : Nat → Nat) {k : Nat} {i : Int32} (hi : i = nI k) (hk : k < 2 ^ 31) : (fun zz => nI (d zz)) i.toNatClampNeg = nI (d k) := by
  subst hi
  show nI (d _) = _
  rw [nI_clamp hk]
theorem qc_vi {i : Int32} {k N : Nat} (hi : i = nI k) (hk : k < N) (hN : N < 2 ^ 31) : vp_in i N := by
  subst hi
  exact vp_in_nI hk hN
theorem qc_in1 {V : Int32} {x : Nat} (h : V = nI x) : V + 1 = nI (x + 1) := by rw [h, nI_1]
theorem qc_de1 {V : Int32} {x : Nat} (h : V = nI x) (h1 : 1 ≤ x) : V - 1 = nI (x - 1) := by rw [h, qc_s1 h1]
theorem qc_fr8 {f a : Nat} {F A : Int32} (hF : F = nI f) (hA : A = nI a) : F * 8 + A = nI (f * 8 + a) := by rw [hF, hA, qc_m8, nI_add]
theorem qc_fr4 {f a : Nat} {F A : Int32} (hF : F = nI f) (hA : A = nI a) : F * 4 + A = nI (f * 4 + a) := by rw [hF, hA, qc_m4, nI_add]
section
variable {mc md cl lc cu h B mp mL : Nat} {st rt lh rd re : Int32} {D : Nat → Prop} {oo oa ob oc lg rg tg : Nat → Int32} {hd d s lv rs bd yr p q n m : Nat → Nat} {c r t x a b : Nat} {l L : List Nat}
theorem qc_xap (P : St2 → Prop) {v w : Int32} (hv : v = w) (hl : lc ≤ 64) (h : P (nI mc, nI md, nI cl, nI ((qc_ap (lg, lc) w).2), st, rt, nI cu, lh, rd, re, oo, oa, ob, oc, (qc_ap (lg, lc) w).1, (fun zz => nI (hd zz)), (fun zz => nI (s zz)), (fun zz => nI (rs zz)), (fun zz => nI (bd zz)), (fun zz => nI (d zz)), (fun zz => nI (p zz)), (fun zz => nI (n zz)), rg, tg)) : wpX_appendLog P (nI mc, nI md, nI cl, nI lc, st, rt, nI cu, lh, rd, re, oo, oa, ob, oc, lg, (fun zz => nI (hd zz)), (fun zz => nI (s zz)), (fun zz => nI (rs zz)), (fun zz => nI (bd zz)), (fun zz => nI (d zz)), (fun zz => nI (p zz)), (fun zz => nI (n zz)), rg, tg) v := by
  subst hv
  by_cases z : lc < 64
  · have e : qc_ap (lg, lc) v = (upd lg lc v, lc + 1) := if_pos z
    rw [e] at h
    exact br_f (nI_ge (b := 64) z (by decide)) ⟨vp_in_nI z (by decide), nm_r (qc_sr rfl (by omega) rfl) (nm_r (nI_1 lc) h)⟩
  · have e : qc_ap (lg, lc) v = (lg, lc) := if_neg z
    rw [e] at h
    exact br_t (nI_le (a := 64) (by omega) (by omega)) h
theorem qc_xtf (P : Int32 → Prop) (t5 : t < 5) (h1 : 1 ≤ d t) (h : P (nI (t * 6 + d t - 1))) : wpX_topFrame P (nI mc, nI md, nI cl, nI lc, st, rt, nI cu, lh, rd, re, oo, oa, ob, oc, lg, (fun zz => nI (hd zz)), (fun zz => nI (s zz)), (fun zz => nI (rs zz)), (fun zz => nI (bd zz)), (fun zz => nI (d zz)), (fun zz => nI (p zz)), (fun zz => nI (n zz)), rg, tg) (nI t) := by
  refine ⟨vp_in_nI t5 (by decide), ?_⟩
  show P (nI t * 6 + nI (d (nI t).toNatClampNeg) - 1)
  rw [nI_clamp (by omega), qc_tf h1]
  exact h
theorem qc_xpl (P : St2 → Prop) {f : Nat} (hf : f < 30) : ∀ (k r : Nat) (rg : Nat → Int32), r + k = 8 → P (nI mc, nI md, nI cl, nI lc, st, rt, nI cu, lh, rd, re, oo, oa, ob, oc, lg, (fun zz => nI (hd zz)), (fun zz => nI (s zz)), (fun zz => nI (rs zz)), (fun zz => nI (bd zz)), (fun zz => nI (d zz)), (fun zz => nI (p zz)), (fun zz => nI (n zz)), (qc_z rg (f * 8) r), tg) → wX_pushFrame_47 P (nI f) (nI mc) (nI md) (nI cl) (nI lc) st rt (nI cu) lh rd re (k + 1) (nI r) oo oa ob oc lg (fun zz => nI (hd zz)) (fun zz => nI (s zz)) (fun zz => nI (rs zz)) (fun zz => nI (bd zz)) (fun zz => nI (d zz)) (fun zz => nI (p zz)) (fun zz => nI (n zz)) rg tg := by
  intro k
  induction k with
  | zero =>
    intro r rg hr h
    have e : r = 8 := by omega
    subst e
    rw [qc_z8] at h
    exact br_t (nI_le (a := 8) (b := 8) (by omega) (by decide)) h
  | succ k ih =>
    intro r rg hr h
    have e : nI f * 8 + nI r = nI (f * 8 + r) := qc_fr8 rfl rfl
    refine br_f (nI_ge (b := 8) (by omega) (by decide)) ⟨qc_vi e (by omega) (by decide), nm_r (qc_sr e (by omega) rfl) (nm_r (nI_1 r) (ih (r + 1) _ (by omega) ?_))⟩
    rw [qc_zs _ (by omega)]
    exact h
theorem qc_xpush (P : St2 → Prop) (v : Int32) (t5 : t < 5) (hdl : d t < 6)
    (h : P (nI mc, nI md, nI cl, nI lc, st, rt, nI cu, lh, rd, re, oo, oa, ob, oc, lg, (fun zz => nI (hd zz)), (fun zz => nI (s zz)), (fun zz => nI (rs zz)), (fun zz => nI (bd zz)), (fun zz => nI ((qc_u d t (d t + 1)) zz)), (fun zz => nI ((qc_u p (t * 6 + d t) a) zz)), (fun zz => nI ((qc_u n (t * 6 + d t) 0) zz)), (qc_pr rg ((t * 6 + d t) * 8) v), tg)) : wpX_pushFrame P (nI mc, nI md, nI cl, nI lc, st, rt, nI cu, lh, rd, re, oo, oa, ob, oc, lg, (fun zz => nI (hd zz)), (fun zz => nI (s zz)), (fun zz => nI (rs zz)), (fun zz => nI (bd zz)), (fun zz => nI (d zz)), (fun zz => nI (p zz)), (fun zz => nI (n zz)), rg, tg) (nI t) (nI a) v := by
  refine ⟨vp_in_nI t5 (by decide), vp_in_nI t5 (by decide), nm_r (qc_st rfl (qc_in1 (qc_rd d rfl (by omega))) (by omega)) ?_⟩
  have e : t * 6 + qc_u d t (d t + 1) t - 1 = t * 6 + d t := by rw [qc_us]; omega
  refine qc_xtf (d := qc_u d t (d t + 1)) _ t5 (by rw [qc_us]; omega) ?_
  rw [e]
  refine ⟨vp_in_nI (by omega) (by decide), nm_r (qc_st rfl rfl (by omega)) ⟨vp_in_nI (by omega) (by decide), nm_r (qc_st (x := 0) rfl rfl (by omega)) ⟨qc_vi (qc_m8 _) (by omega) (by decide), nm_r (qc_sr (qc_m8 _) (by omega) rfl) ⟨8, ?_⟩⟩⟩⟩
  refine qc_xpl P (by omega) 7 1 _ rfl ?_
  rw [qc_pr_x]
  exact h
theorem qc_xpopl (P : St2 → Prop) {f : Nat} (t5 : t < 5) (hf : f < 30) (h1 : 1 ≤ d t) (h6 : d t ≤ 6) : ∀ (k lc : Nat) (lg : Nat → Int32) (x3 : Int32), x3 = nI k - 1 → k ≤ 4 → lc ≤ 64 →
    P (nI mc, nI md, nI cl, nI ((qc_cl tg f k (lg, lc)).2), st, rt, nI cu, lh, rd, re, oo, oa, ob, oc, (qc_cl tg f k (lg, lc)).1, (fun zz => nI (hd zz)), (fun zz => nI (s zz)), (fun zz => nI (rs zz)), (fun zz => nI (bd zz)), (fun zz => nI ((qc_u d t (d t - 1)) zz)), (fun zz => nI (p zz)), (fun zz => nI (n zz)), rg, tg) → wX_popFrame_15 P (nI t) (nI f) (k + 1) x3 (nI mc) (nI md) (nI cl) (nI lc) st rt (nI cu) lh rd re oo oa ob oc lg (fun zz => nI (hd zz)) (fun zz => nI (s zz)) (fun zz => nI (rs zz)) (fun zz => nI (bd zz)) (fun zz => nI (d zz)) (fun zz => nI (p zz)) (fun zz => nI (n zz)) rg tg := by
  intro k
  induction k with
  | zero =>
    intro lc lg x3 hx hk hl h
    subst hx
    exact br_t (by decide) ⟨vp_in_nI t5 (by decide), vp_in_nI t5 (by decide), nm_r (qc_st rfl (qc_de1 (qc_rd d rfl (by omega)) h1) (by omega)) h⟩
  | succ k ih =>
    intro lc lg x3 hx hk hl h
    rw [nI_pred] at hx
    subst hx
    have e : nI f * 4 + nI k = nI (f * 4 + k) := qc_fr4 rfl rfl
    refine br_f (nI_pos (by omega)) ⟨qc_vi e (by omega) (by decide), qc_xap _ (qc_rr e (by omega)) hl (nm_e (ih _ _ _ (Int32.sub_eq_add_neg ..).symm (by omega) (qc_ap_le hl) ?_))⟩
    exact h
theorem qc_xpop (P : St2 → Prop) (t5 : t < 5) (h1 : 1 ≤ d t) (h6 : d t ≤ 6) (h4 : n (t * 6 + d t - 1) ≤ 4) (hl : lc ≤ 64)
    (h : P (nI mc, nI md, nI cl, nI ((qc_cl tg (t * 6 + d t - 1) (n (t * 6 + d t - 1)) (lg, lc)).2), st, rt, nI cu, lh, rd, re, oo, oa, ob, oc, (qc_cl tg (t * 6 + d t - 1) (n (t * 6 + d t - 1)) (lg, lc)).1, (fun zz => nI (hd zz)), (fun zz => nI (s zz)), (fun zz => nI (rs zz)), (fun zz => nI (bd zz)), (fun zz => nI ((qc_u d t (d t - 1)) zz)), (fun zz => nI (p zz)), (fun zz => nI (n zz)), rg, tg)) : wpX_popFrame P (nI mc, nI md, nI cl, nI lc, st, rt, nI cu, lh, rd, re, oo, oa, ob, oc, lg, (fun zz => nI (hd zz)), (fun zz => nI (s zz)), (fun zz => nI (rs zz)), (fun zz => nI (bd zz)), (fun zz => nI (d zz)), (fun zz => nI (p zz)), (fun zz => nI (n zz)), rg, tg) (nI t) := by
  unfold wpX_popFrame
  refine qc_xtf _ t5 h1 ?_
  exact ⟨vp_in_nI (by omega) (by decide), nm_e ⟨_, qc_xpopl P t5 (by omega) h1 h6 _ _ _ _ (congrArg (· - 1) (qc_rd n rfl (by omega))) h4 hl h⟩⟩
theorem qc_xunl (P : St2 → Prop) {D : Nat} (t5 : t < 5) (hD : D ≤ 6) : ∀ (j i lc : Nat) (lg : Nat → Int32) (d : Nat → Nat), i + j = D → d t = j → (∀ i, i < j → n (t * 6 + i) ≤ 4) → lc ≤ 64 →
    P (nI mc, nI md, nI cl, nI ((qc_uw tg n t j (lg, lc)).2), st, rt, nI cu, lh, rd, re, oo, oa, ob, oc, (qc_uw tg n t j (lg, lc)).1, (fun zz => nI (hd zz)), (fun zz => nI (s zz)), (fun zz => nI (rs zz)), (fun zz => nI (bd zz)), (fun zz => nI ((qc_u d t 0) zz)), (fun zz => nI (p zz)), (fun zz => nI (n zz)), rg, tg) → wX_unwind_9 P (nI t) (nI D) (j + 1) (nI i) (nI mc) (nI md) (nI cl) (nI lc) st rt (nI cu) lh rd re oo oa ob oc lg (fun zz => nI (hd zz)) (fun zz => nI (s zz)) (fun zz => nI (rs zz)) (fun zz => nI (bd zz)) (fun zz => nI (d zz)) (fun zz => nI (p zz)) (fun zz => nI (n zz)) rg tg := by
  intro j
  induction j with
  | zero =>
    intro i lc lg d hi hdl h4 hl h
    rw [qc_ue hdl] at h
    exact br_t (nI_le (by omega) (by omega)) h
  | succ j ih =>
    intro i lc lg d hi hdl h4 hl h
    have e : t * 6 + d t - 1 = t * 6 + j := by omega
    have hj := h4 j (by omega)
    refine br_f (nI_ge (by omega) (by omega)) (qc_xpop _ t5 (by omega) (by omega) (by rw [e]; exact hj) hl (nm_r (nI_1 i) (ih (i + 1) _ _ (qc_u d t (d t - 1)) (by omega) (by rw [qc_us]; omega) (fun i hi => h4 i (by omega)) (qc_cl_le _ _ hl) ?_)))
    rw [e, qc_uu]
    exact h
theorem qc_xunw (P : St2 → Prop) (t5 : t < 5) (h6 : d t ≤ 6) (h4 : ∀ i, i < d t → n (t * 6 + i) ≤ 4) (hl : lc ≤ 64)
    (h : P (nI mc, nI md, nI cl, nI ((qc_uw tg n t (d t) (lg, lc)).2), st, rt, nI cu, lh, rd, re, oo, oa, ob, oc, (qc_uw tg n t (d t) (lg, lc)).1, (fun zz => nI (hd zz)), (fun zz => nI (s zz)), (fun zz => nI (rs zz)), (fun zz => nI (bd zz)), (fun zz => nI ((qc_u d t 0) zz)), (fun zz => nI (p zz)), (fun zz => nI (n zz)), rg, tg)) : wpX_unwind P (nI mc, nI md, nI cl, nI lc, st, rt, nI cu, lh, rd, re, oo, oa, ob, oc, lg, (fun zz => nI (hd zz)), (fun zz => nI (s zz)), (fun zz => nI (rs zz)), (fun zz => nI (bd zz)), (fun zz => nI (d zz)), (fun zz => nI (p zz)), (fun zz => nI (n zz)), rg, tg) (nI t) :=
  ⟨vp_in_nI t5 (by decide), nm_r (qc_rd d rfl (by omega)) ⟨_, qc_xunl P t5 h6 (d t) 0 _ _ _ (by omega) rfl h4 hl h⟩⟩
theorem qc_xc64 (P : St2 → Prop) {f : Nat} (hf : f < 30) (hx : x < 64) (ha : oa x = nI a) (a8 : a < 8) (v sc w z : Int32)
    (h1 : ¬ z = 0 → P (nI mc, nI md, nI cl, nI lc, st, rt, nI cu, lh, rd, re, oo, oa, ob, oc, lg, (fun zz => nI (hd zz)), (fun zz => nI (s zz)), (fun zz => nI (rs zz)), (fun zz => nI (bd zz)), (fun zz => nI (d zz)), (fun zz => nI (p zz)), (fun zz => nI (n zz)), (upd rg (f * 8 + a) v), tg))
    (h2 : z = 0 → (sc = 0 → w = 0) ∧ (¬ sc = 0 → w = 1) ∧ P (nI mc, nI md, nI cl, nI lc, st, rt, nI cu, lh, rd, re, oo, oa, ob, oc, lg, (fun zz => nI (hd zz)), (fun zz => nI (s zz)), (fun zz => nI (rs zz)), (fun zz => nI (bd zz)), (fun zz => nI (d zz)), (fun zz => nI (p zz)), (fun zz => nI (n zz)), (upd (upd rg (f * 8 + a) v) (f * 8 + (a + 1) % 8) w), tg)) :
    wX_complete_64 P sc v (nI f) (nI x) z (nI mc) (nI md) (nI cl) (nI lc) st rt (nI cu) lh rd re oo oa ob oc lg (fun zz => nI (hd zz)) (fun zz => nI (s zz)) (fun zz => nI (rs zz)) (fun zz => nI (bd zz)) (fun zz => nI (d zz)) (fun zz => nI (p zz)) (fun zz => nI (n zz)) rg tg := by
  have e1 : nI f * 8 + nI a = nI (f * 8 + a) := qc_fr8 rfl rfl
  have e2 : nI f * 8 + ((nI a + 1) - (nI a + 1) / 8 * 8) = nI (f * 8 + (a + 1) % 8) := qc_fr8 rfl (qc_r8 a8)
  refine ⟨vp_in_nI hx (by decide), nm_r ((qc_rr rfl (by omega)).trans ha) ⟨qc_vi e1 (by omega) (by decide), nm_r (qc_sr e1 (by omega) rfl) (br_c (fun hz => ⟨by decide, br_c (fun hs => ?_) (fun hs => ?_)⟩) (fun hz => h1 hz))⟩⟩
  · obtain ⟨w0, w1, h⟩ := h2 hz
    rw [w0 hs] at h
    exact ⟨qc_vi e2 (by omega) (by decide), nm_r (qc_sr e2 (by omega) rfl) h⟩
  · obtain ⟨w0, w1, h⟩ := h2 hz
    rw [w1 hs] at h
    exact ⟨qc_vi e2 (by omega) (by decide), nm_r (qc_sr e2 (by omega) rfl) h⟩
theorem qc_xcp (P : St2 → Prop) (r5 : r < 5) (h1 : 1 ≤ d r) (h6 : d r ≤ 6) (hp : p (r * 6 + d r - 1) = x) (x1 : 1 ≤ x) (x64 : x ≤ 64) (v sc : Int32)
    (H : ((oo (x - 1) = 14 → wX_complete_47 P sc v (nI (r * 6 + d r - 1)) (nI (x - 1)) 1 (nI mc) (nI md) (nI cl) (nI lc) st rt (nI r) lh rd re oo oa ob oc lg (fun zz => nI (hd zz)) (fun zz => nI ((qc_u s r 1) zz)) (fun zz => nI (rs zz)) (fun zz => nI (bd zz)) (fun zz => nI (d zz)) (fun zz => nI (p zz)) (fun zz => nI (n zz)) rg tg) ∧ (¬ oo (x - 1) = 14 → wX_complete_47 P sc v (nI (r * 6 + d r - 1)) (nI (x - 1)) 0 (nI mc) (nI md) (nI cl) (nI lc) st rt (nI r) lh rd re oo oa ob oc lg (fun zz => nI (hd zz)) (fun zz => nI ((qc_u s r 1) zz)) (fun zz => nI (rs zz)) (fun zz => nI (bd zz)) (fun zz => nI (d zz)) (fun zz => nI (p zz)) (fun zz => nI (n zz)) rg tg))) :
    wpX_complete P (nI mc, nI md, nI cl, nI lc, st, rt, nI cu, lh, rd, re, oo, oa, ob, oc, lg, (fun zz => nI (hd zz)), (fun zz => nI (s zz)), (fun zz => nI (rs zz)), (fun zz => nI (bd zz)), (fun zz => nI (d zz)), (fun zz => nI (p zz)), (fun zz => nI (n zz)), rg, tg) (nI r) sc v := by
  refine ⟨vp_in_nI r5 (by decide), nm_r (qc_st (x := 1) rfl rfl (by omega)) (qc_xtf (cu := r) (s := qc_u s r 1) _ r5 h1 ⟨vp_in_nI (by omega) (by decide), nm_r (qc_de1 ((qc_rd p rfl (by omega)).trans (congrArg nI hp)) x1) ⟨vp_in_nI (by omega) (by decide), ?_⟩⟩)⟩
  rw [nI_clamp (by omega)]
  exact H
theorem qc_xc13 (P : St2 → Prop) (r5 : r < 5) (h1 : 1 ≤ d r) (h6 : d r ≤ 6) (hp : p (r * 6 + d r - 1) = x) (x1 : 1 ≤ x) (x64 : x ≤ 64) (ha : oa (x - 1) = nI a) (a8 : a < 8) (ho : oo (x - 1) = 13) (v sc w : Int32) (w0 : sc = 0 → w = 0) (w1 : ¬ sc = 0 → w = 1)
    (h : P (nI mc, nI md, nI cl, nI lc, st, rt, nI r, lh, rd, re, oo, oa, ob, oc, lg, (fun zz => nI (hd zz)), (fun zz => nI ((qc_u s r 1) zz)), (fun zz => nI (rs zz)), (fun zz => nI (bd zz)), (fun zz => nI (d zz)), (fun zz => nI (p zz)), (fun zz => nI (n zz)), (upd (upd rg ((r * 6 + d r - 1) * 8 + a) v) ((r * 6 + d r - 1) * 8 + (a + 1) % 8) w), tg)) :
    wpX_complete P (nI mc, nI md, nI cl, nI lc, st, rt, nI cu, lh, rd, re, oo, oa, ob, oc, lg, (fun zz => nI (hd zz)), (fun zz => nI (s zz)), (fun zz => nI (rs zz)), (fun zz => nI (bd zz)), (fun zz => nI (d zz)), (fun zz => nI (p zz)), (fun zz => nI (n zz)), rg, tg) (nI r) sc v :=
  qc_xcp P r5 h1 h6 hp x1 x64 v sc (br_f (by rw [ho]; decide) (br_t rfl (qc_xc64 P (by omega) (by omega) ha a8 v sc w 0 (fun z => absurd rfl z) (fun _ => ⟨w0, w1, h⟩))))
theorem qc_xc14 (P : St2 → Prop) (r5 : r < 5) (h1 : 1 ≤ d r) (h6 : d r ≤ 6) (hp : p (r * 6 + d r - 1) = x) (x1 : 1 ≤ x) (x64 : x ≤ 64) (ha : oa (x - 1) = nI a) (a8 : a < 8) (ho : oo (x - 1) = 14) (v sc : Int32) (hs : ¬ sc = 0)
    (h : P (nI mc, nI md, nI cl, nI lc, st, rt, nI r, lh, rd, re, oo, oa, ob, oc, lg, (fun zz => nI (hd zz)), (fun zz => nI ((qc_u s r 1) zz)), (fun zz => nI (rs zz)), (fun zz => nI (bd zz)), (fun zz => nI (d zz)), (fun zz => nI (p zz)), (fun zz => nI (n zz)), (upd rg ((r * 6 + d r - 1) * 8 + a) v), tg)) :
    wpX_complete P (nI mc, nI md, nI cl, nI lc, st, rt, nI cu, lh, rd, re, oo, oa, ob, oc, lg, (fun zz => nI (hd zz)), (fun zz => nI (s zz)), (fun zz => nI (rs zz)), (fun zz => nI (bd zz)), (fun zz => nI (d zz)), (fun zz => nI (p zz)), (fun zz => nI (n zz)), rg, tg) (nI r) sc v :=
  qc_xcp P r5 h1 h6 hp x1 x64 v sc (br_t ho (br_f (by decide) (br_f hs (qc_xc64 P (by omega) (by omega) ha a8 v sc 0 1 (fun _ => h) (fun z => absurd z (by decide))))))
theorem qc_xcr (P : St2 → Prop) (r5 : r < 5) (h1 : 1 ≤ d r) (h6 : d r ≤ 6) (hp : p (r * 6 + d r - 1) = x) (x1 : 1 ≤ x) (x64 : x ≤ 64) (ho : oo (x - 1) = 14) (v : Int32)
    (h : P (nI mc, nI md, nI cl, nI lc, st, rt, nI r, lh, 1, v, oo, oa, ob, oc, lg, (fun zz => nI (hd zz)), (fun zz => nI ((qc_u s r 1) zz)), (fun zz => nI (rs zz)), (fun zz => nI (bd zz)), (fun zz => nI (d zz)), (fun zz => nI (p zz)), (fun zz => nI (n zz)), rg, tg)) :
    wpX_complete P (nI mc, nI md, nI cl, nI lc, st, rt, nI cu, lh, rd, re, oo, oa, ob, oc, lg, (fun zz => nI (hd zz)), (fun zz => nI (s zz)), (fun zz => nI (rs zz)), (fun zz => nI (bd zz)), (fun zz => nI (d zz)), (fun zz => nI (p zz)), (fun zz => nI (n zz)), rg, tg) (nI r) 0 v :=
  qc_xcp P r5 h1 h6 hp x1 x64 v 0 (br_t ho (br_f (by decide) (br_t rfl h)))
end
end
section
section
variable {mc md cl lc cu h B mp mL : Nat} {st rt lh rd re : Int32} {D : Nat → Prop} {oo oa ob oc lg rg tg : Nat → Int32} {hd d s lv rs bd yr p q n m : Nat → Nat} {c r t x a b : Nat} {l L : List Nat}
theorem qc_al (I : qc_I mc md oo oa ob d s lv rs yr p q n m L) (t0 : t ≠ 0) (t5 : t < 5) : (s t = 3 ∧ lv t = 0) ∨ (s t < 3 ∧ lv t = 1) := by
  have o : qc_O md oa ob d s lv yr p q n m t → (s t = 3 ∧ lv t = 0) ∨ (s t < 3 ∧ lv t = 1) := by
    intro o
    rcases o with o | o
    · exact .inl ⟨o.1, o.2.1⟩
    · exact .inr ⟨by have := o.2.1; omega, o.2.2.1⟩
  cases L with
  | nil => exact o (I.2.2.2.2 t t5)
  | cons c l =>
    obtain ⟨i1, i2, i3, i4, i5, i6, i7⟩ := I
    by_cases z : t ∈ c :: l
    · rcases List.mem_cons.mp z with y | y
      · subst y
        exact .inr ⟨by have := i5.2.2.1; omega, i5.2.2.2.1 t0⟩
      · exact .inr ⟨by have := (i6 t y).2.2.1; omega, (i6 t y).2.2.2.1 t0⟩
    · exact o (i7 t t5 z)
theorem qc_sin (I : qc_I mc md oo oa ob d s lv rs yr p q n m (c :: l)) (z : t ∈ c :: l) : (t = c → s t = 1) ∧ (t ≠ c → s t = 2) := by
  obtain ⟨i1, i2, i3, i4, i5, i6, i7⟩ := I
  have hc : c ∉ l := (List.nodup_cons.mp i2).1
  refine ⟨fun e => ?_, fun e => ?_⟩
  · rw [e]; exact i5.2.2.1
  · rcases List.mem_cons.mp z with y | y
    · exact absurd y e
    · exact (i6 t y).2.2.1
theorem qc_s0 (I : qc_I mc md oo oa ob d s lv rs yr p q n m (c :: l)) (hs : s t = 0) : t ∉ c :: l ∧ t ≠ 0 := by
  have a : t ∉ c :: l := fun z => by
    have h := qc_sin I z
    by_cases e : t = c
    · have := h.1 e; omega
    · have := h.2 e; omega
  exact ⟨a, fun e => a (e ▸ qc_Lk_0 l c I.1)⟩
theorem qc_s00 (I : qc_I mc md oo oa ob d s lv rs yr p q n m (c :: l)) : s 0 = 1 ∨ s 0 = 2 := by
  have h := qc_sin I (qc_Lk_0 l c I.1)
  by_cases e : 0 = c
  · exact .inl (h.1 e)
  · exact .inr (h.2 e)
theorem qz_thl (al : ∀ t, t ≠ 0 → t < 5 → (s t = 3 ∧ lv t = 0) ∨ (s t < 3 ∧ lv t = 1)) (g : Int32) : ∀ k j, j + k = 5 → j ≠ 0 →
    (∃ t, t < 5 ∧ t ≠ 0 ∧ lv t = 1 ∧ s t < 3 ∧ nI (hd t) = g ∧ (∀ P : Int32 → Prop, P (nI t) → wX_threadOf_8 P g (nI mc) (nI md) (nI cl) (nI lc) st rt (nI cu) lh rd re oo oa ob oc lg (fun zz => nI (hd zz)) (fun zz => nI (s zz)) (fun zz => nI (rs zz)) (fun zz => nI (bd zz)) (fun zz => nI (d zz)) (fun zz => nI (p zz)) (fun zz => nI (n zz)) rg tg (k + 1) (nI j))) ∨
    ((∀ t, j ≤ t → t < 5 → lv t = 1 → ¬ nI (hd t) = g) ∧ (∀ P : Int32 → Prop, P (-1) → wX_threadOf_8 P g (nI mc) (nI md) (nI cl) (nI lc) st rt (nI cu) lh rd re oo oa ob oc lg (fun zz => nI (hd zz)) (fun zz => nI (s zz)) (fun zz => nI (rs zz)) (fun zz => nI (bd zz)) (fun zz => nI (d zz)) (fun zz => nI (p zz)) (fun zz => nI (n zz)) rg tg (k + 1) (nI j))) := by
  intro k
  induction k with
  | zero =>
    intro j hj _
    have e : j = 5 := by omega
    subst e
    exact .inr ⟨fun t a b => by omega, fun P h => br_t (nI_le (a := 5) (b := 5) (by omega) (by decide)) h⟩
  | succ k ih =>
    intro j hj j0
    have hx : ¬ (5 : Int32) ≤ nI j := nI_ge (b := 5) (by omega) (by decide)
    have hi : vp_in (nI j) 5 := vp_in_nI (by omega) (by decide)
    have es : (fun zz => nI (s zz)) (nI j).toNatClampNeg = nI (s j) := qc_rd s rfl (by omega)
    have eh : (fun zz => nI (hd zz)) (nI j).toNatClampNeg = nI (hd j) := qc_rd hd rfl (by omega)
    rcases al j j0 (by omega) with ⟨a1, a2⟩ | ⟨a1, a2⟩
    · have cx : (fun zz => nI (s zz)) (nI j).toNatClampNeg = 3 := by rw [es, a1]; rfl
      rcases ih (j + 1) (by omega) (by omega) with ⟨t, b1, b2, b3, b4, b5, b6⟩ | ⟨b5, b6⟩
      · exact .inl ⟨t, b1, b2, b3, b4, b5, fun P h => br_f hx ⟨hi, br_t cx (nm_r (nI_1 j) (b6 P h))⟩⟩
      · refine .inr ⟨fun t c5 d5 w => ?_, fun P h => br_f hx ⟨hi, br_t cx (nm_r (nI_1 j) (b6 P h))⟩⟩
        by_cases z : t = j
        · rw [z] at w; omega
        · exact b5 t (by omega) d5 w
    · have cx : ¬ (fun zz => nI (s zz)) (nI j).toNatClampNeg = 3 := by
        rw [es]
        exact fun z => by have := (nI_eq (b := 3) (by omega) (by decide)).mp z; omega
      by_cases z : nI (hd j) = g
      · exact .inl ⟨j, by omega, j0, a2, a1, z, fun P h => br_f hx ⟨hi, br_f cx ⟨hi, br_t (eh.trans z) h⟩⟩⟩
      · have ch : ¬ (fun zz => nI (hd zz)) (nI j).toNatClampNeg = g := by rw [eh]; exact z
        rcases ih (j + 1) (by omega) (by omega) with ⟨t, b1, b2, b3, b4, b5, b6⟩ | ⟨b5, b6⟩
        · exact .inl ⟨t, b1, b2, b3, b4, b5, fun P h => br_f hx ⟨hi, br_f cx ⟨hi, br_f ch (nm_r (nI_1 j) (b6 P h))⟩⟩⟩
        · refine .inr ⟨fun t c5 d5 w => ?_, fun P h => br_f hx ⟨hi, br_f cx ⟨hi, br_f ch (nm_r (nI_1 j) (b6 P h))⟩⟩⟩
          by_cases y : t = j
          · rw [y]; exact z
          · exact b5 t (by omega) d5 w
theorem qz_thE (al : ∀ t, t ≠ 0 → t < 5 → (s t = 3 ∧ lv t = 0) ∨ (s t < 3 ∧ lv t = 1)) (g : Int32) :
    (∃ t, t < 5 ∧ (t = 0 ↔ g = 0) ∧ (t ≠ 0 → lv t = 1 ∧ s t < 3) ∧ (t ≠ 0 → nI (hd t) = g) ∧ (∀ P : Int32 → Prop, P (nI t) → wpX_threadOf P (nI mc, nI md, nI cl, nI lc, st, rt, nI cu, lh, rd, re, oo, oa, ob, oc, lg, (fun zz => nI (hd zz)), (fun zz => nI (s zz)), (fun zz => nI (rs zz)), (fun zz => nI (bd zz)), (fun zz => nI (d zz)), (fun zz => nI (p zz)), (fun zz => nI (n zz)), rg, tg) g)) ∨
    (g ≠ 0 ∧ (∀ t, t ≠ 0 → t < 5 → lv t = 1 → ¬ nI (hd t) = g) ∧ (∀ P : Int32 → Prop, P (-1) → wpX_threadOf P (nI mc, nI md, nI cl, nI lc, st, rt, nI cu, lh, rd, re, oo, oa, ob, oc, lg, (fun zz => nI (hd zz)), (fun zz => nI (s zz)), (fun zz => nI (rs zz)), (fun zz => nI (bd zz)), (fun zz => nI (d zz)), (fun zz => nI (p zz)), (fun zz => nI (n zz)), rg, tg) g)) := by
  by_cases z : g = 0
  · exact .inl ⟨0, by omega, ⟨fun _ => z, fun _ => rfl⟩, fun z => absurd rfl z, fun z => absurd rfl z, fun P h => br_t z h⟩
  · rcases qz_thl (mc := mc) (md := md) (cl := cl) (lc := lc) (cu := cu) (st := st) (rt := rt) (lh := lh) (rd := rd) (re := re) (oo := oo) (oa := oa) (ob := ob) (oc := oc) (lg := lg) (rg := rg) (tg := tg) (hd := hd) (d := d) (rs := rs) (bd := bd) (p := p) (n := n) al g 4 1 rfl (by omega) with ⟨t, b1, b2, b3, b4, b5, b6⟩ | ⟨b5, b6⟩
    · exact .inl ⟨t, b1, ⟨fun y => absurd y b2, fun y => absurd y z⟩, fun _ => ⟨b3, b4⟩, fun _ => b5, fun P h => br_f z ⟨5, b6 P h⟩⟩
    · exact .inr ⟨z, fun t t0 t5 w => b5 t (by omega) t5 w, fun P h => br_f z ⟨5, b6 P h⟩⟩
theorem qz_thr (al : ∀ t, t ≠ 0 → t < 5 → (s t = 3 ∧ lv t = 0) ∨ (s t < 3 ∧ lv t = 1)) (g : Int32) :
    (∃ t, t < 5 ∧ (t = 0 ↔ g = 0) ∧ (t ≠ 0 → lv t = 1 ∧ s t < 3) ∧ (∀ P : Int32 → Prop, P (nI t) → wpX_threadOf P (nI mc, nI md, nI cl, nI lc, st, rt, nI cu, lh, rd, re, oo, oa, ob, oc, lg, (fun zz => nI (hd zz)), (fun zz => nI (s zz)), (fun zz => nI (rs zz)), (fun zz => nI (bd zz)), (fun zz => nI (d zz)), (fun zz => nI (p zz)), (fun zz => nI (n zz)), rg, tg) g)) ∨
    (g ≠ 0 ∧ (∀ t, t ≠ 0 → t < 5 → lv t = 1 → ¬ nI (hd t) = g) ∧ (∀ P : Int32 → Prop, P (-1) → wpX_threadOf P (nI mc, nI md, nI cl, nI lc, st, rt, nI cu, lh, rd, re, oo, oa, ob, oc, lg, (fun zz => nI (hd zz)), (fun zz => nI (s zz)), (fun zz => nI (rs zz)), (fun zz => nI (bd zz)), (fun zz => nI (d zz)), (fun zz => nI (p zz)), (fun zz => nI (n zz)), rg, tg) g)) := by
  rcases qz_thE al g with ⟨t, a, b, c, _, e⟩ | h
  · exact .inl ⟨t, a, b, c, e⟩
  · exact .inr h
end
end
section
section
variable {mc md cl lc cu h B mp mL : Nat} {st rt lh rd re : Int32} {D : Nat → Prop} {oo oa ob oc lg rg tg : Nat → Int32} {hd d s lv rs bd yr p q n m : Nat → Nat} {c r t x a b : Nat} {l L : List Nat}
theorem qc_K_c {lc' : Nat} {lv' : Nat → Nat} (K : qc_K mc md cl lc h B oo oa ob oc lv bd) (hl : lc' ≤ 64) (hv : lv' 0 = 0) : qc_K mc md cl lc' h B oo oa ob oc lv' bd :=
  ⟨K.1, K.2.1, K.2.2.1, hl, K.2.2.2.2.1, K.2.2.2.2.2.1, K.2.2.2.2.2.2.1, hv⟩
theorem qz_lv0 (w : qc_u lv c 0 t = 1) : lv t = 1 := by
  by_cases z : t = c
  · rw [z, qc_us] at w; omega
  · rw [qc_uo z] at w; exact w
theorem qc_sr0 (P : St2 → Prop) {j : Nat} (k : Nat) (hj : j ≤ 5) (hP : P (nI mc, nI md, nI cl, nI lc, st, rt, nI cu, lh, 0, re, oo, oa, ob, oc, lg, (fun zz => nI (hd zz)), (fun zz => nI (s zz)), (fun zz => nI (rs zz)), (fun zz => nI (bd zz)), (fun zz => nI (d zz)), (fun zz => nI (p zz)), (fun zz => nI (n zz)), rg, tg)) : wX_settleRaise_2 P (k + 1) (nI j) (nI mc) (nI md) (nI cl) (nI lc) st rt (nI cu) lh 0 re oo oa ob oc lg (fun zz => nI (hd zz)) (fun zz => nI (s zz)) (fun zz => nI (rs zz)) (fun zz => nI (bd zz)) (fun zz => nI (d zz)) (fun zz => nI (p zz)) (fun zz => nI (n zz)) rg tg := by
  by_cases z : j = 5
  · exact br_t (nI_le (a := 5) (by omega) (by omega)) hP
  · exact br_f (nI_ge (b := 5) (by omega) (by decide)) (br_t rfl hP)
theorem qz_set {e : Int32} : ∀ (l : List Nat) (c i lc : Nat) (lg rg : Nat → Int32) (d s lv m : Nat → Nat), i + l.length ≤ 4 → qc_K mc md cl lc h B oo oa ob oc lv bd →
    qc_J mc md oo oa ob d s lv rs yr p q n m (c :: l) → qz_Z hd lv d p h mp mL D (c :: l) →
    ∃ (u' : St2), qz_R mc cl oo oa ob oc B mp mL D u' ∧ (∀ P : St2 → Prop, P u' → wX_settleRaise_2 P (l.length + 2) (nI i) (nI mc) (nI md) (nI cl) (nI lc) 1 0 (nI c) (nI h) 1 e oo oa ob oc lg (fun zz => nI (hd zz)) (fun zz => nI (s zz)) (fun zz => nI (rs zz)) (fun zz => nI (bd zz)) (fun zz => nI (d zz)) (fun zz => nI (p zz)) (fun zz => nI (n zz)) rg tg) := by
  intro l
  induction l with
  | nil =>
    intro c i lc lg rg d s lv m hi K J Z
    have c0 : c = 0 := J.1
    subst c0
    have hi' : i ≤ 4 := by simpa using hi
    have hm : md ≤ 6 := K.2.1.2
    have hd6 : d 0 ≤ md := J.2.2.2.2.1.2.1
    have tw : qc_Tw n m 0 (d 0) := J.2.2.2.2.1.2.2.2.2
    have I' := qc_tr_raise0 hm J K.2.2.2.2.2.2.2
    have hl : lc ≤ 64 := K.2.2.2.1
    refine ⟨(nI mc, nI md, nI cl, nI ((qc_uw tg n 0 (d 0) (lg, lc)).2), 3, e, nI 0, nI h, 0, e, oo, oa, ob, oc, (qc_uw tg n 0 (d 0) (lg, lc)).1, (fun zz => nI (hd zz)), (fun zz => nI ((qc_u s 0 3) zz)), (fun zz => nI (rs zz)), (fun zz => nI (bd zz)), (fun zz => nI ((qc_u d 0 0) zz)), (fun zz => nI (p zz)), (fun zz => nI (n zz)), rg, tg), ?_, fun P hP => ?_⟩
    · exact ⟨_, _, _, _, _, _, _, _, _, _, _, _, _, _, _, _, _, _, _, _, _, [], rfl, qc_K_c K (qc_uw_le _ _ hl) K.2.2.2.2.2.2.2, .inr (.inr ⟨.inr rfl, rfl⟩), ⟨fun c l z => (nomatch z), fun z => absurd z (by decide)⟩, I', qz_Zk Z (fun _ w => w) (fun z => absurd rfl z)⟩
    · refine br_f (nI_ge (b := 5) (by omega) (by decide)) (br_f (by decide) (qc_xunw (t := 0) _ (by omega) (by omega) (fun k hk => (tw k hk).2) hl ⟨vp_in_nI (n := 0) (by decide) (by decide), nm_r (qc_st (k := 0) (x := 3) rfl rfl (by omega)) (br_t rfl (nm_r ((qc_uI _ 0 3).trans (by rw [qc_uu])) (nm_r (nI_1 i) (qc_sr0 P 0 (by omega) hP))))⟩))
  | cons r l ih =>
    intro c i lc lg rg d s lv m hi K J Z
    have c0 : c ≠ 0 := J.1.1
    have hrs : rs c = r := J.1.2.1
    have hi' : i + 1 + l.length ≤ 4 := by simp at hi; omega
    have hm : md ≤ 6 := K.2.1.2
    have c5 : c < 5 := J.2.2.1 c List.mem_cons_self
    have r5 : r < 5 := J.2.2.1 r (List.mem_cons_of_mem _ List.mem_cons_self)
    have hd6 : d c ≤ md := J.2.2.2.2.1.2.1
    have tw : qc_Tw n m c (d c) := J.2.2.2.2.1.2.2.2.2
    have hN := J.2.2.2.2.2.1 r List.mem_cons_self
    have I' := qc_tr_raise hm J
    have hl : lc ≤ 64 := K.2.2.2.1
    have hc : c ∉ r :: l := (List.nodup_cons.mp J.2.1).1
    have hrc : r ≠ c := fun z => hc (by rw [z]; exact List.mem_cons_self)
    have er : qc_u d c 0 r = d r := qc_uo hrc
    have K' : qc_K mc md cl (qc_uw tg n c (d c) (lg, lc)).2 h B oo oa ob oc (qc_u lv c 0) bd := qc_K_c K (qc_uw_le _ _ hl) (by rw [qc_uo (by omega)]; exact K.2.2.2.2.2.2.2)
    have Z' : qz_Z hd (qc_u lv c 0) (qc_u d c 0) p h mp mL D (r :: l) := qz_Zk Z (fun _ w => qz_lv0 w) (fun _ => qc_uo (by omega))
    obtain ⟨H1, H2, H3, H4, H5⟩ := I'.2.2.2.2.1
    have hx : qc_RA oa (p (r * 6 + qc_u d c 0 r - 1)) := by rw [er]; exact hN.2.2.2.2.2.1
    have ho : oo (p (r * 6 + qc_u d c 0 r - 1) - 1) = 13 ∨ oo (p (r * 6 + qc_u d c 0 r - 1) - 1) = 14 := by rw [er]; exact hN.2.2.2.2.2.2
    obtain ⟨x1, x64, a, a8, ha⟩ := hx
    rcases ho with ho | ho
    · refine ⟨(nI mc, nI md, nI cl, nI ((qc_uw tg n c (d c) (lg, lc)).2), 1, 0, nI r, nI h, 0, e, oo, oa, ob, oc, (qc_uw tg n c (d c) (lg, lc)).1, (fun zz => nI (hd zz)), (fun zz => nI ((qc_u (qc_u s c 3) r 1) zz)), (fun zz => nI (rs zz)), (fun zz => nI (bd zz)), (fun zz => nI ((qc_u d c 0) zz)), (fun zz => nI (p zz)), (fun zz => nI (n zz)), (upd (upd rg ((r * 6 + qc_u d c 0 r - 1) * 8 + a) e) ((r * 6 + qc_u d c 0 r - 1) * 8 + (a + 1) % 8) 0), tg), ?_, fun P hP => ?_⟩
      · exact ⟨_, _, _, _, _, _, _, _, _, _, _, _, _, _, _, _, _, _, _, _, _, r :: l, rfl, K', .inl ⟨rfl, rfl, by simp⟩, ⟨fun c l z => (by cases z; rfl), fun z => absurd z (by decide)⟩, I', Z'⟩
      · refine br_f (nI_ge (b := 5) (by omega) (by decide)) (br_f (by decide) (qc_xunw (t := c) _ c5 (by omega) (fun k hk => (tw k hk).2) hl ⟨vp_in_nI c5 (by decide), nm_r (qc_st (x := 3) rfl rfl (by omega)) (br_f (fun z => c0 ((nI_eq (b := 0) (by omega) (by omega)).mp z)) ⟨vp_in_nI c5 (by decide), ?_⟩)⟩))
        rw [qc_rd rs rfl (by omega), hrs]
        exact qc_xc13 _ r5 H1 (by omega) rfl x1 x64 ha a8 ho _ _ 0 (fun _ => rfl) (fun z => absurd rfl z) (nm_r (nI_1 i) (qc_sr0 P _ (by omega) hP))
    · obtain ⟨u', hR, hX⟩ := ih r (i + 1) _ (qc_uw tg n c (d c) (lg, lc)).1 rg _ _ _ _ hi' K' (qc_J_of I') Z'
      refine ⟨u', hR, fun P hP => ?_⟩
      refine br_f (nI_ge (b := 5) (by omega) (by decide)) (br_f (by decide) (qc_xunw (t := c) _ c5 (by omega) (fun k hk => (tw k hk).2) hl ⟨vp_in_nI c5 (by decide), nm_r (qc_st (x := 3) rfl rfl (by omega)) (br_f (fun z => c0 ((nI_eq (b := 0) (by omega) (by omega)).mp z)) ⟨vp_in_nI c5 (by decide), ?_⟩)⟩))
      rw [qc_rd rs rfl (by omega), hrs]
      exact qc_xcr _ r5 H1 (by omega) rfl x1 x64 ho _ (nm_r (nI_1 i) (hX P hP))
theorem qz_settle {u : St2} {c : Nat} {e : Int32} (Q : qz_Q mc cl oo oa ob oc B mp mL D u c e) :
    ∃ (u' : St2), qz_R mc cl oo oa ob oc B mp mL D u' ∧ (∀ P : St2 → Prop, P u' → wpX_settleRaise P u) := by
  obtain ⟨md, lc, h, lg, rg, tg, hd, d, s, lv, rs, bd, yr, p, q, n, m, l, rfl, K, J, Z⟩ := Q
  have := qc_len J.2.1 J.2.2.1
  obtain ⟨u', hR, hX⟩ := qz_set l c 0 lc lg rg d s lv m (by simp at this; omega) K J Z
  exact ⟨u', hR, fun P hP => ⟨_, hX P hP⟩⟩
theorem qz_settle0 {e : Int32} (K : qc_K mc md cl lc h B oo oa ob oc lv bd) (J : qc_J mc md oo oa ob d s lv rs yr p q n m [0]) (Z : qz_Z hd lv d p h mp mL D [0]) :
    qz_R mc cl oo oa ob oc B mp mL D (nI mc, nI md, nI cl, nI ((qc_uw tg n 0 (d 0) (lg, lc)).2), 3, e, nI 0, nI h, 0, e, oo, oa, ob, oc, (qc_uw tg n 0 (d 0) (lg, lc)).1, (fun zz => nI (hd zz)), (fun zz => nI ((qc_u s 0 3) zz)), (fun zz => nI (rs zz)), (fun zz => nI (bd zz)), (fun zz => nI ((qc_u d 0 0) zz)), (fun zz => nI (p zz)), (fun zz => nI (n zz)), rg, tg) ∧
    ∀ P : St2 → Prop, P (nI mc, nI md, nI cl, nI ((qc_uw tg n 0 (d 0) (lg, lc)).2), 3, e, nI 0, nI h, 0, e, oo, oa, ob, oc, (qc_uw tg n 0 (d 0) (lg, lc)).1, (fun zz => nI (hd zz)), (fun zz => nI ((qc_u s 0 3) zz)), (fun zz => nI (rs zz)), (fun zz => nI (bd zz)), (fun zz => nI ((qc_u d 0 0) zz)), (fun zz => nI (p zz)), (fun zz => nI (n zz)), rg, tg) → wpX_settleRaise P (nI mc, nI md, nI cl, nI lc, 1, 0, nI 0, nI h, 1, e, oo, oa, ob, oc, lg, (fun zz => nI (hd zz)), (fun zz => nI (s zz)), (fun zz => nI (rs zz)), (fun zz => nI (bd zz)), (fun zz => nI (d zz)), (fun zz => nI (p zz)), (fun zz => nI (n zz)), rg, tg) := by
  have hm : md ≤ 6 := K.2.1.2
  have hd6 : d 0 ≤ md := J.2.2.2.2.1.2.1
  have tw : qc_Tw n m 0 (d 0) := J.2.2.2.2.1.2.2.2.2
  have I' := qc_tr_raise0 hm J K.2.2.2.2.2.2.2
  have hl : lc ≤ 64 := K.2.2.2.1
  refine ⟨⟨_, _, _, _, _, _, _, _, _, _, _, _, _, _, _, _, _, _, _, _, _, [], rfl, qc_K_c K (qc_uw_le _ _ hl) K.2.2.2.2.2.2.2, .inr (.inr ⟨.inr rfl, rfl⟩), ⟨fun c l z => (nomatch z), fun z => absurd z (by decide)⟩, I', qz_Zk Z (fun _ w => w) (fun z => absurd rfl z)⟩, fun P hP => ⟨2, ?_⟩⟩
  exact br_f (by decide) (br_f (by decide) (qc_xunw (t := 0) _ (by omega) (by omega) (fun k hk => (tw k hk).2) hl ⟨vp_in_nI (n := 0) (by decide) (by decide), nm_r (qc_st (k := 0) (x := 3) rfl rfl (by omega)) (br_t rfl (nm_r ((qc_uI _ 0 3).trans (by rw [qc_uu])) (nm_r (e' := nI 1) rfl (qc_sr0 P 0 (by omega) hP))))⟩))
end
end
section
def qz_Out (mc cl : Nat) (oo oa ob oc : Nat → Int32) (B mp mL : Nat) (D : Nat → Prop) (u : St2) : Prop :=
  (∃ u' : St2, qz_R mc cl oo oa ob oc (B + 1) mp mL D u' ∧ (∀ P : St2 → Prop, P u' → wpX_step P u)) ∨
  (∃ (u' : St2) (c : Nat) (e : Int32), qz_Q mc cl oo oa ob oc (B + 1) mp mL D u' c e ∧ (∀ P : St2 → Prop, P u' → wpX_step P u))
section
variable {mc md cl lc cu h B mp mL : Nat} {st rt lh rd re : Int32} {D : Nat → Prop} {oo oa ob oc lg rg tg : Nat → Int32} {hd d s lv rs bd yr p q n m : Nat → Nat} {c r t x a b : Nat} {l L : List Nat}
theorem qc_qtop {dt : Nat} (h1 : 0 < dt) (h : qc_Th oa p q n m t dt) : q (t * 6 + dt - 1) = p (t * 6 + dt - 1) ∧ m (t * 6 + dt - 1) = n (t * 6 + dt - 1) ∧ n (t * 6 + dt - 1) ≤ 4 := by
  have e : t * 6 + (dt - 1) = t * 6 + dt - 1 := by omega
  have := h (dt - 1) (by omega)
  rw [e] at this
  exact ⟨this.1, this.2.2.1, this.2.2.2.1⟩
theorem qz_Rmk (K : qc_K mc md cl lc h B oo oa ob oc lv bd) (I : qc_I mc md oo oa ob d s lv rs yr p q n m (c :: l)) (Z : qz_Z hd lv d p h mp mL D (c :: l)) :
    qz_R mc cl oo oa ob oc B mp mL D (nI mc, nI md, nI cl, nI lc, 1, 0, nI c, nI h, 0, re, oo, oa, ob, oc, lg, (fun zz => nI (hd zz)), (fun zz => nI (s zz)), (fun zz => nI (rs zz)), (fun zz => nI (bd zz)), (fun zz => nI (d zz)), (fun zz => nI (p zz)), (fun zz => nI (n zz)), rg, tg) :=
  ⟨_, _, _, _, _, _, _, _, _, _, _, _, _, _, _, _, _, _, _, _, _, c :: l, rfl, K, .inl ⟨rfl, rfl, by simp⟩, ⟨fun c l z => (by cases z; rfl), fun z => absurd z (by decide)⟩, I, Z⟩
theorem qz_Qmk {e : Int32} (K : qc_K mc md cl lc h B oo oa ob oc lv bd) (J : qc_J mc md oo oa ob d s lv rs yr p q n m (c :: l)) (Z : qz_Z hd lv d p h mp mL D (c :: l)) :
    qz_Q mc cl oo oa ob oc B mp mL D (nI mc, nI md, nI cl, nI lc, 1, 0, nI c, nI h, 1, e, oo, oa, ob, oc, lg, (fun zz => nI (hd zz)), (fun zz => nI (s zz)), (fun zz => nI (rs zz)), (fun zz => nI (bd zz)), (fun zz => nI (d zz)), (fun zz => nI (p zz)), (fun zz => nI (n zz)), rg, tg) c e :=
  ⟨_, _, _, _, _, _, _, _, _, _, _, _, _, _, _, _, _, l, rfl, K, J, Z⟩
theorem qc_K_up (K : qc_K mc md cl lc h B oo oa ob oc lv bd) : qc_K mc md cl lc h (B + 1) oo oa ob oc lv bd :=
  ⟨K.1, K.2.1, K.2.2.1, K.2.2.2.1, by have := K.2.2.2.2.1; omega, K.2.2.2.2.2.1, K.2.2.2.2.2.2.1, K.2.2.2.2.2.2.2⟩
theorem qc_bad (K : qc_K mc md cl lc h B oo oa ob oc lv bd) (I : qc_I mc md oo oa ob d s lv rs yr p q n m (c :: l)) (hp : p (c * 6 + d c - 1) = x) (hx : cl ≤ x) (Z : qz_Z hd lv d p h mp mL D (c :: l)) (c0 : c ≠ 0) : qz_Out mc cl oo oa ob oc B (qz_mp c mp) mL D (nI mc, nI md, nI cl, nI lc, 1, 0, nI c, nI h, 0, re, oo, oa, ob, oc, lg, (fun zz => nI (hd zz)), (fun zz => nI (s zz)), (fun zz => nI (rs zz)), (fun zz => nI (bd zz)), (fun zz => nI (d zz)), (fun zz => nI (p zz)), (fun zz => nI (n zz)), rg, tg) := by
  have c5 : c < 5 := I.2.2.1 c List.mem_cons_self
  obtain ⟨h1, hdm, hs1, hlv, hth⟩ := I.2.2.2.2.1
  have hm : md ≤ 6 := K.2.1.2
  have h6 : d c ≤ 6 := by omega
  have h64 : cl ≤ 64 := K.2.2.1
  have hl : lc ≤ 64 := K.2.2.2.1
  have hq : q (c * 6 + d c - 1) = x := (qc_qtop h1 hth).1.trans hp
  have hf : (c * 6 + d c - 1) < 30 := by omega
  have hmL : c = 0 → mp + 1 ≤ mL := fun z => absurd z c0
  have x64 : x ≤ 64 := by
    have e : c * 6 + (d c - 1) = (c * 6 + d c - 1) := by omega
    have := (hth (d c - 1) (by omega)).2.1
    rw [e, hp] at this
    exact this
  refine .inr ⟨(nI mc, nI md, nI cl, nI lc, 1, 0, nI c, nI h, 1, (-7), oo, oa, ob, oc, lg, (fun zz => nI (hd zz)), (fun zz => nI (s zz)), (fun zz => nI (rs zz)), (fun zz => nI (bd zz)), (fun zz => nI (d zz)), (fun zz => nI (p zz)), (fun zz => nI (n zz)), rg, tg), c, -7, qz_Qmk (qc_K_up K) (qc_J_of I) (qz_Za Z (fun _ w => w) (fun _ => ⟨hmL, rfl, by unfold qz_mp; rw [if_neg c0]⟩)), fun P hP => ?_⟩
  · unfold wpX_step
    refine qc_xtf _ c5 h1 ?_
    exact ⟨vp_in_nI (by omega) (by decide), nm_r ((qc_rd p rfl (by omega)).trans (congrArg nI hp)) (br_f (nI_nlt hx (by omega)) hP)⟩
theorem qc_o0 (K : qc_K mc md cl lc h B oo oa ob oc lv bd) (I : qc_I mc md oo oa ob d s lv rs yr p q n m (c :: l)) (hp : p (c * 6 + d c - 1) = x) (hx : x < cl) (Z : qz_Z hd lv d p h mp mL D (c :: l)) (hmL : c = 0 → mp + 1 ≤ mL) (ho : oo x = 0) (ha : oa x = nI a) (a8 : a < 8) : qz_Out mc cl oo oa ob oc B (qz_mp c mp) mL D (nI mc, nI md, nI cl, nI lc, 1, 0, nI c, nI h, 0, re, oo, oa, ob, oc, lg, (fun zz => nI (hd zz)), (fun zz => nI (s zz)), (fun zz => nI (rs zz)), (fun zz => nI (bd zz)), (fun zz => nI (d zz)), (fun zz => nI (p zz)), (fun zz => nI (n zz)), rg, tg) := by
  have c5 : c < 5 := I.2.2.1 c List.mem_cons_self
  obtain ⟨h1, hdm, hs1, hlv, hth⟩ := I.2.2.2.2.1
  have hm : md ≤ 6 := K.2.1.2
  have h6 : d c ≤ 6 := by omega
  have h64 : cl ≤ 64 := K.2.2.1
  have hl : lc ≤ 64 := K.2.2.2.1
  have hq : q (c * 6 + d c - 1) = x := (qc_qtop h1 hth).1.trans hp
  have hf : (c * 6 + d c - 1) < 30 := by omega
  have eA : nI ((c * 6 + d c - 1) * 8) + nI a = nI ((c * 6 + d c - 1) * 8 + a) := nI_add _ _
  refine .inl ⟨(nI mc, nI md, nI cl, nI lc, 1, 0, nI c, nI h, 0, re, oo, oa, ob, oc, lg, (fun zz => nI (hd zz)), (fun zz => nI (s zz)), (fun zz => nI (rs zz)), (fun zz => nI (bd zz)), (fun zz => nI (d zz)), (fun zz => nI ((qc_u p (c * 6 + d c - 1) (x + 1)) zz)), (fun zz => nI (n zz)), (upd rg ((c * 6 + d c - 1) * 8 + a) (ob x)), tg), qz_Rmk (qc_K_up K) (qc_tr_pc hm I (by omega)) (qz_Za Z (fun _ w => w) (fun _ => ⟨hmL, rfl, qz_p0 Z h1 hp⟩)), fun P hP => ?_⟩
  · unfold wpX_step; refine qc_xtf _ c5 h1 ?_; refine ⟨vp_in_nI (by omega) (by decide), nm_r ((qc_rd p rfl (by omega)).trans (congrArg nI hp)) (br_t (nI_lt hx (by omega)) (nm_r (qc_m8 _) ⟨vp_in_nI (by omega) (by decide), nm_r ((qc_rr rfl (by omega)).trans ha) ⟨vp_in_nI (by omega) (by decide), nm_r ((qc_rr rfl (by omega))) ⟨vp_in_nI (by omega) (by decide), nm_r ((qc_rr rfl (by omega))) ⟨vp_in_nI (by omega) (by decide), nm_r (qc_st rfl (nI_1 x) (by omega)) ⟨vp_in_nI (by omega) (by decide), nm_r ((qc_rr rfl (by omega)).trans ho) (br_f (by decide) (br_f (by decide) (br_t rfl ?_)))⟩⟩⟩⟩⟩))⟩
    exact ⟨qc_vi eA (by omega) (by decide), nm_r (qc_sr eA (by omega) rfl) hP⟩
theorem qc_o1 (K : qc_K mc md cl lc h B oo oa ob oc lv bd) (I : qc_I mc md oo oa ob d s lv rs yr p q n m (c :: l)) (hp : p (c * 6 + d c - 1) = x) (hx : x < cl) (Z : qz_Z hd lv d p h mp mL D (c :: l)) (hmL : c = 0 → mp + 1 ≤ mL) (ho : oo x = 1) (ha : oa x = nI a) (a8 : a < 8) (hb : ob x = nI b) (b8 : b < 8) : qz_Out mc cl oo oa ob oc B (qz_mp c mp) mL D (nI mc, nI md, nI cl, nI lc, 1, 0, nI c, nI h, 0, re, oo, oa, ob, oc, lg, (fun zz => nI (hd zz)), (fun zz => nI (s zz)), (fun zz => nI (rs zz)), (fun zz => nI (bd zz)), (fun zz => nI (d zz)), (fun zz => nI (p zz)), (fun zz => nI (n zz)), rg, tg) := by
  have c5 : c < 5 := I.2.2.1 c List.mem_cons_self
  obtain ⟨h1, hdm, hs1, hlv, hth⟩ := I.2.2.2.2.1
  have hm : md ≤ 6 := K.2.1.2
  have h6 : d c ≤ 6 := by omega
  have h64 : cl ≤ 64 := K.2.2.1
  have hl : lc ≤ 64 := K.2.2.2.1
  have hq : q (c * 6 + d c - 1) = x := (qc_qtop h1 hth).1.trans hp
  have hf : (c * 6 + d c - 1) < 30 := by omega
  have eA : nI ((c * 6 + d c - 1) * 8) + nI a = nI ((c * 6 + d c - 1) * 8 + a) := nI_add _ _
  have eB : nI ((c * 6 + d c - 1) * 8) + nI b = nI ((c * 6 + d c - 1) * 8 + b) := nI_add _ _
  refine .inl ⟨(nI mc, nI md, nI cl, nI lc, 1, 0, nI c, nI h, 0, re, oo, oa, ob, oc, lg, (fun zz => nI (hd zz)), (fun zz => nI (s zz)), (fun zz => nI (rs zz)), (fun zz => nI (bd zz)), (fun zz => nI (d zz)), (fun zz => nI ((qc_u p (c * 6 + d c - 1) (x + 1)) zz)), (fun zz => nI (n zz)), (upd rg ((c * 6 + d c - 1) * 8 + a) (rg ((c * 6 + d c - 1) * 8 + b))), tg), qz_Rmk (qc_K_up K) (qc_tr_pc hm I (by omega)) (qz_Za Z (fun _ w => w) (fun _ => ⟨hmL, rfl, qz_p0 Z h1 hp⟩)), fun P hP => ?_⟩
  · unfold wpX_step; refine qc_xtf _ c5 h1 ?_; refine ⟨vp_in_nI (by omega) (by decide), nm_r ((qc_rd p rfl (by omega)).trans (congrArg nI hp)) (br_t (nI_lt hx (by omega)) (nm_r (qc_m8 _) ⟨vp_in_nI (by omega) (by decide), nm_r ((qc_rr rfl (by omega)).trans ha) ⟨vp_in_nI (by omega) (by decide), nm_r ((qc_rr rfl (by omega)).trans hb) ⟨vp_in_nI (by omega) (by decide), nm_r ((qc_rr rfl (by omega))) ⟨vp_in_nI (by omega) (by decide), nm_r (qc_st rfl (nI_1 x) (by omega)) ⟨vp_in_nI (by omega) (by decide), nm_r ((qc_rr rfl (by omega)).trans ho) (br_f (by decide) (br_f (by decide) (br_f (by decide) (br_t rfl ?_))))⟩⟩⟩⟩⟩))⟩
    exact ⟨qc_vi eB (by omega) (by decide), qc_vi eA (by omega) (by decide), nm_r (qc_sr eA (by omega) (qc_rr eB (by omega))) hP⟩
theorem qc_o2 (K : qc_K mc md cl lc h B oo oa ob oc lv bd) (I : qc_I mc md oo oa ob d s lv rs yr p q n m (c :: l)) (hp : p (c * 6 + d c - 1) = x) (hx : x < cl) (Z : qz_Z hd lv d p h mp mL D (c :: l)) (c0 : c ≠ 0) (ho : oo x = 2) (ha : oa x = nI a) (a8 : a < 8) (hb : ob x = nI b) (b8 : b < 8) {g : Nat} (hc : oc x = nI g) (g8 : g < 8) : qz_Out mc cl oo oa ob oc B (qz_mp c mp) mL D (nI mc, nI md, nI cl, nI lc, 1, 0, nI c, nI h, 0, re, oo, oa, ob, oc, lg, (fun zz => nI (hd zz)), (fun zz => nI (s zz)), (fun zz => nI (rs zz)), (fun zz => nI (bd zz)), (fun zz => nI (d zz)), (fun zz => nI (p zz)), (fun zz => nI (n zz)), rg, tg) := by
  have c5 : c < 5 := I.2.2.1 c List.mem_cons_self
  obtain ⟨h1, hdm, hs1, hlv, hth⟩ := I.2.2.2.2.1
  have hm : md ≤ 6 := K.2.1.2
  have h6 : d c ≤ 6 := by omega
  have h64 : cl ≤ 64 := K.2.2.1
  have hl : lc ≤ 64 := K.2.2.2.1
  have hq : q (c * 6 + d c - 1) = x := (qc_qtop h1 hth).1.trans hp
  have hf : (c * 6 + d c - 1) < 30 := by omega
  have hmL : c = 0 → mp + 1 ≤ mL := fun z => absurd z c0
  have eA : nI ((c * 6 + d c - 1) * 8) + nI a = nI ((c * 6 + d c - 1) * 8 + a) := nI_add _ _
  have eB : nI ((c * 6 + d c - 1) * 8) + nI b = nI ((c * 6 + d c - 1) * 8 + b) := nI_add _ _
  have eC : nI ((c * 6 + d c - 1) * 8) + nI g = nI ((c * 6 + d c - 1) * 8 + g) := nI_add _ _
  have eV : rg (nI ((c * 6 + d c - 1) * 8) + nI b).toNatClampNeg + rg (nI ((c * 6 + d c - 1) * 8) + nI g).toNatClampNeg = rg ((c * 6 + d c - 1) * 8 + b) + rg ((c * 6 + d c - 1) * 8 + g) := by
    rw [qc_rr (f := rg) eB (by omega), qc_rr (f := rg) eC (by omega)]
  refine .inl ⟨(nI mc, nI md, nI cl, nI lc, 1, 0, nI c, nI h, 0, re, oo, oa, ob, oc, lg, (fun zz => nI (hd zz)), (fun zz => nI (s zz)), (fun zz => nI (rs zz)), (fun zz => nI (bd zz)), (fun zz => nI (d zz)), (fun zz => nI ((qc_u p (c * 6 + d c - 1) (x + 1)) zz)), (fun zz => nI (n zz)), (upd rg ((c * 6 + d c - 1) * 8 + a) (rg ((c * 6 + d c - 1) * 8 + b) + rg ((c * 6 + d c - 1) * 8 + g))), tg), qz_Rmk (qc_K_up K) (qc_tr_pc hm I (by omega)) (qz_Za Z (fun _ w => w) (fun _ => ⟨hmL, rfl, qz_p0 Z h1 hp⟩)), fun P hP => ?_⟩
  · unfold wpX_step; refine qc_xtf _ c5 h1 ?_; refine ⟨vp_in_nI (by omega) (by decide), nm_r ((qc_rd p rfl (by omega)).trans (congrArg nI hp)) (br_t (nI_lt hx (by omega)) (nm_r (qc_m8 _) ⟨vp_in_nI (by omega) (by decide), nm_r ((qc_rr rfl (by omega)).trans ha) ⟨vp_in_nI (by omega) (by decide), nm_r ((qc_rr rfl (by omega)).trans hb) ⟨vp_in_nI (by omega) (by decide), nm_r ((qc_rr rfl (by omega)).trans hc) ⟨vp_in_nI (by omega) (by decide), nm_r (qc_st rfl (nI_1 x) (by omega)) ⟨vp_in_nI (by omega) (by decide), nm_r ((qc_rr rfl (by omega)).trans ho) (br_f (by decide) (br_f (by decide) (br_f (by decide) (br_f (by decide) (br_t rfl ?_)))))⟩⟩⟩⟩⟩))⟩
    exact ⟨qc_vi eB (by omega) (by decide), qc_vi eC (by omega) (by decide), qc_vi eA (by omega) (by decide), nm_r (qc_sr eA (by omega) eV) hP⟩
theorem qc_o3 (K : qc_K mc md cl lc h B oo oa ob oc lv bd) (I : qc_I mc md oo oa ob d s lv rs yr p q n m (c :: l)) (hp : p (c * 6 + d c - 1) = x) (hx : x < cl) (Z : qz_Z hd lv d p h mp mL D (c :: l)) (c0 : c ≠ 0) (ho : oo x = 3) (ha : oa x = nI a) (a8 : a < 8) (hb : ob x = nI b) (b8 : b < 8) {g : Nat} (hc : oc x = nI g) (g8 : g < 8) : qz_Out mc cl oo oa ob oc B (qz_mp c mp) mL D (nI mc, nI md, nI cl, nI lc, 1, 0, nI c, nI h, 0, re, oo, oa, ob, oc, lg, (fun zz => nI (hd zz)), (fun zz => nI (s zz)), (fun zz => nI (rs zz)), (fun zz => nI (bd zz)), (fun zz => nI (d zz)), (fun zz => nI (p zz)), (fun zz => nI (n zz)), rg, tg) := by
  have c5 : c < 5 := I.2.2.1 c List.mem_cons_self
  obtain ⟨h1, hdm, hs1, hlv, hth⟩ := I.2.2.2.2.1
  have hm : md ≤ 6 := K.2.1.2
  have h6 : d c ≤ 6 := by omega
  have h64 : cl ≤ 64 := K.2.2.1
  have hl : lc ≤ 64 := K.2.2.2.1
  have hq : q (c * 6 + d c - 1) = x := (qc_qtop h1 hth).1.trans hp
  have hf : (c * 6 + d c - 1) < 30 := by omega
  have hmL : c = 0 → mp + 1 ≤ mL := fun z => absurd z c0
  have eA : nI ((c * 6 + d c - 1) * 8) + nI a = nI ((c * 6 + d c - 1) * 8 + a) := nI_add _ _
  have eB : nI ((c * 6 + d c - 1) * 8) + nI b = nI ((c * 6 + d c - 1) * 8 + b) := nI_add _ _
  have eC : nI ((c * 6 + d c - 1) * 8) + nI g = nI ((c * 6 + d c - 1) * 8 + g) := nI_add _ _
  have eV : rg (nI ((c * 6 + d c - 1) * 8) + nI b).toNatClampNeg - rg (nI ((c * 6 + d c - 1) * 8) + nI g).toNatClampNeg = rg ((c * 6 + d c - 1) * 8 + b) - rg ((c * 6 + d c - 1) * 8 + g) := by
    rw [qc_rr (f := rg) eB (by omega), qc_rr (f := rg) eC (by omega)]
  refine .inl ⟨(nI mc, nI md, nI cl, nI lc, 1, 0, nI c, nI h, 0, re, oo, oa, ob, oc, lg, (fun zz => nI (hd zz)), (fun zz => nI (s zz)), (fun zz => nI (rs zz)), (fun zz => nI (bd zz)), (fun zz => nI (d zz)), (fun zz => nI ((qc_u p (c * 6 + d c - 1) (x + 1)) zz)), (fun zz => nI (n zz)), (upd rg ((c * 6 + d c - 1) * 8 + a) (rg ((c * 6 + d c - 1) * 8 + b) - rg ((c * 6 + d c - 1) * 8 + g))), tg), qz_Rmk (qc_K_up K) (qc_tr_pc hm I (by omega)) (qz_Za Z (fun _ w => w) (fun _ => ⟨hmL, rfl, qz_p0 Z h1 hp⟩)), fun P hP => ?_⟩
  · unfold wpX_step; refine qc_xtf _ c5 h1 ?_; refine ⟨vp_in_nI (by omega) (by decide), nm_r ((qc_rd p rfl (by omega)).trans (congrArg nI hp)) (br_t (nI_lt hx (by omega)) (nm_r (qc_m8 _) ⟨vp_in_nI (by omega) (by decide), nm_r ((qc_rr rfl (by omega)).trans ha) ⟨vp_in_nI (by omega) (by decide), nm_r ((qc_rr rfl (by omega)).trans hb) ⟨vp_in_nI (by omega) (by decide), nm_r ((qc_rr rfl (by omega)).trans hc) ⟨vp_in_nI (by omega) (by decide), nm_r (qc_st rfl (nI_1 x) (by omega)) ⟨vp_in_nI (by omega) (by decide), nm_r ((qc_rr rfl (by omega)).trans ho) (br_f (by decide) (br_f (by decide) (br_f (by decide) (br_f (by decide) (br_f (by decide) (br_t rfl ?_))))))⟩⟩⟩⟩⟩))⟩
    exact ⟨qc_vi eB (by omega) (by decide), qc_vi eC (by omega) (by decide), qc_vi eA (by omega) (by decide), nm_r (qc_sr eA (by omega) eV) hP⟩
theorem qc_o4 (K : qc_K mc md cl lc h B oo oa ob oc lv bd) (I : qc_I mc md oo oa ob d s lv rs yr p q n m (c :: l)) (hp : p (c * 6 + d c - 1) = x) (hx : x < cl) (Z : qz_Z hd lv d p h mp mL D (c :: l)) (c0 : c ≠ 0) (ho : oo x = 4) (ha : oa x = nI a) (a8 : a < 8) (hb : ob x = nI b) (b8 : b < 8) {g : Nat} (hc : oc x = nI g) (g8 : g < 8) : qz_Out mc cl oo oa ob oc B (qz_mp c mp) mL D (nI mc, nI md, nI cl, nI lc, 1, 0, nI c, nI h, 0, re, oo, oa, ob, oc, lg, (fun zz => nI (hd zz)), (fun zz => nI (s zz)), (fun zz => nI (rs zz)), (fun zz => nI (bd zz)), (fun zz => nI (d zz)), (fun zz => nI (p zz)), (fun zz => nI (n zz)), rg, tg) := by
  have c5 : c < 5 := I.2.2.1 c List.mem_cons_self
  obtain ⟨h1, hdm, hs1, hlv, hth⟩ := I.2.2.2.2.1
  have hm : md ≤ 6 := K.2.1.2
  have h6 : d c ≤ 6 := by omega
  have h64 : cl ≤ 64 := K.2.2.1
  have hl : lc ≤ 64 := K.2.2.2.1
  have hq : q (c * 6 + d c - 1) = x := (qc_qtop h1 hth).1.trans hp
  have hf : (c * 6 + d c - 1) < 30 := by omega
  have hmL : c = 0 → mp + 1 ≤ mL := fun z => absurd z c0
  have eA : nI ((c * 6 + d c - 1) * 8) + nI a = nI ((c * 6 + d c - 1) * 8 + a) := nI_add _ _
  have eB : nI ((c * 6 + d c - 1) * 8) + nI b = nI ((c * 6 + d c - 1) * 8 + b) := nI_add _ _
  have eC : nI ((c * 6 + d c - 1) * 8) + nI g = nI ((c * 6 + d c - 1) * 8 + g) := nI_add _ _
  by_cases z : rg (nI ((c * 6 + d c - 1) * 8) + nI g).toNatClampNeg ≤ rg (nI ((c * 6 + d c - 1) * 8) + nI b).toNatClampNeg
  · refine .inl ⟨(nI mc, nI md, nI cl, nI lc, 1, 0, nI c, nI h, 0, re, oo, oa, ob, oc, lg, (fun zz => nI (hd zz)), (fun zz => nI (s zz)), (fun zz => nI (rs zz)), (fun zz => nI (bd zz)), (fun zz => nI (d zz)), (fun zz => nI ((qc_u p (c * 6 + d c - 1) (x + 1)) zz)), (fun zz => nI (n zz)), (upd rg ((c * 6 + d c - 1) * 8 + a) 0), tg), qz_Rmk (qc_K_up K) (qc_tr_pc hm I (by omega)) (qz_Za Z (fun _ w => w) (fun _ => ⟨hmL, rfl, qz_p0 Z h1 hp⟩)), fun P hP => ?_⟩
    · unfold wpX_step; refine qc_xtf _ c5 h1 ?_; refine ⟨vp_in_nI (by omega) (by decide), nm_r ((qc_rd p rfl (by omega)).trans (congrArg nI hp)) (br_t (nI_lt hx (by omega)) (nm_r (qc_m8 _) ⟨vp_in_nI (by omega) (by decide), nm_r ((qc_rr rfl (by omega)).trans ha) ⟨vp_in_nI (by omega) (by decide), nm_r ((qc_rr rfl (by omega)).trans hb) ⟨vp_in_nI (by omega) (by decide), nm_r ((qc_rr rfl (by omega)).trans hc) ⟨vp_in_nI (by omega) (by decide), nm_r (qc_st rfl (nI_1 x) (by omega)) ⟨vp_in_nI (by omega) (by decide), nm_r ((qc_rr rfl (by omega)).trans ho) (br_f (by decide) (br_f (by decide) (br_f (by decide) (br_f (by decide) (br_f (by decide) (br_f (by decide) (br_t rfl ?_)))))))⟩⟩⟩⟩⟩))⟩
      exact ⟨qc_vi eB (by omega) (by decide), qc_vi eC (by omega) (by decide), br_t z ⟨qc_vi eA (by omega) (by decide), nm_r (qc_sr eA (by omega) rfl) hP⟩⟩
  · refine .inl ⟨(nI mc, nI md, nI cl, nI lc, 1, 0, nI c, nI h, 0, re, oo, oa, ob, oc, lg, (fun zz => nI (hd zz)), (fun zz => nI (s zz)), (fun zz => nI (rs zz)), (fun zz => nI (bd zz)), (fun zz => nI (d zz)), (fun zz => nI ((qc_u p (c * 6 + d c - 1) (x + 1)) zz)), (fun zz => nI (n zz)), (upd rg ((c * 6 + d c - 1) * 8 + a) 1), tg), qz_Rmk (qc_K_up K) (qc_tr_pc hm I (by omega)) (qz_Za Z (fun _ w => w) (fun _ => ⟨hmL, rfl, qz_p0 Z h1 hp⟩)), fun P hP => ?_⟩
    · unfold wpX_step; refine qc_xtf _ c5 h1 ?_; refine ⟨vp_in_nI (by omega) (by decide), nm_r ((qc_rd p rfl (by omega)).trans (congrArg nI hp)) (br_t (nI_lt hx (by omega)) (nm_r (qc_m8 _) ⟨vp_in_nI (by omega) (by decide), nm_r ((qc_rr rfl (by omega)).trans ha) ⟨vp_in_nI (by omega) (by decide), nm_r ((qc_rr rfl (by omega)).trans hb) ⟨vp_in_nI (by omega) (by decide), nm_r ((qc_rr rfl (by omega)).trans hc) ⟨vp_in_nI (by omega) (by decide), nm_r (qc_st rfl (nI_1 x) (by omega)) ⟨vp_in_nI (by omega) (by decide), nm_r ((qc_rr rfl (by omega)).trans ho) (br_f (by decide) (br_f (by decide) (br_f (by decide) (br_f (by decide) (br_f (by decide) (br_f (by decide) (br_t rfl ?_)))))))⟩⟩⟩⟩⟩))⟩
      exact ⟨qc_vi eB (by omega) (by decide), qc_vi eC (by omega) (by decide), br_f z ⟨qc_vi eA (by omega) (by decide), nm_r (qc_sr eA (by omega) rfl) hP⟩⟩
theorem qc_o5 (K : qc_K mc md cl lc h B oo oa ob oc lv bd) (I : qc_I mc md oo oa ob d s lv rs yr p q n m (c :: l)) (hp : p (c * 6 + d c - 1) = x) (hx : x < cl) (Z : qz_Z hd lv d p h mp mL D (c :: l)) (c0 : c ≠ 0) (ho : oo x = 5) (ha : oa x = nI a) (a8 : a < 64) : qz_Out mc cl oo oa ob oc B (qz_mp c mp) mL D (nI mc, nI md, nI cl, nI lc, 1, 0, nI c, nI h, 0, re, oo, oa, ob, oc, lg, (fun zz => nI (hd zz)), (fun zz => nI (s zz)), (fun zz => nI (rs zz)), (fun zz => nI (bd zz)), (fun zz => nI (d zz)), (fun zz => nI (p zz)), (fun zz => nI (n zz)), rg, tg) := by
  have c5 : c < 5 := I.2.2.1 c List.mem_cons_self
  obtain ⟨h1, hdm, hs1, hlv, hth⟩ := I.2.2.2.2.1
  have hm : md ≤ 6 := K.2.1.2
  have h6 : d c ≤ 6 := by omega
  have h64 : cl ≤ 64 := K.2.2.1
  have hl : lc ≤ 64 := K.2.2.2.1
  have hq : q (c * 6 + d c - 1) = x := (qc_qtop h1 hth).1.trans hp
  have hf : (c * 6 + d c - 1) < 30 := by omega
  have hmL : c = 0 → mp + 1 ≤ mL := fun z => absurd z c0
  refine .inl ⟨(nI mc, nI md, nI cl, nI lc, 1, 0, nI c, nI h, 0, re, oo, oa, ob, oc, lg, (fun zz => nI (hd zz)), (fun zz => nI (s zz)), (fun zz => nI (rs zz)), (fun zz => nI (bd zz)), (fun zz => nI (d zz)), (fun zz => nI ((qc_u p (c * 6 + d c - 1) a) zz)), (fun zz => nI (n zz)), rg, tg), qz_Rmk (qc_K_up K) (qc_tr_pc hm I (by omega)) (qz_Za Z (fun _ w => w) (fun _ => ⟨hmL, rfl, qz_p1 c0 h1 _⟩)), fun P hP => ?_⟩
  · unfold wpX_step; refine qc_xtf _ c5 h1 ?_; refine ⟨vp_in_nI (by omega) (by decide), nm_r ((qc_rd p rfl (by omega)).trans (congrArg nI hp)) (br_t (nI_lt hx (by omega)) (nm_r (qc_m8 _) ⟨vp_in_nI (by omega) (by decide), nm_r ((qc_rr rfl (by omega)).trans ha) ⟨vp_in_nI (by omega) (by decide), nm_r ((qc_rr rfl (by omega))) ⟨vp_in_nI (by omega) (by decide), nm_r ((qc_rr rfl (by omega))) ⟨vp_in_nI (by omega) (by decide), nm_r (qc_st rfl (nI_1 x) (by omega)) ⟨vp_in_nI (by omega) (by decide), nm_r ((qc_rr rfl (by omega)).trans ho) (br_f (by decide) (br_f (by decide) (br_f (by decide) (br_f (by decide) (br_f (by decide) (br_f (by decide) (br_f (by decide) (br_t rfl ?_))))))))⟩⟩⟩⟩⟩))⟩
    exact ⟨vp_in_nI (by omega) (by decide), nm_r ((qc_st rfl rfl (by omega)).trans (by rw [qc_uu])) hP⟩
theorem qc_o6 (K : qc_K mc md cl lc h B oo oa ob oc lv bd) (I : qc_I mc md oo oa ob d s lv rs yr p q n m (c :: l)) (hp : p (c * 6 + d c - 1) = x) (hx : x < cl) (Z : qz_Z hd lv d p h mp mL D (c :: l)) (c0 : c ≠ 0) (ho : oo x = 6) (ha : oa x = nI a) (a8 : a < 8) (hb : ob x = nI b) (b6 : b < 64) : qz_Out mc cl oo oa ob oc B (qz_mp c mp) mL D (nI mc, nI md, nI cl, nI lc, 1, 0, nI c, nI h, 0, re, oo, oa, ob, oc, lg, (fun zz => nI (hd zz)), (fun zz => nI (s zz)), (fun zz => nI (rs zz)), (fun zz => nI (bd zz)), (fun zz => nI (d zz)), (fun zz => nI (p zz)), (fun zz => nI (n zz)), rg, tg) := by
  have c5 : c < 5 := I.2.2.1 c List.mem_cons_self
  obtain ⟨h1, hdm, hs1, hlv, hth⟩ := I.2.2.2.2.1
  have hm : md ≤ 6 := K.2.1.2
  have h6 : d c ≤ 6 := by omega
  have h64 : cl ≤ 64 := K.2.2.1
  have hl : lc ≤ 64 := K.2.2.2.1
  have hq : q (c * 6 + d c - 1) = x := (qc_qtop h1 hth).1.trans hp
  have hf : (c * 6 + d c - 1) < 30 := by omega
  have hmL : c = 0 → mp + 1 ≤ mL := fun z => absurd z c0
  have eA : nI ((c * 6 + d c - 1) * 8) + nI a = nI ((c * 6 + d c - 1) * 8 + a) := nI_add _ _
  by_cases z : rg (nI ((c * 6 + d c - 1) * 8) + nI a).toNatClampNeg = 0
  · refine .inl ⟨(nI mc, nI md, nI cl, nI lc, 1, 0, nI c, nI h, 0, re, oo, oa, ob, oc, lg, (fun zz => nI (hd zz)), (fun zz => nI (s zz)), (fun zz => nI (rs zz)), (fun zz => nI (bd zz)), (fun zz => nI (d zz)), (fun zz => nI ((qc_u p (c * 6 + d c - 1) b) zz)), (fun zz => nI (n zz)), rg, tg), qz_Rmk (qc_K_up K) (qc_tr_pc hm I (by omega)) (qz_Za Z (fun _ w => w) (fun _ => ⟨hmL, rfl, qz_p1 c0 h1 _⟩)), fun P hP => ?_⟩
    · unfold wpX_step; refine qc_xtf _ c5 h1 ?_; refine ⟨vp_in_nI (by omega) (by decide), nm_r ((qc_rd p rfl (by omega)).trans (congrArg nI hp)) (br_t (nI_lt hx (by omega)) (nm_r (qc_m8 _) ⟨vp_in_nI (by omega) (by decide), nm_r ((qc_rr rfl (by omega)).trans ha) ⟨vp_in_nI (by omega) (by decide), nm_r ((qc_rr rfl (by omega)).trans hb) ⟨vp_in_nI (by omega) (by decide), nm_r ((qc_rr rfl (by omega))) ⟨vp_in_nI (by omega) (by decide), nm_r (qc_st rfl (nI_1 x) (by omega)) ⟨vp_in_nI (by omega) (by decide), nm_r ((qc_rr rfl (by omega)).trans ho) (br_f (by decide) (br_f (by decide) (br_f (by decide) (br_f (by decide) (br_f (by decide) (br_f (by decide) (br_f (by decide) (br_f (by decide) (br_t rfl ?_)))))))))⟩⟩⟩⟩⟩))⟩
      exact ⟨qc_vi eA (by omega) (by decide), br_t z ⟨vp_in_nI (by omega) (by decide), nm_r ((qc_st rfl rfl (by omega)).trans (by rw [qc_uu])) hP⟩⟩
  · refine .inl ⟨(nI mc, nI md, nI cl, nI lc, 1, 0, nI c, nI h, 0, re, oo, oa, ob, oc, lg, (fun zz => nI (hd zz)), (fun zz => nI (s zz)), (fun zz => nI (rs zz)), (fun zz => nI (bd zz)), (fun zz => nI (d zz)), (fun zz => nI ((qc_u p (c * 6 + d c - 1) (x + 1)) zz)), (fun zz => nI (n zz)), rg, tg), qz_Rmk (qc_K_up K) (qc_tr_pc hm I (by omega)) (qz_Za Z (fun _ w => w) (fun _ => ⟨hmL, rfl, qz_p1 c0 h1 _⟩)), fun P hP => ?_⟩
    · unfold wpX_step; refine qc_xtf _ c5 h1 ?_; refine ⟨vp_in_nI (by omega) (by decide), nm_r ((qc_rd p rfl (by omega)).trans (congrArg nI hp)) (br_t (nI_lt hx (by omega)) (nm_r (qc_m8 _) ⟨vp_in_nI (by omega) (by decide), nm_r ((qc_rr rfl (by omega)).trans ha) ⟨vp_in_nI (by omega) (by decide), nm_r ((qc_rr rfl (by omega)).trans hb) ⟨vp_in_nI (by omega) (by decide), nm_r ((qc_rr rfl (by omega))) ⟨vp_in_nI (by omega) (by decide), nm_r (qc_st rfl (nI_1 x) (by omega)) ⟨vp_in_nI (by omega) (by decide), nm_r ((qc_rr rfl (by omega)).trans ho) (br_f (by decide) (br_f (by decide) (br_f (by decide) (br_f (by decide) (br_f (by decide) (br_f (by decide) (br_f (by decide) (br_f (by decide) (br_t rfl ?_)))))))))⟩⟩⟩⟩⟩))⟩
      exact ⟨qc_vi eA (by omega) (by decide), br_f z ⟨vp_in_nI (by omega) (by decide), nm_r ((qc_st rfl (nI_1 x) (by omega)).trans (by rw [qc_uu])) hP⟩⟩
theorem qc_o9 (K : qc_K mc md cl lc h B oo oa ob oc lv bd) (I : qc_I mc md oo oa ob d s lv rs yr p q n m (c :: l)) (hp : p (c * 6 + d c - 1) = x) (hx : x < cl) (Z : qz_Z hd lv d p h mp mL D (c :: l)) (c0 : c ≠ 0) (ho : oo x = 9) (ha : oa x = nI a) (a8 : a < 8) : qz_Out mc cl oo oa ob oc B (qz_mp c mp) mL D (nI mc, nI md, nI cl, nI lc, 1, 0, nI c, nI h, 0, re, oo, oa, ob, oc, lg, (fun zz => nI (hd zz)), (fun zz => nI (s zz)), (fun zz => nI (rs zz)), (fun zz => nI (bd zz)), (fun zz => nI (d zz)), (fun zz => nI (p zz)), (fun zz => nI (n zz)), rg, tg) := by
  have c5 : c < 5 := I.2.2.1 c List.mem_cons_self
  obtain ⟨h1, hdm, hs1, hlv, hth⟩ := I.2.2.2.2.1
  have hm : md ≤ 6 := K.2.1.2
  have h6 : d c ≤ 6 := by omega
  have h64 : cl ≤ 64 := K.2.2.1
  have hl : lc ≤ 64 := K.2.2.2.1
  have hq : q (c * 6 + d c - 1) = x := (qc_qtop h1 hth).1.trans hp
  have hf : (c * 6 + d c - 1) < 30 := by omega
  have hmL : c = 0 → mp + 1 ≤ mL := fun z => absurd z c0
  have eA : nI ((c * 6 + d c - 1) * 8) + nI a = nI ((c * 6 + d c - 1) * 8 + a) := nI_add _ _
  refine .inl ⟨(nI mc, nI md, nI cl, nI ((qc_ap (lg, lc) (rg ((c * 6 + d c - 1) * 8 + a))).2), 1, 0, nI c, nI h, 0, re, oo, oa, ob, oc, (qc_ap (lg, lc) (rg ((c * 6 + d c - 1) * 8 + a))).1, (fun zz => nI (hd zz)), (fun zz => nI (s zz)), (fun zz => nI (rs zz)), (fun zz => nI (bd zz)), (fun zz => nI (d zz)), (fun zz => nI ((qc_u p (c * 6 + d c - 1) (x + 1)) zz)), (fun zz => nI (n zz)), rg, tg), qz_Rmk (qc_K_c (qc_K_up K) (qc_ap_le hl) K.2.2.2.2.2.2.2) (qc_tr_pc hm I (by omega)) (qz_Za Z (fun _ w => w) (fun _ => ⟨hmL, rfl, qz_p0 Z h1 hp⟩)), fun P hP => ?_⟩
  · unfold wpX_step; refine qc_xtf _ c5 h1 ?_; refine ⟨vp_in_nI (by omega) (by decide), nm_r ((qc_rd p rfl (by omega)).trans (congrArg nI hp)) (br_t (nI_lt hx (by omega)) (nm_r (qc_m8 _) ⟨vp_in_nI (by omega) (by decide), nm_r ((qc_rr rfl (by omega)).trans ha) ⟨vp_in_nI (by omega) (by decide), nm_r ((qc_rr rfl (by omega))) ⟨vp_in_nI (by omega) (by decide), nm_r ((qc_rr rfl (by omega))) ⟨vp_in_nI (by omega) (by decide), nm_r (qc_st rfl (nI_1 x) (by omega)) ⟨vp_in_nI (by omega) (by decide), nm_r ((qc_rr rfl (by omega)).trans ho) (br_f (by decide) (br_f (by decide) (br_f (by decide) (br_f (by decide) (br_f (by decide) (br_f (by decide) (br_f (by decide) (br_f (by decide) (br_f (by decide) (br_f (by decide) (br_f (by decide) (br_t rfl ?_))))))))))))⟩⟩⟩⟩⟩))⟩
    exact ⟨qc_vi eA (by omega) (by decide), qc_xap _ (qc_rr eA (by omega)) hl hP⟩
theorem qc_o11 (K : qc_K mc md cl lc h B oo oa ob oc lv bd) (I : qc_I mc md oo oa ob d s lv rs yr p q n m (c :: l)) (hp : p (c * 6 + d c - 1) = x) (hx : x < cl) (Z : qz_Z hd lv d p h mp mL D (c :: l)) (c0 : c ≠ 0) (ho : oo x = 11) (ha : oa x = nI a) (a8 : a < 8) : qz_Out mc cl oo oa ob oc B (qz_mp c mp) mL D (nI mc, nI md, nI cl, nI lc, 1, 0, nI c, nI h, 0, re, oo, oa, ob, oc, lg, (fun zz => nI (hd zz)), (fun zz => nI (s zz)), (fun zz => nI (rs zz)), (fun zz => nI (bd zz)), (fun zz => nI (d zz)), (fun zz => nI (p zz)), (fun zz => nI (n zz)), rg, tg) := by
  have c5 : c < 5 := I.2.2.1 c List.mem_cons_self
  obtain ⟨h1, hdm, hs1, hlv, hth⟩ := I.2.2.2.2.1
  have hm : md ≤ 6 := K.2.1.2
  have h6 : d c ≤ 6 := by omega
  have h64 : cl ≤ 64 := K.2.2.1
  have hl : lc ≤ 64 := K.2.2.2.1
  have hq : q (c * 6 + d c - 1) = x := (qc_qtop h1 hth).1.trans hp
  have hf : (c * 6 + d c - 1) < 30 := by omega
  have hmL : c = 0 → mp + 1 ≤ mL := fun z => absurd z c0
  have eA : nI ((c * 6 + d c - 1) * 8) + nI a = nI ((c * 6 + d c - 1) * 8 + a) := nI_add _ _
  refine .inr ⟨(nI mc, nI md, nI cl, nI lc, 1, 0, nI c, nI h, 1, (rg ((c * 6 + d c - 1) * 8 + a)), oo, oa, ob, oc, lg, (fun zz => nI (hd zz)), (fun zz => nI (s zz)), (fun zz => nI (rs zz)), (fun zz => nI (bd zz)), (fun zz => nI (d zz)), (fun zz => nI ((qc_u p (c * 6 + d c - 1) (x + 1)) zz)), (fun zz => nI (n zz)), rg, tg), c, rg ((c * 6 + d c - 1) * 8 + a), qz_Qmk (qc_K_up K) (qc_tr_j hm I) (qz_Za Z (fun _ w => w) (fun _ => ⟨hmL, rfl, qz_p0 Z h1 hp⟩)), fun P hP => ?_⟩
  · unfold wpX_step; refine qc_xtf _ c5 h1 ?_; refine ⟨vp_in_nI (by omega) (by decide), nm_r ((qc_rd p rfl (by omega)).trans (congrArg nI hp)) (br_t (nI_lt hx (by omega)) (nm_r (qc_m8 _) ⟨vp_in_nI (by omega) (by decide), nm_r ((qc_rr rfl (by omega)).trans ha) ⟨vp_in_nI (by omega) (by decide), nm_r ((qc_rr rfl (by omega))) ⟨vp_in_nI (by omega) (by decide), nm_r ((qc_rr rfl (by omega))) ⟨vp_in_nI (by omega) (by decide), nm_r (qc_st rfl (nI_1 x) (by omega)) ⟨vp_in_nI (by omega) (by decide), nm_r ((qc_rr rfl (by omega)).trans ho) (br_f (by decide) (br_f (by decide) (br_f (by decide) (br_f (by decide) (br_f (by decide) (br_f (by decide) (br_f (by decide) (br_f (by decide) (br_f (by decide) (br_f (by decide) (br_f (by decide) (br_f (by decide) (br_f (by decide) (br_t rfl ?_))))))))))))))⟩⟩⟩⟩⟩))⟩
    refine ⟨qc_vi eA (by omega) (by decide), ?_⟩
    rw [qc_rr (f := rg) eA (by omega)]
    exact hP
theorem qc_o18 (K : qc_K mc md cl lc h B oo oa ob oc lv bd) (I : qc_I mc md oo oa ob d s lv rs yr p q n m (c :: l)) (hp : p (c * 6 + d c - 1) = x) (hx : x < cl) (Z : qz_Z hd lv d p h mp mL D (c :: l)) (c0 : c ≠ 0) (ho : oo x = 18) (ha : oa x = nI a) (a8 : a < 8) : qz_Out mc cl oo oa ob oc B (qz_mp c mp) mL D (nI mc, nI md, nI cl, nI lc, 1, 0, nI c, nI h, 0, re, oo, oa, ob, oc, lg, (fun zz => nI (hd zz)), (fun zz => nI (s zz)), (fun zz => nI (rs zz)), (fun zz => nI (bd zz)), (fun zz => nI (d zz)), (fun zz => nI (p zz)), (fun zz => nI (n zz)), rg, tg) := by
  have c5 : c < 5 := I.2.2.1 c List.mem_cons_self
  obtain ⟨h1, hdm, hs1, hlv, hth⟩ := I.2.2.2.2.1
  have hm : md ≤ 6 := K.2.1.2
  have h6 : d c ≤ 6 := by omega
  have h64 : cl ≤ 64 := K.2.2.1
  have hl : lc ≤ 64 := K.2.2.2.1
  have hq : q (c * 6 + d c - 1) = x := (qc_qtop h1 hth).1.trans hp
  have hf : (c * 6 + d c - 1) < 30 := by omega
  have hmL : c = 0 → mp + 1 ≤ mL := fun z => absurd z c0
  have eA : nI ((c * 6 + d c - 1) * 8) + nI a = nI ((c * 6 + d c - 1) * 8 + a) := nI_add _ _
  refine .inl ⟨(nI mc, nI md, nI cl, nI lc, 1, 0, nI c, nI h, 0, re, oo, oa, ob, oc, lg, (fun zz => nI (hd zz)), (fun zz => nI (s zz)), (fun zz => nI (rs zz)), (fun zz => nI (bd zz)), (fun zz => nI (d zz)), (fun zz => nI ((qc_u p (c * 6 + d c - 1) (x + 1)) zz)), (fun zz => nI (n zz)), (upd rg ((c * 6 + d c - 1) * 8 + a) (nI (hd c))), tg), qz_Rmk (qc_K_up K) (qc_tr_pc hm I (by omega)) (qz_Za Z (fun _ w => w) (fun _ => ⟨hmL, rfl, qz_p0 Z h1 hp⟩)), fun P hP => ?_⟩
  · unfold wpX_step; refine qc_xtf _ c5 h1 ?_; refine ⟨vp_in_nI (by omega) (by decide), nm_r ((qc_rd p rfl (by omega)).trans (congrArg nI hp)) (br_t (nI_lt hx (by omega)) (nm_r (qc_m8 _) ⟨vp_in_nI (by omega) (by decide), nm_r ((qc_rr rfl (by omega)).trans ha) ⟨vp_in_nI (by omega) (by decide), nm_r ((qc_rr rfl (by omega))) ⟨vp_in_nI (by omega) (by decide), nm_r ((qc_rr rfl (by omega))) ⟨vp_in_nI (by omega) (by decide), nm_r (qc_st rfl (nI_1 x) (by omega)) ⟨vp_in_nI (by omega) (by decide), nm_r ((qc_rr rfl (by omega)).trans ho) (br_f (by decide) (br_f (by decide) (br_f (by decide) (br_f (by decide) (br_f (by decide) (br_f (by decide) (br_f (by decide) (br_f (by decide) (br_f (by decide) (br_f (by decide) (br_f (by decide) (br_f (by decide) (br_f (by decide) (br_f (by decide) (br_f (by decide) (br_f (by decide) (br_f (by decide) (br_f (by decide) (br_f (by decide) (br_f (by decide) (br_t rfl ?_)))))))))))))))))))))⟩⟩⟩⟩⟩))⟩
    exact ⟨vp_in_nI (by omega) (by decide), qc_vi eA (by omega) (by decide), nm_r (qc_sr eA (by omega) (qc_rd hd rfl (by omega))) hP⟩
end
end
section
section
variable {mc md cl lc cu h B mp mL : Nat} {st rt lh rd re : Int32} {D : Nat → Prop} {oo oa ob oc lg rg tg : Nat → Int32} {hd d s lv rs bd yr p q n m : Nat → Nat} {c r t x a b : Nat} {l L : List Nat}
theorem qc_o7 (K : qc_K mc md cl lc h B oo oa ob oc lv bd) (I : qc_I mc md oo oa ob d s lv rs yr p q n m (c :: l)) (hp : p (c * 6 + d c - 1) = x) (hx : x < cl) (Z : qz_Z hd lv d p h mp mL D (c :: l)) (c0 : c ≠ 0) (ho : oo x = 7) (ha : oa x = nI a) (a8 : a < 8) (hb : ob x = nI b) (b6 : b < 64) {g : Nat} (hc : oc x = nI g) (g8 : g < 8) : qz_Out mc cl oo oa ob oc B (qz_mp c mp) mL D (nI mc, nI md, nI cl, nI lc, 1, 0, nI c, nI h, 0, re, oo, oa, ob, oc, lg, (fun zz => nI (hd zz)), (fun zz => nI (s zz)), (fun zz => nI (rs zz)), (fun zz => nI (bd zz)), (fun zz => nI (d zz)), (fun zz => nI (p zz)), (fun zz => nI (n zz)), rg, tg) := by
  have c5 : c < 5 := I.2.2.1 c List.mem_cons_self
  obtain ⟨h1, hdm, hs1, hlv, hth⟩ := I.2.2.2.2.1
  have hm : md ≤ 6 := K.2.1.2
  have h6 : d c ≤ 6 := by omega
  have h64 : cl ≤ 64 := K.2.2.1
  have hl : lc ≤ 64 := K.2.2.2.1
  have hq : q (c * 6 + d c - 1) = x := (qc_qtop h1 hth).1.trans hp
  have hf : (c * 6 + d c - 1) < 30 := by omega
  have hmL : c = 0 → mp + 1 ≤ mL := fun z => absurd z c0
  have eC : nI ((c * 6 + d c - 1) * 8) + nI g = nI ((c * 6 + d c - 1) * 8 + g) := nI_add _ _
  by_cases hd1 : d c < md
  · have cd : (fun zz => nI (d zz)) (nI c).toNatClampNeg < nI md := by rw [qc_rd d rfl (by omega)]; exact nI_lt hd1 (by omega)
    refine .inl ⟨(nI mc, nI md, nI cl, nI lc, 1, 0, nI c, nI h, 0, re, oo, oa, ob, oc, lg, (fun zz => nI (hd zz)), (fun zz => nI (s zz)), (fun zz => nI (rs zz)), (fun zz => nI (bd zz)), (fun zz => nI ((qc_u d c (d c + 1)) zz)), (fun zz => nI ((qc_u (qc_u p (c * 6 + d c - 1) (x + 1)) (c * 6 + d c) b) zz)), (fun zz => nI ((qc_u n (c * 6 + d c) 0) zz)), (qc_pr rg ((c * 6 + d c) * 8) (rg ((c * 6 + d c - 1) * 8 + g))), tg), qz_Rmk (qc_K_up K) (qc_tr_call hm I hd1 ⟨by omega, by omega, a, a8, ha⟩ (by omega)) (qz_Za Z (fun _ w => w) (fun _ => ⟨hmL, qc_uo (by omega), (qc_uo (by omega)).trans (qz_p1 c0 h1 _)⟩)), fun P hP => ?_⟩
    · unfold wpX_step; refine qc_xtf _ c5 h1 ?_; refine ⟨vp_in_nI (by omega) (by decide), nm_r ((qc_rd p rfl (by omega)).trans (congrArg nI hp)) (br_t (nI_lt hx (by omega)) (nm_r (qc_m8 _) ⟨vp_in_nI (by omega) (by decide), nm_r ((qc_rr rfl (by omega)).trans ha) ⟨vp_in_nI (by omega) (by decide), nm_r ((qc_rr rfl (by omega)).trans hb) ⟨vp_in_nI (by omega) (by decide), nm_r ((qc_rr rfl (by omega)).trans hc) ⟨vp_in_nI (by omega) (by decide), nm_r (qc_st rfl (nI_1 x) (by omega)) ⟨vp_in_nI (by omega) (by decide), nm_r ((qc_rr rfl (by omega)).trans ho) (br_f (by decide) (br_f (by decide) (br_f (by decide) (br_f (by decide) (br_f (by decide) (br_f (by decide) (br_f (by decide) (br_f (by decide) (br_f (by decide) (br_t rfl ?_))))))))))⟩⟩⟩⟩⟩))⟩
      refine ⟨qc_vi eC (by omega) (by decide), ?_⟩
      rw [qc_rr (f := rg) eC (by omega)]
      exact ⟨vp_in_nI (by omega) (by decide), br_t cd (qc_xpush _ _ c5 (by omega) hP)⟩
  · have cd : ¬ (fun zz => nI (d zz)) (nI c).toNatClampNeg < nI md := by rw [qc_rd d rfl (by omega)]; exact nI_nlt (by omega) (by omega)
    refine .inr ⟨(nI mc, nI md, nI cl, nI lc, 1, 0, nI c, nI h, 1, (-4), oo, oa, ob, oc, lg, (fun zz => nI (hd zz)), (fun zz => nI (s zz)), (fun zz => nI (rs zz)), (fun zz => nI (bd zz)), (fun zz => nI (d zz)), (fun zz => nI ((qc_u p (c * 6 + d c - 1) (x + 1)) zz)), (fun zz => nI (n zz)), rg, tg), c, -4, qz_Qmk (qc_K_up K) (qc_tr_j hm I) (qz_Za Z (fun _ w => w) (fun _ => ⟨hmL, rfl, qz_p0 Z h1 hp⟩)), fun P hP => ?_⟩
    · unfold wpX_step; refine qc_xtf _ c5 h1 ?_; refine ⟨vp_in_nI (by omega) (by decide), nm_r ((qc_rd p rfl (by omega)).trans (congrArg nI hp)) (br_t (nI_lt hx (by omega)) (nm_r (qc_m8 _) ⟨vp_in_nI (by omega) (by decide), nm_r ((qc_rr rfl (by omega)).trans ha) ⟨vp_in_nI (by omega) (by decide), nm_r ((qc_rr rfl (by omega)).trans hb) ⟨vp_in_nI (by omega) (by decide), nm_r ((qc_rr rfl (by omega)).trans hc) ⟨vp_in_nI (by omega) (by decide), nm_r (qc_st rfl (nI_1 x) (by omega)) ⟨vp_in_nI (by omega) (by decide), nm_r ((qc_rr rfl (by omega)).trans ho) (br_f (by decide) (br_f (by decide) (br_f (by decide) (br_f (by decide) (br_f (by decide) (br_f (by decide) (br_f (by decide) (br_f (by decide) (br_f (by decide) (br_t rfl ?_))))))))))⟩⟩⟩⟩⟩))⟩
      exact ⟨qc_vi eC (by omega) (by decide), vp_in_nI (by omega) (by decide), br_f cd hP⟩
theorem qc_o8a (K : qc_K mc md cl lc h B oo oa ob oc lv bd) (I : qc_I mc md oo oa ob d s lv rs yr p q n m (c :: l)) (hp : p (c * 6 + d c - 1) = x) (hx : x < cl) (Z : qz_Z hd lv d p h mp mL D (c :: l)) (ho : oo x = 8) (ha : oa x = nI a) (a8 : a < 8) (hd1 : 1 < d c) : qz_Out mc cl oo oa ob oc B (qz_mp c mp) mL D (nI mc, nI md, nI cl, nI lc, 1, 0, nI c, nI h, 0, re, oo, oa, ob, oc, lg, (fun zz => nI (hd zz)), (fun zz => nI (s zz)), (fun zz => nI (rs zz)), (fun zz => nI (bd zz)), (fun zz => nI (d zz)), (fun zz => nI (p zz)), (fun zz => nI (n zz)), rg, tg) := by
  have c5 : c < 5 := I.2.2.1 c List.mem_cons_self
  obtain ⟨h1, hdm, hs1, hlv, hth⟩ := I.2.2.2.2.1
  have hm : md ≤ 6 := K.2.1.2
  have h6 : d c ≤ 6 := by omega
  have h64 : cl ≤ 64 := K.2.2.1
  have hl : lc ≤ 64 := K.2.2.2.1
  have hq : q (c * 6 + d c - 1) = x := (qc_qtop h1 hth).1.trans hp
  have hf : (c * 6 + d c - 1) < 30 := by omega
  have c0 : c ≠ 0 := fun z => by
    have w := (Z.2.2 (by simp)).1
    rw [z] at hd1
    omega
  have hmL : c = 0 → mp + 1 ≤ mL := fun z => absurd z c0
  have eA : nI ((c * 6 + d c - 1) * 8) + nI a = nI ((c * 6 + d c - 1) * 8 + a) := nI_add _ _
  obtain ⟨-, hmn, hn4⟩ := qc_qtop h1 hth
  obtain ⟨y0, -, -, -, y3⟩ := hth (d c - 2) (by omega)
  obtain ⟨y1, y64, a', a'8, ha'⟩ := y3 (by omega)
  have G : c * 6 + (d c - 2) = c * 6 + d c - 2 := by omega
  rw [G] at y0 y1 y64 ha'
  have eI : nI (c * 6 + d c - 2) * 8 + oa (nI (p (c * 6 + d c - 2) - 1)).toNatClampNeg = nI ((c * 6 + d c - 2) * 8 + a') := qc_fr8 rfl ((qc_rr rfl (by omega)).trans ha')
  have eJ : nI (c * 6 + d c - 2) * 8 + (oa (nI (p (c * 6 + d c - 2) - 1)).toNatClampNeg &&& 7) = nI ((c * 6 + d c - 2) * 8 + a') := qc_fr8 rfl (by rw [nI_clamp (by omega), ha', qc_a7 a'8])
  have cd : ¬ (fun zz => nI (qc_u d c (d c - 1) zz)) (nI c).toNatClampNeg ≤ 0 := by
    rw [qc_rd (qc_u d c (d c - 1)) rfl (by omega), qc_us]
    exact nI_nle (by omega) (by omega)
  have eF : c * 6 + qc_u d c (d c - 1) c - 1 = c * 6 + d c - 2 := by rw [qc_us]; omega
  refine .inl ⟨(nI mc, nI md, nI cl, nI ((qc_cl tg (c * 6 + d c - 1) (n (c * 6 + d c - 1)) (lg, lc)).2), 1, 0, nI c, nI h, 0, re, oo, oa, ob, oc, (qc_cl tg (c * 6 + d c - 1) (n (c * 6 + d c - 1)) (lg, lc)).1, (fun zz => nI (hd zz)), (fun zz => nI (s zz)), (fun zz => nI (rs zz)), (fun zz => nI (bd zz)), (fun zz => nI ((qc_u d c (d c - 1)) zz)), (fun zz => nI ((qc_u p (c * 6 + d c - 1) (x + 1)) zz)), (fun zz => nI (n zz)), (upd rg ((c * 6 + d c - 2) * 8 + a') (rg ((c * 6 + d c - 1) * 8 + a))), tg), qz_Rmk (qc_K_c (qc_K_up K) (qc_cl_le _ _ hl) K.2.2.2.2.2.2.2) (qc_tr_ret1 hm I hd1) (qz_Za Z (fun _ w => w) (fun _ => ⟨hmL, qc_uo (by omega), qz_p0 Z h1 hp⟩)), fun P hP => ?_⟩
  · unfold wpX_step; refine qc_xtf _ c5 h1 ?_; refine ⟨vp_in_nI (by omega) (by decide), nm_r ((qc_rd p rfl (by omega)).trans (congrArg nI hp)) (br_t (nI_lt hx (by omega)) (nm_r (qc_m8 _) ⟨vp_in_nI (by omega) (by decide), nm_r ((qc_rr rfl (by omega)).trans ha) ⟨vp_in_nI (by omega) (by decide), nm_r ((qc_rr rfl (by omega))) ⟨vp_in_nI (by omega) (by decide), nm_r ((qc_rr rfl (by omega))) ⟨vp_in_nI (by omega) (by decide), nm_r (qc_st rfl (nI_1 x) (by omega)) ⟨vp_in_nI (by omega) (by decide), nm_r ((qc_rr rfl (by omega)).trans ho) (br_f (by decide) (br_f (by decide) (br_f (by decide) (br_f (by decide) (br_f (by decide) (br_f (by decide) (br_f (by decide) (br_f (by decide) (br_f (by decide) (br_f (by decide) (br_t rfl ?_)))))))))))⟩⟩⟩⟩⟩))⟩
    refine ⟨qc_vi eA (by omega) (by decide), ?_⟩
    rw [qc_rr (f := rg) eA (by omega)]
    unfold wpX_leaveFunction
    refine qc_xpop _ c5 h1 h6 hn4 hl ?_
    refine ⟨vp_in_nI (by omega) (by decide), br_f cd ?_⟩
    refine qc_xtf (d := qc_u d c (d c - 1)) _ c5 (by rw [qc_us]; omega) ?_
    rw [eF]
    exact ⟨vp_in_nI (by omega) (by decide), nm_r (qc_de1 ((qc_rd (qc_u p (c * 6 + d c - 1) (x + 1)) rfl (by omega)).trans (congrArg nI (qc_uo (by omega)))) y1) ⟨vp_in_nI (by omega) (by decide), qc_vi eI (by omega) (by decide), nm_r (qc_sr eI (by omega) rfl) hP⟩⟩
theorem qc_tr_ret4 (hm : md ≤ 6) (I : qc_I mc md oo oa ob d s lv rs yr p q n m [c]) (h0 : lv 0 = 0) (hd : d c = 1) :
    qc_I mc md oo oa ob (qc_u d c (d c - 1)) (qc_u s c 3) lv rs yr (qc_u p (c * 6 + d c - 1) x) q n (qc_u m (c * 6 + d c - 1) 0) [] := by
  have c0 : c = 0 := I.1
  subst c0
  exact qc_tr_ret3 hm I h0 hd
theorem qc_o8b (K : qc_K mc md cl lc h B oo oa ob oc lv bd) (I : qc_I mc md oo oa ob d s lv rs yr p q n m (c :: l)) (hp : p (c * 6 + d c - 1) = x) (hx : x < cl) (Z : qz_Z hd lv d p h mp mL D (c :: l)) (ho : oo x = 8) (ha : oa x = nI a) (a8 : a < 8) (hd1 : d c = 1) (c0 : c = 0) : qz_Out mc cl oo oa ob oc B (qz_mp c mp) mL D (nI mc, nI md, nI cl, nI lc, 1, 0, nI c, nI h, 0, re, oo, oa, ob, oc, lg, (fun zz => nI (hd zz)), (fun zz => nI (s zz)), (fun zz => nI (rs zz)), (fun zz => nI (bd zz)), (fun zz => nI (d zz)), (fun zz => nI (p zz)), (fun zz => nI (n zz)), rg, tg) := by
  have c5 : c < 5 := I.2.2.1 c List.mem_cons_self
  obtain ⟨h1, hdm, hs1, hlv, hth⟩ := I.2.2.2.2.1
  have hm : md ≤ 6 := K.2.1.2
  have h6 : d c ≤ 6 := by omega
  have h64 : cl ≤ 64 := K.2.2.1
  have hl : lc ≤ 64 := K.2.2.2.1
  have hq : q (c * 6 + d c - 1) = x := (qc_qtop h1 hth).1.trans hp
  have hf : (c * 6 + d c - 1) < 30 := by omega
  have l0 : l = [] := by
    have := I.1
    rw [c0] at this
    exact qc_Lk_2 this
  subst l0
  have z0 : nI c = 0 := by rw [c0]; rfl
  have eA : nI ((c * 6 + d c - 1) * 8) + nI a = nI ((c * 6 + d c - 1) * 8 + a) := nI_add _ _
  obtain ⟨-, hmn, hn4⟩ := qc_qtop h1 hth
  have cd : (fun zz => nI (qc_u d c (d c - 1) zz)) (nI c).toNatClampNeg ≤ 0 := by
    rw [qc_rd (qc_u d c (d c - 1)) rfl (by omega), qc_us, hd1]
    decide
  refine .inl ⟨(nI mc, nI md, nI cl, nI ((qc_cl tg (c * 6 + d c - 1) (n (c * 6 + d c - 1)) (lg, lc)).2), 2, (rg ((c * 6 + d c - 1) * 8 + a)), nI c, nI h, 0, re, oo, oa, ob, oc, (qc_cl tg (c * 6 + d c - 1) (n (c * 6 + d c - 1)) (lg, lc)).1, (fun zz => nI (hd zz)), (fun zz => nI ((qc_u s c 3) zz)), (fun zz => nI (rs zz)), (fun zz => nI (bd zz)), (fun zz => nI ((qc_u d c (d c - 1)) zz)), (fun zz => nI ((qc_u p (c * 6 + d c - 1) (x + 1)) zz)), (fun zz => nI (n zz)), rg, tg), ?_, fun P hP => ?_⟩
  · exact ⟨_, _, _, _, _, _, _, _, _, _, _, _, _, _, _, _, _, _, _, _, _, [], rfl, qc_K_c (qc_K_up K) (qc_cl_le _ _ hl) K.2.2.2.2.2.2.2, .inr (.inr ⟨.inl rfl, rfl⟩), ⟨fun c l z => (nomatch z), fun z => absurd z (by decide)⟩, qc_tr_ret4 hm I K.2.2.2.2.2.2.2 hd1, qz_Za Z (fun _ w => w) (fun z => absurd rfl z)⟩
  · unfold wpX_step; refine qc_xtf _ c5 h1 ?_; refine ⟨vp_in_nI (by omega) (by decide), nm_r ((qc_rd p rfl (by omega)).trans (congrArg nI hp)) (br_t (nI_lt hx (by omega)) (nm_r (qc_m8 _) ⟨vp_in_nI (by omega) (by decide), nm_r ((qc_rr rfl (by omega)).trans ha) ⟨vp_in_nI (by omega) (by decide), nm_r ((qc_rr rfl (by omega))) ⟨vp_in_nI (by omega) (by decide), nm_r ((qc_rr rfl (by omega))) ⟨vp_in_nI (by omega) (by decide), nm_r (qc_st rfl (nI_1 x) (by omega)) ⟨vp_in_nI (by omega) (by decide), nm_r ((qc_rr rfl (by omega)).trans ho) (br_f (by decide) (br_f (by decide) (br_f (by decide) (br_f (by decide) (br_f (by decide) (br_f (by decide) (br_f (by decide) (br_f (by decide) (br_f (by decide) (br_f (by decide) (br_t rfl ?_)))))))))))⟩⟩⟩⟩⟩))⟩
    refine ⟨qc_vi eA (by omega) (by decide), ?_⟩
    rw [qc_rr (f := rg) eA (by omega)]
    unfold wpX_leaveFunction
    refine qc_xpop _ c5 h1 h6 hn4 hl ?_
    exact ⟨vp_in_nI (by omega) (by decide), br_t cd (br_t z0 (nm_r ((qc_uI _ 0 3).trans (by rw [c0])) hP))⟩
theorem qc_o8c (K : qc_K mc md cl lc h B oo oa ob oc lv bd) (I : qc_I mc md oo oa ob d s lv rs yr p q n m (c :: l)) (hp : p (c * 6 + d c - 1) = x) (hx : x < cl) (Z : qz_Z hd lv d p h mp mL D (c :: l)) (ho : oo x = 8) (ha : oa x = nI a) (a8 : a < 8) (hd1 : d c = 1) (c0 : c ≠ 0) : qz_Out mc cl oo oa ob oc B (qz_mp c mp) mL D (nI mc, nI md, nI cl, nI lc, 1, 0, nI c, nI h, 0, re, oo, oa, ob, oc, lg, (fun zz => nI (hd zz)), (fun zz => nI (s zz)), (fun zz => nI (rs zz)), (fun zz => nI (bd zz)), (fun zz => nI (d zz)), (fun zz => nI (p zz)), (fun zz => nI (n zz)), rg, tg) := by
  have c5 : c < 5 := I.2.2.1 c List.mem_cons_self
  obtain ⟨h1, hdm, hs1, hlv, hth⟩ := I.2.2.2.2.1
  have hm : md ≤ 6 := K.2.1.2
  have h6 : d c ≤ 6 := by omega
  have h64 : cl ≤ 64 := K.2.2.1
  have hl : lc ≤ 64 := K.2.2.2.1
  have hq : q (c * 6 + d c - 1) = x := (qc_qtop h1 hth).1.trans hp
  have hf : (c * 6 + d c - 1) < 30 := by omega
  have hmL : c = 0 → mp + 1 ≤ mL := fun z => absurd z c0
  obtain ⟨r, l', rfl, hrs⟩ := qc_Lk_1 I.1 c0
  have eA : nI ((c * 6 + d c - 1) * 8) + nI a = nI ((c * 6 + d c - 1) * 8 + a) := nI_add _ _
  obtain ⟨-, hmn, hn4⟩ := qc_qtop h1 hth
  have cd : (fun zz => nI (qc_u d c (d c - 1) zz)) (nI c).toNatClampNeg ≤ 0 := by
    rw [qc_rd (qc_u d c (d c - 1)) rfl (by omega), qc_us, hd1]
    decide
  have r5 : r < 5 := I.2.2.1 r (List.mem_cons_of_mem _ List.mem_cons_self)
  have hN := I.2.2.2.2.2.1 r List.mem_cons_self
  have hc : c ∉ r :: l' := (List.nodup_cons.mp I.2.1).1
  have hrc : r ≠ c := fun z => hc (by rw [z]; exact List.mem_cons_self)
  have er : qc_u d c (d c - 1) r = d r := qc_uo hrc
  obtain ⟨N1, N2, N3, N4, N5, ⟨y1, y64, a', a'8, ha'⟩, No⟩ := hN
  have hq' := (qc_qtop N1 N5).1
  have hp2 : qc_u p (c * 6 + d c - 1) (x + 1) (r * 6 + qc_u d c (d c - 1) r - 1) = p (r * 6 + d r - 1) := by rw [er]; exact qc_uo (by omega)
  have hq2 : q (r * 6 + qc_u d c (d c - 1) r - 1) = p (r * 6 + d r - 1) := by rw [er]; exact hq'
  have I' := qc_tr_ret2 (x := x + 1) hm I hd1
  have z0 : ¬ nI c = 0 := fun z => c0 ((nI_eq (b := 0) (by omega) (by omega)).mp z)
  have K' : qc_K mc md cl (qc_cl tg (c * 6 + d c - 1) (n (c * 6 + d c - 1)) (lg, lc)).2 h (B + 1) oo oa ob oc (qc_u lv c 0) bd := qc_K_c (qc_K_up K) (qc_cl_le _ _ hl) (by rw [qc_uo (by omega)]; exact K.2.2.2.2.2.2.2)
  rcases No with No | No
  · refine .inl ⟨(nI mc, nI md, nI cl, nI ((qc_cl tg (c * 6 + d c - 1) (n (c * 6 + d c - 1)) (lg, lc)).2), 1, 0, nI r, nI h, 0, re, oo, oa, ob, oc, (qc_cl tg (c * 6 + d c - 1) (n (c * 6 + d c - 1)) (lg, lc)).1, (fun zz => nI (hd zz)), (fun zz => nI ((qc_u (qc_u s c 3) r 1) zz)), (fun zz => nI (rs zz)), (fun zz => nI (bd zz)), (fun zz => nI ((qc_u d c (d c - 1)) zz)), (fun zz => nI ((qc_u p (c * 6 + d c - 1) (x + 1)) zz)), (fun zz => nI (n zz)), (upd (upd rg ((r * 6 + qc_u d c (d c - 1) r - 1) * 8 + a') (rg ((c * 6 + d c - 1) * 8 + a))) ((r * 6 + qc_u d c (d c - 1) r - 1) * 8 + (a' + 1) % 8) 1), tg), qz_Rmk K' I' (qz_Za Z (fun _ w => qz_lv0 w) (fun _ => ⟨hmL, qc_uo (by omega), qz_p0 Z h1 hp⟩)), fun P hP => ?_⟩
    unfold wpX_step; refine qc_xtf _ c5 h1 ?_; refine ⟨vp_in_nI (by omega) (by decide), nm_r ((qc_rd p rfl (by omega)).trans (congrArg nI hp)) (br_t (nI_lt hx (by omega)) (nm_r (qc_m8 _) ⟨vp_in_nI (by omega) (by decide), nm_r ((qc_rr rfl (by omega)).trans ha) ⟨vp_in_nI (by omega) (by decide), nm_r ((qc_rr rfl (by omega))) ⟨vp_in_nI (by omega) (by decide), nm_r ((qc_rr rfl (by omega))) ⟨vp_in_nI (by omega) (by decide), nm_r (qc_st rfl (nI_1 x) (by omega)) ⟨vp_in_nI (by omega) (by decide), nm_r ((qc_rr rfl (by omega)).trans ho) (br_f (by decide) (br_f (by decide) (br_f (by decide) (br_f (by decide) (br_f (by decide) (br_f (by decide) (br_f (by decide) (br_f (by decide) (br_f (by decide) (br_f (by decide) (br_t rfl ?_)))))))))))⟩⟩⟩⟩⟩))⟩
    refine ⟨qc_vi eA (by omega) (by decide), ?_⟩
    rw [qc_rr (f := rg) eA (by omega)]
    unfold wpX_leaveFunction
    refine qc_xpop _ c5 h1 h6 hn4 hl ?_
    refine ⟨vp_in_nI (by omega) (by decide), br_t cd (br_f z0 ⟨vp_in_nI (by omega) (by decide), nm_r (qc_st (x := 3) rfl rfl (by omega)) ⟨vp_in_nI (by omega) (by decide), ?_⟩⟩)⟩
    rw [qc_rd rs rfl (by omega), hrs]
    exact qc_xc13 _ r5 (by rw [er]; exact N1) (by rw [er]; omega) hp2 y1 y64 ha' a'8 No _ _ 1 (fun z => absurd z (by decide)) (fun _ => rfl) hP
  · refine .inl ⟨(nI mc, nI md, nI cl, nI ((qc_cl tg (c * 6 + d c - 1) (n (c * 6 + d c - 1)) (lg, lc)).2), 1, 0, nI r, nI h, 0, re, oo, oa, ob, oc, (qc_cl tg (c * 6 + d c - 1) (n (c * 6 + d c - 1)) (lg, lc)).1, (fun zz => nI (hd zz)), (fun zz => nI ((qc_u (qc_u s c 3) r 1) zz)), (fun zz => nI (rs zz)), (fun zz => nI (bd zz)), (fun zz => nI ((qc_u d c (d c - 1)) zz)), (fun zz => nI ((qc_u p (c * 6 + d c - 1) (x + 1)) zz)), (fun zz => nI (n zz)), (upd rg ((r * 6 + qc_u d c (d c - 1) r - 1) * 8 + a') (rg ((c * 6 + d c - 1) * 8 + a))), tg), qz_Rmk K' I' (qz_Za Z (fun _ w => qz_lv0 w) (fun _ => ⟨hmL, qc_uo (by omega), qz_p0 Z h1 hp⟩)), fun P hP => ?_⟩
    unfold wpX_step; refine qc_xtf _ c5 h1 ?_; refine ⟨vp_in_nI (by omega) (by decide), nm_r ((qc_rd p rfl (by omega)).trans (congrArg nI hp)) (br_t (nI_lt hx (by omega)) (nm_r (qc_m8 _) ⟨vp_in_nI (by omega) (by decide), nm_r ((qc_rr rfl (by omega)).trans ha) ⟨vp_in_nI (by omega) (by decide), nm_r ((qc_rr rfl (by omega))) ⟨vp_in_nI (by omega) (by decide), nm_r ((qc_rr rfl (by omega))) ⟨vp_in_nI (by omega) (by decide), nm_r (qc_st rfl (nI_1 x) (by omega)) ⟨vp_in_nI (by omega) (by decide), nm_r ((qc_rr rfl (by omega)).trans ho) (br_f (by decide) (br_f (by decide) (br_f (by decide) (br_f (by decide) (br_f (by decide) (br_f (by decide) (br_f (by decide) (br_f (by decide) (br_f (by decide) (br_f (by decide) (br_t rfl ?_)))))))))))⟩⟩⟩⟩⟩))⟩
    refine ⟨qc_vi eA (by omega) (by decide), ?_⟩
    rw [qc_rr (f := rg) eA (by omega)]
    unfold wpX_leaveFunction
    refine qc_xpop _ c5 h1 h6 hn4 hl ?_
    refine ⟨vp_in_nI (by omega) (by decide), br_t cd (br_f z0 ⟨vp_in_nI (by omega) (by decide), nm_r (qc_st (x := 3) rfl rfl (by omega)) ⟨vp_in_nI (by omega) (by decide), ?_⟩⟩)⟩
    rw [qc_rd rs rfl (by omega), hrs]
    exact qc_xc14 _ r5 (by rw [er]; exact N1) (by rw [er]; omega) hp2 y1 y64 ha' a'8 No _ _ (by decide) hP
theorem qc_o8 (K : qc_K mc md cl lc h B oo oa ob oc lv bd) (I : qc_I mc md oo oa ob d s lv rs yr p q n m (c :: l)) (hp : p (c * 6 + d c - 1) = x) (hx : x < cl) (Z : qz_Z hd lv d p h mp mL D (c :: l)) (ho : oo x = 8) (ha : oa x = nI a) (a8 : a < 8) : qz_Out mc cl oo oa ob oc B (qz_mp c mp) mL D (nI mc, nI md, nI cl, nI lc, 1, 0, nI c, nI h, 0, re, oo, oa, ob, oc, lg, (fun zz => nI (hd zz)), (fun zz => nI (s zz)), (fun zz => nI (rs zz)), (fun zz => nI (bd zz)), (fun zz => nI (d zz)), (fun zz => nI (p zz)), (fun zz => nI (n zz)), rg, tg) := by
  by_cases hd1 : 1 < d c
  · exact qc_o8a K I hp hx Z ho ha a8 hd1
  · have hd' : d c = 1 := by have := I.2.2.2.2.1.1; omega
    by_cases c0 : c = 0
    · exact qc_o8b K I hp hx Z ho ha a8 hd' c0
    · exact qc_o8c K I hp hx Z ho ha a8 hd' c0
theorem qc_o10 (K : qc_K mc md cl lc h B oo oa ob oc lv bd) (I : qc_I mc md oo oa ob d s lv rs yr p q n m (c :: l)) (hp : p (c * 6 + d c - 1) = x) (hx : x < cl) (Z : qz_Z hd lv d p h mp mL D (c :: l)) (c0 : c ≠ 0) (ho : oo x = 10) (ha : oa x = nI a) (a8 : a < 8) : qz_Out mc cl oo oa ob oc B (qz_mp c mp) mL D (nI mc, nI md, nI cl, nI lc, 1, 0, nI c, nI h, 0, re, oo, oa, ob, oc, lg, (fun zz => nI (hd zz)), (fun zz => nI (s zz)), (fun zz => nI (rs zz)), (fun zz => nI (bd zz)), (fun zz => nI (d zz)), (fun zz => nI (p zz)), (fun zz => nI (n zz)), rg, tg) := by
  have c5 : c < 5 := I.2.2.1 c List.mem_cons_self
  obtain ⟨h1, hdm, hs1, hlv, hth⟩ := I.2.2.2.2.1
  have hm : md ≤ 6 := K.2.1.2
  have h6 : d c ≤ 6 := by omega
  have h64 : cl ≤ 64 := K.2.2.1
  have hl : lc ≤ 64 := K.2.2.2.1
  have hq : q (c * 6 + d c - 1) = x := (qc_qtop h1 hth).1.trans hp
  have hf : (c * 6 + d c - 1) < 30 := by omega
  have hmL : c = 0 → mp + 1 ≤ mL := fun z => absurd z c0
  have eA : nI ((c * 6 + d c - 1) * 8) + nI a = nI ((c * 6 + d c - 1) * 8 + a) := nI_add _ _
  obtain ⟨-, hmn, hn4⟩ := qc_qtop h1 hth
  have rn : (fun zz => nI (n zz)) (nI (c * 6 + d c - 1)).toNatClampNeg = nI (n (c * 6 + d c - 1)) := qc_rd n rfl (by omega)
  have rm : (fun zz => nI (m zz)) (nI (c * 6 + d c - 1)).toNatClampNeg = nI (n (c * 6 + d c - 1)) := (qc_rd m rfl (by omega)).trans (congrArg nI hmn)
  by_cases z : n (c * 6 + d c - 1) < 4
  · have e4 : nI (c * 6 + d c - 1) * 4 + (fun zz => nI (n zz)) (nI (c * 6 + d c - 1)).toNatClampNeg = nI ((c * 6 + d c - 1) * 4 + n (c * 6 + d c - 1)) := qc_fr4 rfl rn
    have e5 : nI (c * 6 + d c - 1) * 4 + (fun zz => nI (m zz)) (nI (c * 6 + d c - 1)).toNatClampNeg = nI ((c * 6 + d c - 1) * 4 + n (c * 6 + d c - 1)) := qc_fr4 rfl rm
    refine .inl ⟨(nI mc, nI md, nI cl, nI lc, 1, 0, nI c, nI h, 0, re, oo, oa, ob, oc, lg, (fun zz => nI (hd zz)), (fun zz => nI (s zz)), (fun zz => nI (rs zz)), (fun zz => nI (bd zz)), (fun zz => nI (d zz)), (fun zz => nI ((qc_u p (c * 6 + d c - 1) (x + 1)) zz)), (fun zz => nI ((qc_u n (c * 6 + d c - 1) (n (c * 6 + d c - 1) + 1)) zz)), rg, (upd tg ((c * 6 + d c - 1) * 4 + n (c * 6 + d c - 1)) (rg ((c * 6 + d c - 1) * 8 + a)))), qz_Rmk (qc_K_up K) (qc_tr_defer hm (qc_tr_pc hm I (by omega)) (by omega)) (qz_Za Z (fun _ w => w) (fun _ => ⟨hmL, rfl, qz_p0 Z h1 hp⟩)), fun P hP => ?_⟩
    · unfold wpX_step; refine qc_xtf _ c5 h1 ?_; refine ⟨vp_in_nI (by omega) (by decide), nm_r ((qc_rd p rfl (by omega)).trans (congrArg nI hp)) (br_t (nI_lt hx (by omega)) (nm_r (qc_m8 _) ⟨vp_in_nI (by omega) (by decide), nm_r ((qc_rr rfl (by omega)).trans ha) ⟨vp_in_nI (by omega) (by decide), nm_r ((qc_rr rfl (by omega))) ⟨vp_in_nI (by omega) (by decide), nm_r ((qc_rr rfl (by omega))) ⟨vp_in_nI (by omega) (by decide), nm_r (qc_st rfl (nI_1 x) (by omega)) ⟨vp_in_nI (by omega) (by decide), nm_r ((qc_rr rfl (by omega)).trans ho) (br_f (by decide) (br_f (by decide) (br_f (by decide) (br_f (by decide) (br_f (by decide) (br_f (by decide) (br_f (by decide) (br_f (by decide) (br_f (by decide) (br_f (by decide) (br_f (by decide) (br_f (by decide) (br_t rfl ?_)))))))))))))⟩⟩⟩⟩⟩))⟩
      refine ⟨qc_vi eA (by omega) (by decide), ?_⟩
      rw [qc_rr (f := rg) eA (by omega)]
      exact ⟨vp_in_nI (by omega) (by decide), br_t (by rw [rn]; exact nI_lt (b := 4) z (by decide)) ⟨vp_in_nI (by omega) (by decide), qc_vi e4 (by omega) (by decide), nm_r (qc_sr e4 (by omega) rfl) ⟨vp_in_nI (by omega) (by decide), vp_in_nI (by omega) (by decide), nm_r (qc_st rfl (qc_in1 rn) (by omega)) hP⟩⟩⟩
  · refine .inr ⟨(nI mc, nI md, nI cl, nI lc, 1, 0, nI c, nI h, 1, (-6), oo, oa, ob, oc, lg, (fun zz => nI (hd zz)), (fun zz => nI (s zz)), (fun zz => nI (rs zz)), (fun zz => nI (bd zz)), (fun zz => nI (d zz)), (fun zz => nI ((qc_u p (c * 6 + d c - 1) (x + 1)) zz)), (fun zz => nI (n zz)), rg, tg), c, -6, qz_Qmk (qc_K_up K) (qc_tr_j hm I) (qz_Za Z (fun _ w => w) (fun _ => ⟨hmL, rfl, qz_p0 Z h1 hp⟩)), fun P hP => ?_⟩
    · unfold wpX_step; refine qc_xtf _ c5 h1 ?_; refine ⟨vp_in_nI (by omega) (by decide), nm_r ((qc_rd p rfl (by omega)).trans (congrArg nI hp)) (br_t (nI_lt hx (by omega)) (nm_r (qc_m8 _) ⟨vp_in_nI (by omega) (by decide), nm_r ((qc_rr rfl (by omega)).trans ha) ⟨vp_in_nI (by omega) (by decide), nm_r ((qc_rr rfl (by omega))) ⟨vp_in_nI (by omega) (by decide), nm_r ((qc_rr rfl (by omega))) ⟨vp_in_nI (by omega) (by decide), nm_r (qc_st rfl (nI_1 x) (by omega)) ⟨vp_in_nI (by omega) (by decide), nm_r ((qc_rr rfl (by omega)).trans ho) (br_f (by decide) (br_f (by decide) (br_f (by decide) (br_f (by decide) (br_f (by decide) (br_f (by decide) (br_f (by decide) (br_f (by decide) (br_f (by decide) (br_f (by decide) (br_f (by decide) (br_f (by decide) (br_t rfl ?_)))))))))))))⟩⟩⟩⟩⟩))⟩
      exact ⟨qc_vi eA (by omega) (by decide), vp_in_nI (by omega) (by decide), br_f (by rw [rn]; exact nI_nlt (b := 4) (by omega) (by omega)) hP⟩
theorem qc_o15 (K : qc_K mc md cl lc h B oo oa ob oc lv bd) (I : qc_I mc md oo oa ob d s lv rs yr p q n m (c :: l)) (hp : p (c * 6 + d c - 1) = x) (hx : x < cl) (Z : qz_Z hd lv d p h mp mL D (c :: l)) (c0 : c ≠ 0) (ho : oo x = 15) (ha : oa x = nI a) (a8 : a < 8) (hb : ob x = nI b) (b8 : b < 8) : qz_Out mc cl oo oa ob oc B (qz_mp c mp) mL D (nI mc, nI md, nI cl, nI lc, 1, 0, nI c, nI h, 0, re, oo, oa, ob, oc, lg, (fun zz => nI (hd zz)), (fun zz => nI (s zz)), (fun zz => nI (rs zz)), (fun zz => nI (bd zz)), (fun zz => nI (d zz)), (fun zz => nI (p zz)), (fun zz => nI (n zz)), rg, tg) := by
  have c5 : c < 5 := I.2.2.1 c List.mem_cons_self
  obtain ⟨h1, hdm, hs1, hlv, hth⟩ := I.2.2.2.2.1
  have hm : md ≤ 6 := K.2.1.2
  have h6 : d c ≤ 6 := by omega
  have h64 : cl ≤ 64 := K.2.2.1
  have hl : lc ≤ 64 := K.2.2.2.1
  have hq : q (c * 6 + d c - 1) = x := (qc_qtop h1 hth).1.trans hp
  have hf : (c * 6 + d c - 1) < 30 := by omega
  have hmL : c = 0 → mp + 1 ≤ mL := fun z => absurd z c0
  have eA : nI ((c * 6 + d c - 1) * 8) + nI a = nI ((c * 6 + d c - 1) * 8 + a) := nI_add _ _
  by_cases c0 : c = 0
  · have z0 : nI c = 0 := by rw [c0]; rfl
    refine .inr ⟨(nI mc, nI md, nI cl, nI lc, 1, 0, nI c, nI h, 1, (-3), oo, oa, ob, oc, lg, (fun zz => nI (hd zz)), (fun zz => nI (s zz)), (fun zz => nI (rs zz)), (fun zz => nI (bd zz)), (fun zz => nI (d zz)), (fun zz => nI ((qc_u p (c * 6 + d c - 1) (x + 1)) zz)), (fun zz => nI (n zz)), rg, tg), c, -3, qz_Qmk (qc_K_up K) (qc_tr_j hm I) (qz_Za Z (fun _ w => w) (fun _ => ⟨hmL, rfl, qz_p0 Z h1 hp⟩)), fun P hP => ?_⟩
    · unfold wpX_step; refine qc_xtf _ c5 h1 ?_; refine ⟨vp_in_nI (by omega) (by decide), nm_r ((qc_rd p rfl (by omega)).trans (congrArg nI hp)) (br_t (nI_lt hx (by omega)) (nm_r (qc_m8 _) ⟨vp_in_nI (by omega) (by decide), nm_r ((qc_rr rfl (by omega)).trans ha) ⟨vp_in_nI (by omega) (by decide), nm_r ((qc_rr rfl (by omega)).trans hb) ⟨vp_in_nI (by omega) (by decide), nm_r ((qc_rr rfl (by omega))) ⟨vp_in_nI (by omega) (by decide), nm_r (qc_st rfl (nI_1 x) (by omega)) ⟨vp_in_nI (by omega) (by decide), nm_r ((qc_rr rfl (by omega)).trans ho) (br_f (by decide) (br_f (by decide) (br_f (by decide) (br_f (by decide) (br_f (by decide) (br_f (by decide) (br_f (by decide) (br_f (by decide) (br_f (by decide) (br_f (by decide) (br_f (by decide) (br_f (by decide) (br_f (by decide) (br_f (by decide) (br_f (by decide) (br_f (by decide) (br_f (by decide) (br_t rfl ?_))))))))))))))))))⟩⟩⟩⟩⟩))⟩
      exact ⟨qc_vi eA (by omega) (by decide), br_t z0 hP⟩
  · have z0 : ¬ nI c = 0 := fun z => c0 ((nI_eq (b := 0) (by omega) (by omega)).mp z)
    obtain ⟨r, l', rfl, hrs⟩ := qc_Lk_1 I.1 c0
    have r5 : r < 5 := I.2.2.1 r (List.mem_cons_of_mem _ List.mem_cons_self)
    have hN := I.2.2.2.2.2.1 r List.mem_cons_self
    have hc : c ∉ r :: l' := (List.nodup_cons.mp I.2.1).1
    have hrc : r ≠ c := fun z => hc (by rw [z]; exact List.mem_cons_self)
    obtain ⟨N1, N2, N3, N4, N5, ⟨y1, y64, a', a'8, ha'⟩, No⟩ := hN
    have hq' := (qc_qtop N1 N5).1
    have hp2 : qc_u p (c * 6 + d c - 1) (x + 1) (r * 6 + d r - 1) = p (r * 6 + d r - 1) := qc_uo (by omega)
    have hq2 : qc_u q (c * 6 + d c - 1) (x + 1) (r * 6 + d r - 1) = p (r * 6 + d r - 1) := (qc_uo (by omega)).trans hq'
    have I' := qc_tr_yield (x := x + 1) hm I (by omega) (by omega) b8 hb
    rcases No with No | No
    · refine .inl ⟨(nI mc, nI md, nI cl, nI lc, 1, 0, nI r, nI h, 0, re, oo, oa, ob, oc, lg, (fun zz => nI (hd zz)), (fun zz => nI ((qc_u (qc_u s c 0) r 1) zz)), (fun zz => nI (rs zz)), (fun zz => nI (bd zz)), (fun zz => nI (d zz)), (fun zz => nI ((qc_u p (c * 6 + d c - 1) (x + 1)) zz)), (fun zz => nI (n zz)), (upd (upd rg ((r * 6 + d r - 1) * 8 + a') (rg ((c * 6 + d c - 1) * 8 + a))) ((r * 6 + d r - 1) * 8 + (a' + 1) % 8) 1), tg), qz_Rmk (qc_K_up K) I' (qz_Za Z (fun _ w => w) (fun _ => ⟨hmL, rfl, qz_p0 Z h1 hp⟩)), fun P hP => ?_⟩
      unfold wpX_step; refine qc_xtf _ c5 h1 ?_; refine ⟨vp_in_nI (by omega) (by decide), nm_r ((qc_rd p rfl (by omega)).trans (congrArg nI hp)) (br_t (nI_lt hx (by omega)) (nm_r (qc_m8 _) ⟨vp_in_nI (by omega) (by decide), nm_r ((qc_rr rfl (by omega)).trans ha) ⟨vp_in_nI (by omega) (by decide), nm_r ((qc_rr rfl (by omega)).trans hb) ⟨vp_in_nI (by omega) (by decide), nm_r ((qc_rr rfl (by omega))) ⟨vp_in_nI (by omega) (by decide), nm_r (qc_st rfl (nI_1 x) (by omega)) ⟨vp_in_nI (by omega) (by decide), nm_r ((qc_rr rfl (by omega)).trans ho) (br_f (by decide) (br_f (by decide) (br_f (by decide) (br_f (by decide) (br_f (by decide) (br_f (by decide) (br_f (by decide) (br_f (by decide) (br_f (by decide) (br_f (by decide) (br_f (by decide) (br_f (by decide) (br_f (by decide) (br_f (by decide) (br_f (by decide) (br_f (by decide) (br_f (by decide) (br_t rfl ?_))))))))))))))))))⟩⟩⟩⟩⟩))⟩
      refine ⟨qc_vi eA (by omega) (by decide), ?_⟩
      rw [qc_rr (f := rg) eA (by omega)]
      refine br_f z0 ⟨vp_in_nI (by omega) (by decide), nm_r (qc_st (x := 0) rfl rfl (by omega)) ⟨vp_in_nI (by omega) (by decide), ?_⟩⟩
      rw [qc_rd rs rfl (by omega), hrs]
      exact qc_xc13 _ r5 N1 (by omega) hp2 y1 y64 ha' a'8 No _ _ 1 (fun z => absurd z (by decide)) (fun _ => rfl) hP
    · refine .inl ⟨(nI mc, nI md, nI cl, nI lc, 1, 0, nI r, nI h, 0, re, oo, oa, ob, oc, lg, (fun zz => nI (hd zz)), (fun zz => nI ((qc_u (qc_u s c 0) r 1) zz)), (fun zz => nI (rs zz)), (fun zz => nI (bd zz)), (fun zz => nI (d zz)), (fun zz => nI ((qc_u p (c * 6 + d c - 1) (x + 1)) zz)), (fun zz => nI (n zz)), (upd rg ((r * 6 + d r - 1) * 8 + a') (rg ((c * 6 + d c - 1) * 8 + a))), tg), qz_Rmk (qc_K_up K) I' (qz_Za Z (fun _ w => w) (fun _ => ⟨hmL, rfl, qz_p0 Z h1 hp⟩)), fun P hP => ?_⟩
      unfold wpX_step; refine qc_xtf _ c5 h1 ?_; refine ⟨vp_in_nI (by omega) (by decide), nm_r ((qc_rd p rfl (by omega)).trans (congrArg nI hp)) (br_t (nI_lt hx (by omega)) (nm_r (qc_m8 _) ⟨vp_in_nI (by omega) (by decide), nm_r ((qc_rr rfl (by omega)).trans ha) ⟨vp_in_nI (by omega) (by decide), nm_r ((qc_rr rfl (by omega)).trans hb) ⟨vp_in_nI (by omega) (by decide), nm_r ((qc_rr rfl (by omega))) ⟨vp_in_nI (by omega) (by decide), nm_r (qc_st rfl (nI_1 x) (by omega)) ⟨vp_in_nI (by omega) (by decide), nm_r ((qc_rr rfl (by omega)).trans ho) (br_f (by decide) (br_f (by decide) (br_f (by decide) (br_f (by decide) (br_f (by decide) (br_f (by decide) (br_f (by decide) (br_f (by decide) (br_f (by decide) (br_f (by decide) (br_f (by decide) (br_f (by decide) (br_f (by decide) (br_f (by decide) (br_f (by decide) (br_f (by decide) (br_f (by decide) (br_t rfl ?_))))))))))))))))))⟩⟩⟩⟩⟩))⟩
      refine ⟨qc_vi eA (by omega) (by decide), ?_⟩
      rw [qc_rr (f := rg) eA (by omega)]
      refine br_f z0 ⟨vp_in_nI (by omega) (by decide), nm_r (qc_st (x := 0) rfl rfl (by omega)) ⟨vp_in_nI (by omega) (by decide), ?_⟩⟩
      rw [qc_rd rs rfl (by omega), hrs]
      exact qc_xc14 _ r5 N1 (by omega) hp2 y1 y64 ha' a'8 No _ _ (by decide) hP
end
end
section
theorem qc_nm1 {t : Nat} (h : t < 5) : ¬ nI t = -1 := by
  have e : t = 0 ∨ t = 1 ∨ t = 2 ∨ t = 3 ∨ t = 4 := by omega
  rcases e with rfl | rfl | rfl | rfl | rfl <;> decide
section
variable {mc md cl lc cu h B mp mL : Nat} {st rt lh rd re : Int32} {D : Nat → Prop} {oo oa ob oc lg rg tg : Nat → Int32} {hd d s lv rs bd yr p q n m : Nat → Nat} {c r t x a b : Nat} {l L : List Nat}
theorem qc_o16 (K : qc_K mc md cl lc h B oo oa ob oc lv bd) (I : qc_I mc md oo oa ob d s lv rs yr p q n m (c :: l)) (hp : p (c * 6 + d c - 1) = x) (hx : x < cl) (Z : qz_Z hd lv d p h mp mL D (c :: l)) (hmL : c = 0 → mp + 1 ≤ mL) (ho : oo x = 16) (ha : oa x = nI a) (a8 : a < 8) (hb : ob x = nI b) (b8 : b < 8) : qz_Out mc cl oo oa ob oc B (qz_mp c mp) mL D (nI mc, nI md, nI cl, nI lc, 1, 0, nI c, nI h, 0, re, oo, oa, ob, oc, lg, (fun zz => nI (hd zz)), (fun zz => nI (s zz)), (fun zz => nI (rs zz)), (fun zz => nI (bd zz)), (fun zz => nI (d zz)), (fun zz => nI (p zz)), (fun zz => nI (n zz)), rg, tg) := by
  have c5 : c < 5 := I.2.2.1 c List.mem_cons_self
  obtain ⟨h1, hdm, hs1, hlv, hth⟩ := I.2.2.2.2.1
  have hm : md ≤ 6 := K.2.1.2
  have h6 : d c ≤ 6 := by omega
  have h64 : cl ≤ 64 := K.2.2.1
  have hl : lc ≤ 64 := K.2.2.2.1
  have hq : q (c * 6 + d c - 1) = x := (qc_qtop h1 hth).1.trans hp
  have hf : (c * 6 + d c - 1) < 30 := by omega
  have eA : nI ((c * 6 + d c - 1) * 8) + nI a = nI ((c * 6 + d c - 1) * 8 + a) := nI_add _ _
  have eB : nI ((c * 6 + d c - 1) * 8) + nI b = nI ((c * 6 + d c - 1) * 8 + b) := nI_add _ _
  rcases qz_thr (mc := mc) (md := md) (cl := cl) (lc := lc) (cu := c) (st := 1) (rt := 0) (lh := nI h) (rd := 0) (re := re) (oo := oo) (oa := oa) (ob := ob) (oc := oc) (lg := lg) (rg := rg) (tg := tg) (hd := hd) (d := d) (rs := rs) (bd := bd) (n := n) (p := qc_u p (c * 6 + d c - 1) (x + 1)) (fun t => qc_al I) (rg ((c * 6 + d c - 1) * 8 + b)) with ⟨t, t5, hg, hA, hX⟩ | ⟨hg, hno, hX⟩
  · refine .inl ⟨(nI mc, nI md, nI cl, nI lc, 1, 0, nI c, nI h, 0, re, oo, oa, ob, oc, lg, (fun zz => nI (hd zz)), (fun zz => nI (s zz)), (fun zz => nI (rs zz)), (fun zz => nI (bd zz)), (fun zz => nI (d zz)), (fun zz => nI ((qc_u p (c * 6 + d c - 1) (x + 1)) zz)), (fun zz => nI (n zz)), (upd rg ((c * 6 + d c - 1) * 8 + a) (nI (s t))), tg), qz_Rmk (qc_K_up K) (qc_tr_pc hm I (by omega)) (qz_Za Z (fun _ w => w) (fun _ => ⟨hmL, rfl, qz_p0 Z h1 hp⟩)), fun P hP => ?_⟩
    · unfold wpX_step; refine qc_xtf _ c5 h1 ?_; refine ⟨vp_in_nI (by omega) (by decide), nm_r ((qc_rd p rfl (by omega)).trans (congrArg nI hp)) (br_t (nI_lt hx (by omega)) (nm_r (qc_m8 _) ⟨vp_in_nI (by omega) (by decide), nm_r ((qc_rr rfl (by omega)).trans ha) ⟨vp_in_nI (by omega) (by decide), nm_r ((qc_rr rfl (by omega)).trans hb) ⟨vp_in_nI (by omega) (by decide), nm_r ((qc_rr rfl (by omega))) ⟨vp_in_nI (by omega) (by decide), nm_r (qc_st rfl (nI_1 x) (by omega)) ⟨vp_in_nI (by omega) (by decide), nm_r ((qc_rr rfl (by omega)).trans ho) (br_f (by decide) (br_f (by decide) (br_f (by decide) (br_f (by decide) (br_f (by decide) (br_f (by decide) (br_f (by decide) (br_f (by decide) (br_f (by decide) (br_f (by decide) (br_f (by decide) (br_f (by decide) (br_f (by decide) (br_f (by decide) (br_f (by decide) (br_f (by decide) (br_f (by decide) (br_f (by decide) (br_t rfl ?_)))))))))))))))))))⟩⟩⟩⟩⟩))⟩
      refine ⟨qc_vi eB (by omega) (by decide), ?_⟩
      rw [qc_rr (f := rg) eB (by omega)]
      unfold wpX_coStatus
      refine hX _ (br_f (qc_nm1 t5) ⟨vp_in_nI (by omega) (by decide), ?_⟩)
      rw [qc_rd s rfl (by omega)]
      exact ⟨qc_vi eA (by omega) (by decide), nm_r (qc_sr eA (by omega) rfl) hP⟩
  · refine .inl ⟨(nI mc, nI md, nI cl, nI lc, 1, 0, nI c, nI h, 0, re, oo, oa, ob, oc, lg, (fun zz => nI (hd zz)), (fun zz => nI (s zz)), (fun zz => nI (rs zz)), (fun zz => nI (bd zz)), (fun zz => nI (d zz)), (fun zz => nI ((qc_u p (c * 6 + d c - 1) (x + 1)) zz)), (fun zz => nI (n zz)), (upd rg ((c * 6 + d c - 1) * 8 + a) 3), tg), qz_Rmk (qc_K_up K) (qc_tr_pc hm I (by omega)) (qz_Za Z (fun _ w => w) (fun _ => ⟨hmL, rfl, qz_p0 Z h1 hp⟩)), fun P hP => ?_⟩
    · unfold wpX_step; refine qc_xtf _ c5 h1 ?_; refine ⟨vp_in_nI (by omega) (by decide), nm_r ((qc_rd p rfl (by omega)).trans (congrArg nI hp)) (br_t (nI_lt hx (by omega)) (nm_r (qc_m8 _) ⟨vp_in_nI (by omega) (by decide), nm_r ((qc_rr rfl (by omega)).trans ha) ⟨vp_in_nI (by omega) (by decide), nm_r ((qc_rr rfl (by omega)).trans hb) ⟨vp_in_nI (by omega) (by decide), nm_r ((qc_rr rfl (by omega))) ⟨vp_in_nI (by omega) (by decide), nm_r (qc_st rfl (nI_1 x) (by omega)) ⟨vp_in_nI (by omega) (by decide), nm_r ((qc_rr rfl (by omega)).trans ho) (br_f (by decide) (br_f (by decide) (br_f (by decide) (br_f (by decide) (br_f (by decide) (br_f (by decide) (br_f (by decide) (br_f (by decide) (br_f (by decide) (br_f (by decide) (br_f (by decide) (br_f (by decide) (br_f (by decide) (br_f (by decide) (br_f (by decide) (br_f (by decide) (br_f (by decide) (br_f (by decide) (br_t rfl ?_)))))))))))))))))))⟩⟩⟩⟩⟩))⟩
      refine ⟨qc_vi eB (by omega) (by decide), ?_⟩
      rw [qc_rr (f := rg) eB (by omega)]
      unfold wpX_coStatus
      exact hX _ (br_t rfl ⟨qc_vi eA (by omega) (by decide), nm_r (qc_sr eA (by omega) rfl) hP⟩)
theorem qc_o17 (K : qc_K mc md cl lc h B oo oa ob oc lv bd) (I : qc_I mc md oo oa ob d s lv rs yr p q n m (c :: l)) (hp : p (c * 6 + d c - 1) = x) (hx : x < cl) (Z : qz_Z hd lv d p h mp mL D (c :: l)) (hmL : c = 0 → mp + 1 ≤ mL) (ho : oo x = 17) (ha : oa x = nI a) (a8 : a < 8) (hb : ob x = nI b) (b8 : b < 8) : qz_Out mc cl oo oa ob oc B (qz_mp c mp) mL D (nI mc, nI md, nI cl, nI lc, 1, 0, nI c, nI h, 0, re, oo, oa, ob, oc, lg, (fun zz => nI (hd zz)), (fun zz => nI (s zz)), (fun zz => nI (rs zz)), (fun zz => nI (bd zz)), (fun zz => nI (d zz)), (fun zz => nI (p zz)), (fun zz => nI (n zz)), rg, tg) := by
  have c5 : c < 5 := I.2.2.1 c List.mem_cons_self
  obtain ⟨h1, hdm, hs1, hlv, hth⟩ := I.2.2.2.2.1
  have hm : md ≤ 6 := K.2.1.2
  have h6 : d c ≤ 6 := by omega
  have h64 : cl ≤ 64 := K.2.2.1
  have hl : lc ≤ 64 := K.2.2.2.1
  have hq : q (c * 6 + d c - 1) = x := (qc_qtop h1 hth).1.trans hp
  have hf : (c * 6 + d c - 1) < 30 := by omega
  have eA : nI ((c * 6 + d c - 1) * 8) + nI a = nI ((c * 6 + d c - 1) * 8 + a) := nI_add _ _
  have eB : nI ((c * 6 + d c - 1) * 8) + nI b = nI ((c * 6 + d c - 1) * 8 + b) := nI_add _ _
  rcases qz_thr (mc := mc) (md := md) (cl := cl) (lc := lc) (cu := c) (st := 1) (rt := 0) (lh := nI h) (rd := 0) (re := re) (oo := oo) (oa := oa) (ob := ob) (oc := oc) (lg := lg) (rg := rg) (tg := tg) (hd := hd) (d := d) (rs := rs) (bd := bd) (n := n) (p := qc_u p (c * 6 + d c - 1) (x + 1)) (fun t => qc_al I) (rg ((c * 6 + d c - 1) * 8 + b)) with ⟨t, t5, hg, hA, hX⟩ | ⟨hg, hno, hX⟩
  · by_cases s0 : s t = 0
    · obtain ⟨htl, t0⟩ := qc_s0 I s0
      rcases I.2.2.2.2.2.2 t t5 htl with o | ⟨-, -, -, o1, o2, -⟩
      · omega
      have I' := qc_tr_close (t := t) hm (qc_tr_pc (x := x + 1) hm I (by omega)) htl (by omega)
      have K' : qc_K mc md cl (qc_uw tg n t (d t) (lg, lc)).2 h (B + 1) oo oa ob oc (qc_u lv t 0) bd := qc_K_c (qc_K_up K) (qc_uw_le _ _ hl) (by rw [qc_uo (by omega)]; exact K.2.2.2.2.2.2.2)
      refine .inl ⟨(nI mc, nI md, nI cl, nI ((qc_uw tg n t (d t) (lg, lc)).2), 1, 0, nI c, nI h, 0, re, oo, oa, ob, oc, (qc_uw tg n t (d t) (lg, lc)).1, (fun zz => nI (hd zz)), (fun zz => nI ((qc_u s t 3) zz)), (fun zz => nI (rs zz)), (fun zz => nI (bd zz)), (fun zz => nI ((qc_u d t 0) zz)), (fun zz => nI ((qc_u p (c * 6 + d c - 1) (x + 1)) zz)), (fun zz => nI (n zz)), (upd rg ((c * 6 + d c - 1) * 8 + a) 1), tg), qz_Rmk K' I' (qz_Za Z (fun _ w => qz_lv0 w) (fun _ => ⟨hmL, qc_uo (by omega), qz_p0 Z h1 hp⟩)), fun P hP => ?_⟩
      · unfold wpX_step; refine qc_xtf _ c5 h1 ?_; refine ⟨vp_in_nI (by omega) (by decide), nm_r ((qc_rd p rfl (by omega)).trans (congrArg nI hp)) (br_t (nI_lt hx (by omega)) (nm_r (qc_m8 _) ⟨vp_in_nI (by omega) (by decide), nm_r ((qc_rr rfl (by omega)).trans ha) ⟨vp_in_nI (by omega) (by decide), nm_r ((qc_rr rfl (by omega)).trans hb) ⟨vp_in_nI (by omega) (by decide), nm_r ((qc_rr rfl (by omega))) ⟨vp_in_nI (by omega) (by decide), nm_r (qc_st rfl (nI_1 x) (by omega)) ⟨vp_in_nI (by omega) (by decide), nm_r ((qc_rr rfl (by omega)).trans ho) (br_f (by decide) (br_f (by decide) (br_f (by decide) (br_f (by decide) (br_f (by decide) (br_f (by decide) (br_f (by decide) (br_f (by decide) (br_f (by decide) (br_f (by decide) (br_f (by decide) (br_f (by decide) (br_f (by decide) (br_f (by decide) (br_f (by decide) (br_f (by decide) (br_f (by decide) (br_f (by decide) (br_f (by decide) (br_t rfl ?_))))))))))))))))))))⟩⟩⟩⟩⟩))⟩
        refine ⟨qc_vi eB (by omega) (by decide), ?_⟩
        rw [qc_rr (f := rg) eB (by omega)]
        unfold wpX_closeHandle
        refine hX _ (br_f (qc_nm1 t5) ⟨vp_in_nI (by omega) (by decide), br_t ?_ ?_⟩)
        · rw [qc_rd s rfl (by omega), s0]; rfl
        · exact qc_xunw _ t5 (by omega) (fun k hk => (o2 k hk).2.2.2.1) hl ⟨vp_in_nI (by omega) (by decide), nm_r (qc_st (x := 3) rfl rfl (by omega)) ⟨qc_vi eA (by omega) (by decide), nm_r (qc_sr eA (by omega) rfl) hP⟩⟩
    · have s12 : s t = 1 ∨ s t = 2 := by
        by_cases t0 : t = 0
        · rw [t0]; exact qc_s00 I
        · have := (hA t0).2; omega
      refine .inr ⟨(nI mc, nI md, nI cl, nI lc, 1, 0, nI c, nI h, 1, (-8), oo, oa, ob, oc, lg, (fun zz => nI (hd zz)), (fun zz => nI (s zz)), (fun zz => nI (rs zz)), (fun zz => nI (bd zz)), (fun zz => nI (d zz)), (fun zz => nI ((qc_u p (c * 6 + d c - 1) (x + 1)) zz)), (fun zz => nI (n zz)), rg, tg), c, -8, qz_Qmk (qc_K_up K) (qc_tr_j hm I) (qz_Za Z (fun _ w => w) (fun _ => ⟨hmL, rfl, qz_p0 Z h1 hp⟩)), fun P hP => ?_⟩
      · unfold wpX_step; refine qc_xtf _ c5 h1 ?_; refine ⟨vp_in_nI (by omega) (by decide), nm_r ((qc_rd p rfl (by omega)).trans (congrArg nI hp)) (br_t (nI_lt hx (by omega)) (nm_r (qc_m8 _) ⟨vp_in_nI (by omega) (by decide), nm_r ((qc_rr rfl (by omega)).trans ha) ⟨vp_in_nI (by omega) (by decide), nm_r ((qc_rr rfl (by omega)).trans hb) ⟨vp_in_nI (by omega) (by decide), nm_r ((qc_rr rfl (by omega))) ⟨vp_in_nI (by omega) (by decide), nm_r (qc_st rfl (nI_1 x) (by omega)) ⟨vp_in_nI (by omega) (by decide), nm_r ((qc_rr rfl (by omega)).trans ho) (br_f (by decide) (br_f (by decide) (br_f (by decide) (br_f (by decide) (br_f (by decide) (br_f (by decide) (br_f (by decide) (br_f (by decide) (br_f (by decide) (br_f (by decide) (br_f (by decide) (br_f (by decide) (br_f (by decide) (br_f (by decide) (br_f (by decide) (br_f (by decide) (br_f (by decide) (br_f (by decide) (br_f (by decide) (br_t rfl ?_))))))))))))))))))))⟩⟩⟩⟩⟩))⟩
        refine ⟨qc_vi eB (by omega) (by decide), ?_⟩
        rw [qc_rr (f := rg) eB (by omega)]
        unfold wpX_closeHandle
        refine hX _ (br_f (qc_nm1 t5) ⟨vp_in_nI (by omega) (by decide), br_f ?_ hP⟩)
        rw [qc_rd s rfl (by omega)]
        exact fun z => s0 ((nI_eq (b := 0) (by omega) (by omega)).mp z)
  · refine .inl ⟨(nI mc, nI md, nI cl, nI lc, 1, 0, nI c, nI h, 0, re, oo, oa, ob, oc, lg, (fun zz => nI (hd zz)), (fun zz => nI (s zz)), (fun zz => nI (rs zz)), (fun zz => nI (bd zz)), (fun zz => nI (d zz)), (fun zz => nI ((qc_u p (c * 6 + d c - 1) (x + 1)) zz)), (fun zz => nI (n zz)), (upd rg ((c * 6 + d c - 1) * 8 + a) 0), tg), qz_Rmk (qc_K_up K) (qc_tr_pc hm I (by omega)) (qz_Za Z (fun _ w => w) (fun _ => ⟨hmL, rfl, qz_p0 Z h1 hp⟩)), fun P hP => ?_⟩
    · unfold wpX_step; refine qc_xtf _ c5 h1 ?_; refine ⟨vp_in_nI (by omega) (by decide), nm_r ((qc_rd p rfl (by omega)).trans (congrArg nI hp)) (br_t (nI_lt hx (by omega)) (nm_r (qc_m8 _) ⟨vp_in_nI (by omega) (by decide), nm_r ((qc_rr rfl (by omega)).trans ha) ⟨vp_in_nI (by omega) (by decide), nm_r ((qc_rr rfl (by omega)).trans hb) ⟨vp_in_nI (by omega) (by decide), nm_r ((qc_rr rfl (by omega))) ⟨vp_in_nI (by omega) (by decide), nm_r (qc_st rfl (nI_1 x) (by omega)) ⟨vp_in_nI (by omega) (by decide), nm_r ((qc_rr rfl (by omega)).trans ho) (br_f (by decide) (br_f (by decide) (br_f (by decide) (br_f (by decide) (br_f (by decide) (br_f (by decide) (br_f (by decide) (br_f (by decide) (br_f (by decide) (br_f (by decide) (br_f (by decide) (br_f (by decide) (br_f (by decide) (br_f (by decide) (br_f (by decide) (br_f (by decide) (br_f (by decide) (br_f (by decide) (br_f (by decide) (br_t rfl ?_))))))))))))))))))))⟩⟩⟩⟩⟩))⟩
      refine ⟨qc_vi eB (by omega) (by decide), ?_⟩
      rw [qc_rr (f := rg) eB (by omega)]
      unfold wpX_closeHandle
      exact hX _ (br_t rfl ⟨qc_vi eA (by omega) (by decide), nm_r (qc_sr eA (by omega) rfl) hP⟩)
end
end
section
section
variable {mc md cl lc cu h B mp mL : Nat} {st rt lh rd re : Int32} {D : Nat → Prop} {oo oa ob oc lg rg tg : Nat → Int32} {hd d s lv rs bd yr p q n m : Nat → Nat} {c r t x a b : Nat} {l L : List Nat}
theorem qc_o13 (K : qc_K mc md cl lc h B oo oa ob oc lv bd) (I : qc_I mc md oo oa ob d s lv rs yr p q n m (c :: l)) (hp : p (c * 6 + d c - 1) = x) (hx : x < cl) (Z : qz_Z hd lv d p h mp mL D (c :: l)) (hmL : c = 0 → mp + 1 ≤ mL) (ho : oo x = 13) (ha : oa x = nI a) (a8 : a < 8) (hb : ob x = nI b) (b8 : b < 8) {g : Nat} (hc : oc x = nI g) (g8 : g < 8) : qz_Out mc cl oo oa ob oc B (qz_mp c mp) mL D (nI mc, nI md, nI cl, nI lc, 1, 0, nI c, nI h, 0, re, oo, oa, ob, oc, lg, (fun zz => nI (hd zz)), (fun zz => nI (s zz)), (fun zz => nI (rs zz)), (fun zz => nI (bd zz)), (fun zz => nI (d zz)), (fun zz => nI (p zz)), (fun zz => nI (n zz)), rg, tg) := by
  have c5 : c < 5 := I.2.2.1 c List.mem_cons_self
  obtain ⟨h1, hdm, hs1, hlv, hth⟩ := I.2.2.2.2.1
  have hm : md ≤ 6 := K.2.1.2
  have h6 : d c ≤ 6 := by omega
  have h64 : cl ≤ 64 := K.2.2.1
  have hl : lc ≤ 64 := K.2.2.2.1
  have hq : q (c * 6 + d c - 1) = x := (qc_qtop h1 hth).1.trans hp
  have hf : (c * 6 + d c - 1) < 30 := by omega
  have eA : nI ((c * 6 + d c - 1) * 8) + nI a = nI ((c * 6 + d c - 1) * 8 + a) := nI_add _ _
  have eA1 : nI ((c * 6 + d c - 1) * 8) + ((nI a + 1) &&& 7) = nI ((c * 6 + d c - 1) * 8 + (a + 1) % 8) := by rw [qc_a17 a8, nI_add]
  have eB : nI ((c * 6 + d c - 1) * 8) + nI b = nI ((c * 6 + d c - 1) * 8 + b) := nI_add _ _
  have eC : nI ((c * 6 + d c - 1) * 8) + nI g = nI ((c * 6 + d c - 1) * 8 + g) := nI_add _ _
  have I1 := qc_tr_pc (x := x + 1) hm I (by omega)
  have hxx : qc_RA oa (x + 1) := ⟨by omega, by omega, a, a8, ha⟩
  rcases qz_thr (mc := mc) (md := md) (cl := cl) (lc := lc) (cu := c) (st := 1) (rt := 0) (lh := nI h) (rd := 0) (re := re) (oo := oo) (oa := oa) (ob := ob) (oc := oc) (lg := lg) (rg := rg) (tg := tg) (hd := hd) (d := d) (rs := rs) (bd := bd) (n := n) (p := qc_u p (c * 6 + d c - 1) (x + 1)) (fun t => qc_al I) (rg ((c * 6 + d c - 1) * 8 + b)) with ⟨t, t5, hg, hA, hX⟩ | ⟨hg, hno, hX⟩
  rotate_left
  · refine .inl ⟨(nI mc, nI md, nI cl, nI lc, 1, 0, nI c, nI h, 0, re, oo, oa, ob, oc, lg, (fun zz => nI (hd zz)), (fun zz => nI (s zz)), (fun zz => nI (rs zz)), (fun zz => nI (bd zz)), (fun zz => nI (d zz)), (fun zz => nI ((qc_u p (c * 6 + d c - 1) (x + 1)) zz)), (fun zz => nI (n zz)), (upd (upd rg ((c * 6 + d c - 1) * 8 + a) (-1)) ((c * 6 + d c - 1) * 8 + (a + 1) % 8) 0), tg), qz_Rmk (qc_K_up K) I1 (qz_Za Z (fun _ w => w) (fun _ => ⟨hmL, rfl, qz_p0 Z h1 hp⟩)), fun P hP => ?_⟩
    · unfold wpX_step; refine qc_xtf _ c5 h1 ?_; refine ⟨vp_in_nI (by omega) (by decide), nm_r ((qc_rd p rfl (by omega)).trans (congrArg nI hp)) (br_t (nI_lt hx (by omega)) (nm_r (qc_m8 _) ⟨vp_in_nI (by omega) (by decide), nm_r ((qc_rr rfl (by omega)).trans ha) ⟨vp_in_nI (by omega) (by decide), nm_r ((qc_rr rfl (by omega)).trans hb) ⟨vp_in_nI (by omega) (by decide), nm_r ((qc_rr rfl (by omega)).trans hc) ⟨vp_in_nI (by omega) (by decide), nm_r (qc_st rfl (nI_1 x) (by omega)) ⟨vp_in_nI (by omega) (by decide), nm_r ((qc_rr rfl (by omega)).trans ho) (br_f (by decide) (br_f (by decide) (br_f (by decide) (br_f (by decide) (br_f (by decide) (br_f (by decide) (br_f (by decide) (br_f (by decide) (br_f (by decide) (br_f (by decide) (br_f (by decide) (br_f (by decide) (br_f (by decide) (br_f (by decide) (br_f (by decide) (br_t rfl ?_))))))))))))))))⟩⟩⟩⟩⟩))⟩
      refine ⟨qc_vi eB (by omega) (by decide), qc_vi eC (by omega) (by decide), ?_⟩
      rw [qc_rr (f := rg) eB (by omega), qc_rr (f := rg) eC (by omega)]
      unfold wpX_resumeHandle
      refine hX _ (br_t rfl ?_)
      refine qc_xc13 _ c5 h1 (by omega) (qc_us _ _ _) (by omega) (by omega) ha a8 ho _ _ 0 (fun _ => rfl) (fun z => absurd rfl z) ?_
      rw [qc_ue hs1]
      exact hP
  by_cases s0 : s t = 0
  rotate_left
  · have s3 : s t ≠ 3 := by
      by_cases t0 : t = 0
      · rw [t0]
        have := qc_s00 I
        omega
      · have := (hA t0).2; omega
    have s4 : s t ≤ 3 := by
      by_cases t0 : t = 0
      · rw [t0]
        have := qc_s00 I
        omega
      · have := (hA t0).2; omega
    · refine .inl ⟨(nI mc, nI md, nI cl, nI lc, 1, 0, nI c, nI h, 0, re, oo, oa, ob, oc, lg, (fun zz => nI (hd zz)), (fun zz => nI (s zz)), (fun zz => nI (rs zz)), (fun zz => nI (bd zz)), (fun zz => nI (d zz)), (fun zz => nI ((qc_u p (c * 6 + d c - 1) (x + 1)) zz)), (fun zz => nI (n zz)), (upd (upd rg ((c * 6 + d c - 1) * 8 + a) (-2)) ((c * 6 + d c - 1) * 8 + (a + 1) % 8) 0), tg), qz_Rmk (qc_K_up K) I1 (qz_Za Z (fun _ w => w) (fun _ => ⟨hmL, rfl, qz_p0 Z h1 hp⟩)), fun P hP => ?_⟩
      · unfold wpX_step; refine qc_xtf _ c5 h1 ?_; refine ⟨vp_in_nI (by omega) (by decide), nm_r ((qc_rd p rfl (by omega)).trans (congrArg nI hp)) (br_t (nI_lt hx (by omega)) (nm_r (qc_m8 _) ⟨vp_in_nI (by omega) (by decide), nm_r ((qc_rr rfl (by omega)).trans ha) ⟨vp_in_nI (by omega) (by decide), nm_r ((qc_rr rfl (by omega)).trans hb) ⟨vp_in_nI (by omega) (by decide), nm_r ((qc_rr rfl (by omega)).trans hc) ⟨vp_in_nI (by omega) (by decide), nm_r (qc_st rfl (nI_1 x) (by omega)) ⟨vp_in_nI (by omega) (by decide), nm_r ((qc_rr rfl (by omega)).trans ho) (br_f (by decide) (br_f (by decide) (br_f (by decide) (br_f (by decide) (br_f (by decide) (br_f (by decide) (br_f (by decide) (br_f (by decide) (br_f (by decide) (br_f (by decide) (br_f (by decide) (br_f (by decide) (br_f (by decide) (br_f (by decide) (br_f (by decide) (br_t rfl ?_))))))))))))))))⟩⟩⟩⟩⟩))⟩
        refine ⟨qc_vi eB (by omega) (by decide), qc_vi eC (by omega) (by decide), ?_⟩
        rw [qc_rr (f := rg) eB (by omega), qc_rr (f := rg) eC (by omega)]
        unfold wpX_resumeHandle
        refine hX _ (br_f (qc_nm1 t5) ⟨vp_in_nI (by omega) (by decide), br_f ?_ ?_⟩)
        · rw [qc_rd s rfl (by omega)]
          exact fun z => s0 ((nI_eq (b := 0) (by omega) (by omega)).mp z)
        refine qc_xc13 _ c5 h1 (by omega) (qc_us _ _ _) (by omega) (by omega) ha a8 ho _ _ 0 (fun _ => rfl) (fun z => absurd rfl z) ?_
        rw [qc_ue hs1]
        exact hP
  obtain ⟨htl, t0⟩ := qc_s0 I s0
  rcases I.2.2.2.2.2.2 t t5 htl with o | ⟨-, -, -, o1, o2, o3⟩
  · omega
  have htc : t ≠ c := fun z => htl (by rw [z]; exact List.mem_cons_self)
  have hbd : bd t < 64 := K.2.2.2.2.2.2.1 t
  have xs : (fun zz => nI (s zz)) (nI t).toNatClampNeg = 0 := by rw [qc_rd s rfl (by omega), s0]; rfl
  by_cases dt : d t = 0
  · have I' := qc_tr_en1 (b := bd t) hm K.2.1.1 I hxx (.inl ho) t5 htl s0 dt (by omega)
    have xd : (fun zz => nI (d zz)) (nI t).toNatClampNeg = 0 := by rw [qc_rd d rfl (by omega), dt]; rfl
    refine .inl ⟨(nI mc, nI md, nI cl, nI lc, 1, 0, nI t, nI h, 0, re, oo, oa, ob, oc, lg, (fun zz => nI (hd zz)), (fun zz => nI ((qc_u (qc_u s c 2) t 1) zz)), (fun zz => nI ((qc_u rs t c) zz)), (fun zz => nI (bd zz)), (fun zz => nI ((qc_u d t (d t + 1)) zz)), (fun zz => nI ((qc_u (qc_u p (c * 6 + d c - 1) (x + 1)) (t * 6 + d t) (bd t)) zz)), (fun zz => nI ((qc_u n (t * 6 + d t) 0) zz)), (qc_pr rg ((t * 6 + d t) * 8) (rg ((c * 6 + d c - 1) * 8 + g))), tg), qz_Rmk (qc_K_up K) I' (qz_Za Z (fun _ w => w) (fun _ => ⟨hmL, qc_uo (by omega), (qc_uo (by omega)).trans (qz_p0 Z h1 hp)⟩)), fun P hP => ?_⟩
    · unfold wpX_step; refine qc_xtf _ c5 h1 ?_; refine ⟨vp_in_nI (by omega) (by decide), nm_r ((qc_rd p rfl (by omega)).trans (congrArg nI hp)) (br_t (nI_lt hx (by omega)) (nm_r (qc_m8 _) ⟨vp_in_nI (by omega) (by decide), nm_r ((qc_rr rfl (by omega)).trans ha) ⟨vp_in_nI (by omega) (by decide), nm_r ((qc_rr rfl (by omega)).trans hb) ⟨vp_in_nI (by omega) (by decide), nm_r ((qc_rr rfl (by omega)).trans hc) ⟨vp_in_nI (by omega) (by decide), nm_r (qc_st rfl (nI_1 x) (by omega)) ⟨vp_in_nI (by omega) (by decide), nm_r ((qc_rr rfl (by omega)).trans ho) (br_f (by decide) (br_f (by decide) (br_f (by decide) (br_f (by decide) (br_f (by decide) (br_f (by decide) (br_f (by decide) (br_f (by decide) (br_f (by decide) (br_f (by decide) (br_f (by decide) (br_f (by decide) (br_f (by decide) (br_f (by decide) (br_f (by decide) (br_t rfl ?_))))))))))))))))⟩⟩⟩⟩⟩))⟩
      refine ⟨qc_vi eB (by omega) (by decide), qc_vi eC (by omega) (by decide), ?_⟩
      rw [qc_rr (f := rg) eB (by omega), qc_rr (f := rg) eC (by omega)]
      unfold wpX_resumeHandle
      refine hX _ (br_f (qc_nm1 t5) ⟨vp_in_nI (by omega) (by decide), br_t xs ⟨vp_in_nI (by omega) (by decide), nm_r (qc_st (x := 2) rfl rfl (by omega)) ⟨vp_in_nI (by omega) (by decide), nm_r (qc_st rfl rfl (by omega)) ⟨vp_in_nI (by omega) (by decide), nm_r (qc_st (x := 1) rfl rfl (by omega)) ⟨vp_in_nI (by omega) (by decide), br_t xd ⟨vp_in_nI (by omega) (by decide), ?_⟩⟩⟩⟩⟩⟩)
      rw [qc_rd bd rfl (by omega)]
      exact qc_xpush _ _ t5 (by omega) hP
  · have I' := qc_tr_en2 hm I hxx (.inl ho) t5 htl s0 (by omega)
    obtain ⟨y1, yr8, yb⟩ := o3 (by omega)
    obtain ⟨yq, -, -⟩ := qc_qtop (by omega) o2
    have y64 : p (t * 6 + d t - 1) ≤ 64 := by
      have e : t * 6 + (d t - 1) = t * 6 + d t - 1 := by omega
      have := (o2 (d t - 1) (by omega)).2.1
      rw [e] at this
      exact this
    have xd : ¬ (fun zz => nI (d zz)) (nI t).toNatClampNeg = 0 := by
      rw [qc_rd d rfl (by omega)]
      exact fun z => dt ((nI_eq (b := 0) (by omega) (by omega)).mp z)
    have hp2 : qc_u p (c * 6 + d c - 1) (x + 1) (t * 6 + d t - 1) = p (t * 6 + d t - 1) := qc_uo (by omega)
    have eI : nI (t * 6 + d t - 1) * 8 + ob (nI (p (t * 6 + d t - 1) - 1)).toNatClampNeg = nI ((t * 6 + d t - 1) * 8 + yr t) := qc_fr8 rfl ((qc_rr rfl (by omega)).trans yb)
    have eY : (nI t * 6 + (fun zz => nI (d zz)) (nI t).toNatClampNeg - 1) * 8 + (fun zz => nI (yr zz)) (nI t).toNatClampNeg = nI ((t * 6 + d t - 1) * 8 + yr t) := by
      rw [qc_rd d rfl (by omega), qc_rd yr rfl (by omega), qc_tf (by omega)]
      exact qc_fr8 rfl rfl
    refine .inl ⟨(nI mc, nI md, nI cl, nI lc, 1, 0, nI t, nI h, 0, re, oo, oa, ob, oc, lg, (fun zz => nI (hd zz)), (fun zz => nI ((qc_u (qc_u s c 2) t 1) zz)), (fun zz => nI ((qc_u rs t c) zz)), (fun zz => nI (bd zz)), (fun zz => nI (d zz)), (fun zz => nI ((qc_u p (c * 6 + d c - 1) (x + 1)) zz)), (fun zz => nI (n zz)), (upd rg ((t * 6 + d t - 1) * 8 + yr t) (rg ((c * 6 + d c - 1) * 8 + g))), tg), qz_Rmk (qc_K_up K) I' (qz_Za Z (fun _ w => w) (fun _ => ⟨hmL, rfl, qz_p0 Z h1 hp⟩)), fun P hP => ?_⟩
    · unfold wpX_step; refine qc_xtf _ c5 h1 ?_; refine ⟨vp_in_nI (by omega) (by decide), nm_r ((qc_rd p rfl (by omega)).trans (congrArg nI hp)) (br_t (nI_lt hx (by omega)) (nm_r (qc_m8 _) ⟨vp_in_nI (by omega) (by decide), nm_r ((qc_rr rfl (by omega)).trans ha) ⟨vp_in_nI (by omega) (by decide), nm_r ((qc_rr rfl (by omega)).trans hb) ⟨vp_in_nI (by omega) (by decide), nm_r ((qc_rr rfl (by omega)).trans hc) ⟨vp_in_nI (by omega) (by decide), nm_r (qc_st rfl (nI_1 x) (by omega)) ⟨vp_in_nI (by omega) (by decide), nm_r ((qc_rr rfl (by omega)).trans ho) (br_f (by decide) (br_f (by decide) (br_f (by decide) (br_f (by decide) (br_f (by decide) (br_f (by decide) (br_f (by decide) (br_f (by decide) (br_f (by decide) (br_f (by decide) (br_f (by decide) (br_f (by decide) (br_f (by decide) (br_f (by decide) (br_f (by decide) (br_t rfl ?_))))))))))))))))⟩⟩⟩⟩⟩))⟩
      refine ⟨qc_vi eB (by omega) (by decide), qc_vi eC (by omega) (by decide), ?_⟩
      rw [qc_rr (f := rg) eB (by omega), qc_rr (f := rg) eC (by omega)]
      unfold wpX_resumeHandle
      refine hX _ (br_f (qc_nm1 t5) ⟨vp_in_nI (by omega) (by decide), br_t xs ⟨vp_in_nI (by omega) (by decide), nm_r (qc_st (x := 2) rfl rfl (by omega)) ⟨vp_in_nI (by omega) (by decide), nm_r (qc_st rfl rfl (by omega)) ⟨vp_in_nI (by omega) (by decide), nm_r (qc_st (x := 1) rfl rfl (by omega)) ⟨vp_in_nI (by omega) (by decide), br_f xd ?_⟩⟩⟩⟩⟩)
      refine qc_xtf _ t5 (by omega) ?_
      exact ⟨vp_in_nI (by omega) (by decide), nm_r (qc_de1 ((qc_rd (qc_u p (c * 6 + d c - 1) (x + 1)) rfl (by omega)).trans (congrArg nI hp2)) y1) ⟨vp_in_nI (by omega) (by decide), qc_vi eI (by omega) (by decide), nm_r (qc_sr eI (by omega) rfl) hP⟩⟩
theorem qc_o14 (K : qc_K mc md cl lc h B oo oa ob oc lv bd) (I : qc_I mc md oo oa ob d s lv rs yr p q n m (c :: l)) (hp : p (c * 6 + d c - 1) = x) (hx : x < cl) (Z : qz_Z hd lv d p h mp mL D (c :: l)) (hmL : c = 0 → mp + 1 ≤ mL) (ho : oo x = 14) (ha : oa x = nI a) (a8 : a < 8) (hb : ob x = nI b) (b8 : b < 8) {g : Nat} (hc : oc x = nI g) (g8 : g < 8) : qz_Out mc cl oo oa ob oc B (qz_mp c mp) mL D (nI mc, nI md, nI cl, nI lc, 1, 0, nI c, nI h, 0, re, oo, oa, ob, oc, lg, (fun zz => nI (hd zz)), (fun zz => nI (s zz)), (fun zz => nI (rs zz)), (fun zz => nI (bd zz)), (fun zz => nI (d zz)), (fun zz => nI (p zz)), (fun zz => nI (n zz)), rg, tg) := by
  have c5 : c < 5 := I.2.2.1 c List.mem_cons_self
  obtain ⟨h1, hdm, hs1, hlv, hth⟩ := I.2.2.2.2.1
  have hm : md ≤ 6 := K.2.1.2
  have h6 : d c ≤ 6 := by omega
  have h64 : cl ≤ 64 := K.2.2.1
  have hl : lc ≤ 64 := K.2.2.2.1
  have hq : q (c * 6 + d c - 1) = x := (qc_qtop h1 hth).1.trans hp
  have hf : (c * 6 + d c - 1) < 30 := by omega
  have eA : nI ((c * 6 + d c - 1) * 8) + nI a = nI ((c * 6 + d c - 1) * 8 + a) := nI_add _ _
  have eA1 : nI ((c * 6 + d c - 1) * 8) + ((nI a + 1) &&& 7) = nI ((c * 6 + d c - 1) * 8 + (a + 1) % 8) := by rw [qc_a17 a8, nI_add]
  have eB : nI ((c * 6 + d c - 1) * 8) + nI b = nI ((c * 6 + d c - 1) * 8 + b) := nI_add _ _
  have eC : nI ((c * 6 + d c - 1) * 8) + nI g = nI ((c * 6 + d c - 1) * 8 + g) := nI_add _ _
  have I1 := qc_tr_pc (x := x + 1) hm I (by omega)
  have hxx : qc_RA oa (x + 1) := ⟨by omega, by omega, a, a8, ha⟩
  rcases qz_thr (mc := mc) (md := md) (cl := cl) (lc := lc) (cu := c) (st := 1) (rt := 0) (lh := nI h) (rd := 0) (re := re) (oo := oo) (oa := oa) (ob := ob) (oc := oc) (lg := lg) (rg := rg) (tg := tg) (hd := hd) (d := d) (rs := rs) (bd := bd) (n := n) (p := qc_u p (c * 6 + d c - 1) (x + 1)) (fun t => qc_al I) (rg ((c * 6 + d c - 1) * 8 + b)) with ⟨t, t5, hg, hA, hX⟩ | ⟨hg, hno, hX⟩
  rotate_left
  · refine .inr ⟨(nI mc, nI md, nI cl, nI lc, 1, 0, nI c, nI h, 1, (-1), oo, oa, ob, oc, lg, (fun zz => nI (hd zz)), (fun zz => nI (s zz)), (fun zz => nI (rs zz)), (fun zz => nI (bd zz)), (fun zz => nI (d zz)), (fun zz => nI ((qc_u p (c * 6 + d c - 1) (x + 1)) zz)), (fun zz => nI (n zz)), rg, tg), c, -1, qz_Qmk (qc_K_up K) (qc_J_of I1) (qz_Za Z (fun _ w => w) (fun _ => ⟨hmL, rfl, qz_p0 Z h1 hp⟩)), fun P hP => ?_⟩
    · unfold wpX_step; refine qc_xtf _ c5 h1 ?_; refine ⟨vp_in_nI (by omega) (by decide), nm_r ((qc_rd p rfl (by omega)).trans (congrArg nI hp)) (br_t (nI_lt hx (by omega)) (nm_r (qc_m8 _) ⟨vp_in_nI (by omega) (by decide), nm_r ((qc_rr rfl (by omega)).trans ha) ⟨vp_in_nI (by omega) (by decide), nm_r ((qc_rr rfl (by omega)).trans hb) ⟨vp_in_nI (by omega) (by decide), nm_r ((qc_rr rfl (by omega)).trans hc) ⟨vp_in_nI (by omega) (by decide), nm_r (qc_st rfl (nI_1 x) (by omega)) ⟨vp_in_nI (by omega) (by decide), nm_r ((qc_rr rfl (by omega)).trans ho) (br_f (by decide) (br_f (by decide) (br_f (by decide) (br_f (by decide) (br_f (by decide) (br_f (by decide) (br_f (by decide) (br_f (by decide) (br_f (by decide) (br_f (by decide) (br_f (by decide) (br_f (by decide) (br_f (by decide) (br_f (by decide) (br_f (by decide) (br_f (by decide) (br_t rfl ?_)))))))))))))))))⟩⟩⟩⟩⟩))⟩
      refine ⟨qc_vi eB (by omega) (by decide), qc_vi eC (by omega) (by decide), ?_⟩
      rw [qc_rr (f := rg) eB (by omega), qc_rr (f := rg) eC (by omega)]
      unfold wpX_resumeHandle
      refine hX _ (br_t rfl ?_)
      refine qc_xcr _ c5 h1 (by omega) (qc_us _ _ _) (by omega) (by omega) ho _ ?_
      rw [qc_ue hs1]
      exact hP
  by_cases s0 : s t = 0
  rotate_left
  · have s3 : s t ≠ 3 := by
      by_cases t0 : t = 0
      · rw [t0]
        have := qc_s00 I
        omega
      · have := (hA t0).2; omega
    have s4 : s t ≤ 3 := by
      by_cases t0 : t = 0
      · rw [t0]
        have := qc_s00 I
        omega
      · have := (hA t0).2; omega
    · refine .inr ⟨(nI mc, nI md, nI cl, nI lc, 1, 0, nI c, nI h, 1, (-2), oo, oa, ob, oc, lg, (fun zz => nI (hd zz)), (fun zz => nI (s zz)), (fun zz => nI (rs zz)), (fun zz => nI (bd zz)), (fun zz => nI (d zz)), (fun zz => nI ((qc_u p (c * 6 + d c - 1) (x + 1)) zz)), (fun zz => nI (n zz)), rg, tg), c, -2, qz_Qmk (qc_K_up K) (qc_J_of I1) (qz_Za Z (fun _ w => w) (fun _ => ⟨hmL, rfl, qz_p0 Z h1 hp⟩)), fun P hP => ?_⟩
      · unfold wpX_step; refine qc_xtf _ c5 h1 ?_; refine ⟨vp_in_nI (by omega) (by decide), nm_r ((qc_rd p rfl (by omega)).trans (congrArg nI hp)) (br_t (nI_lt hx (by omega)) (nm_r (qc_m8 _) ⟨vp_in_nI (by omega) (by decide), nm_r ((qc_rr rfl (by omega)).trans ha) ⟨vp_in_nI (by omega) (by decide), nm_r ((qc_rr rfl (by omega)).trans hb) ⟨vp_in_nI (by omega) (by decide), nm_r ((qc_rr rfl (by omega)).trans hc) ⟨vp_in_nI (by omega) (by decide), nm_r (qc_st rfl (nI_1 x) (by omega)) ⟨vp_in_nI (by omega) (by decide), nm_r ((qc_rr rfl (by omega)).trans ho) (br_f (by decide) (br_f (by decide) (br_f (by decide) (br_f (by decide) (br_f (by decide) (br_f (by decide) (br_f (by decide) (br_f (by decide) (br_f (by decide) (br_f (by decide) (br_f (by decide) (br_f (by decide) (br_f (by decide) (br_f (by decide) (br_f (by decide) (br_f (by decide) (br_t rfl ?_)))))))))))))))))⟩⟩⟩⟩⟩))⟩
        refine ⟨qc_vi eB (by omega) (by decide), qc_vi eC (by omega) (by decide), ?_⟩
        rw [qc_rr (f := rg) eB (by omega), qc_rr (f := rg) eC (by omega)]
        unfold wpX_resumeHandle
        refine hX _ (br_f (qc_nm1 t5) ⟨vp_in_nI (by omega) (by decide), br_f ?_ ?_⟩)
        · rw [qc_rd s rfl (by omega)]
          exact fun z => s0 ((nI_eq (b := 0) (by omega) (by omega)).mp z)
        refine qc_xcr _ c5 h1 (by omega) (qc_us _ _ _) (by omega) (by omega) ho _ ?_
        rw [qc_ue hs1]
        exact hP
  obtain ⟨htl, t0⟩ := qc_s0 I s0
  rcases I.2.2.2.2.2.2 t t5 htl with o | ⟨-, -, -, o1, o2, o3⟩
  · omega
  have htc : t ≠ c := fun z => htl (by rw [z]; exact List.mem_cons_self)
  have hbd : bd t < 64 := K.2.2.2.2.2.2.1 t
  have xs : (fun zz => nI (s zz)) (nI t).toNatClampNeg = 0 := by rw [qc_rd s rfl (by omega), s0]; rfl
  by_cases dt : d t = 0
  · have I' := qc_tr_en1 (b := bd t) hm K.2.1.1 I hxx (.inr ho) t5 htl s0 dt (by omega)
    have xd : (fun zz => nI (d zz)) (nI t).toNatClampNeg = 0 := by rw [qc_rd d rfl (by omega), dt]; rfl
    refine .inl ⟨(nI mc, nI md, nI cl, nI lc, 1, 0, nI t, nI h, 0, re, oo, oa, ob, oc, lg, (fun zz => nI (hd zz)), (fun zz => nI ((qc_u (qc_u s c 2) t 1) zz)), (fun zz => nI ((qc_u rs t c) zz)), (fun zz => nI (bd zz)), (fun zz => nI ((qc_u d t (d t + 1)) zz)), (fun zz => nI ((qc_u (qc_u p (c * 6 + d c - 1) (x + 1)) (t * 6 + d t) (bd t)) zz)), (fun zz => nI ((qc_u n (t * 6 + d t) 0) zz)), (qc_pr rg ((t * 6 + d t) * 8) (rg ((c * 6 + d c - 1) * 8 + g))), tg), qz_Rmk (qc_K_up K) I' (qz_Za Z (fun _ w => w) (fun _ => ⟨hmL, qc_uo (by omega), (qc_uo (by omega)).trans (qz_p0 Z h1 hp)⟩)), fun P hP => ?_⟩
    · unfold wpX_step; refine qc_xtf _ c5 h1 ?_; refine ⟨vp_in_nI (by omega) (by decide), nm_r ((qc_rd p rfl (by omega)).trans (congrArg nI hp)) (br_t (nI_lt hx (by omega)) (nm_r (qc_m8 _) ⟨vp_in_nI (by omega) (by decide), nm_r ((qc_rr rfl (by omega)).trans ha) ⟨vp_in_nI (by omega) (by decide), nm_r ((qc_rr rfl (by omega)).trans hb) ⟨vp_in_nI (by omega) (by decide), nm_r ((qc_rr rfl (by omega)).trans hc) ⟨vp_in_nI (by omega) (by decide), nm_r (qc_st rfl (nI_1 x) (by omega)) ⟨vp_in_nI (by omega) (by decide), nm_r ((qc_rr rfl (by omega)).trans ho) (br_f (by decide) (br_f (by decide) (br_f (by decide) (br_f (by decide) (br_f (by decide) (br_f (by decide) (br_f (by decide) (br_f (by decide) (br_f (by decide) (br_f (by decide) (br_f (by decide) (br_f (by decide) (br_f (by decide) (br_f (by decide) (br_f (by decide) (br_f (by decide) (br_t rfl ?_)))))))))))))))))⟩⟩⟩⟩⟩))⟩
      refine ⟨qc_vi eB (by omega) (by decide), qc_vi eC (by omega) (by decide), ?_⟩
      rw [qc_rr (f := rg) eB (by omega), qc_rr (f := rg) eC (by omega)]
      unfold wpX_resumeHandle
      refine hX _ (br_f (qc_nm1 t5) ⟨vp_in_nI (by omega) (by decide), br_t xs ⟨vp_in_nI (by omega) (by decide), nm_r (qc_st (x := 2) rfl rfl (by omega)) ⟨vp_in_nI (by omega) (by decide), nm_r (qc_st rfl rfl (by omega)) ⟨vp_in_nI (by omega) (by decide), nm_r (qc_st (x := 1) rfl rfl (by omega)) ⟨vp_in_nI (by omega) (by decide), br_t xd ⟨vp_in_nI (by omega) (by decide), ?_⟩⟩⟩⟩⟩⟩)
      rw [qc_rd bd rfl (by omega)]
      exact qc_xpush _ _ t5 (by omega) hP
  · have I' := qc_tr_en2 hm I hxx (.inr ho) t5 htl s0 (by omega)
    obtain ⟨y1, yr8, yb⟩ := o3 (by omega)
    obtain ⟨yq, -, -⟩ := qc_qtop (by omega) o2
    have y64 : p (t * 6 + d t - 1) ≤ 64 := by
      have e : t * 6 + (d t - 1) = t * 6 + d t - 1 := by omega
      have := (o2 (d t - 1) (by omega)).2.1
      rw [e] at this
      exact this
    have xd : ¬ (fun zz => nI (d zz)) (nI t).toNatClampNeg = 0 := by
      rw [qc_rd d rfl (by omega)]
      exact fun z => dt ((nI_eq (b := 0) (by omega) (by omega)).mp z)
    have hp2 : qc_u p (c * 6 + d c - 1) (x + 1) (t * 6 + d t - 1) = p (t * 6 + d t - 1) := qc_uo (by omega)
    have eI : nI (t * 6 + d t - 1) * 8 + ob (nI (p (t * 6 + d t - 1) - 1)).toNatClampNeg = nI ((t * 6 + d t - 1) * 8 + yr t) := qc_fr8 rfl ((qc_rr rfl (by omega)).trans yb)
    have eY : (nI t * 6 + (fun zz => nI (d zz)) (nI t).toNatClampNeg - 1) * 8 + (fun zz => nI (yr zz)) (nI t).toNatClampNeg = nI ((t * 6 + d t - 1) * 8 + yr t) := by
      rw [qc_rd d rfl (by omega), qc_rd yr rfl (by omega), qc_tf (by omega)]
      exact qc_fr8 rfl rfl
    refine .inl ⟨(nI mc, nI md, nI cl, nI lc, 1, 0, nI t, nI h, 0, re, oo, oa, ob, oc, lg, (fun zz => nI (hd zz)), (fun zz => nI ((qc_u (qc_u s c 2) t 1) zz)), (fun zz => nI ((qc_u rs t c) zz)), (fun zz => nI (bd zz)), (fun zz => nI (d zz)), (fun zz => nI ((qc_u p (c * 6 + d c - 1) (x + 1)) zz)), (fun zz => nI (n zz)), (upd rg ((t * 6 + d t - 1) * 8 + yr t) (rg ((c * 6 + d c - 1) * 8 + g))), tg), qz_Rmk (qc_K_up K) I' (qz_Za Z (fun _ w => w) (fun _ => ⟨hmL, rfl, qz_p0 Z h1 hp⟩)), fun P hP => ?_⟩
    · unfold wpX_step; refine qc_xtf _ c5 h1 ?_; refine ⟨vp_in_nI (by omega) (by decide), nm_r ((qc_rd p rfl (by omega)).trans (congrArg nI hp)) (br_t (nI_lt hx (by omega)) (nm_r (qc_m8 _) ⟨vp_in_nI (by omega) (by decide), nm_r ((qc_rr rfl (by omega)).trans ha) ⟨vp_in_nI (by omega) (by decide), nm_r ((qc_rr rfl (by omega)).trans hb) ⟨vp_in_nI (by omega) (by decide), nm_r ((qc_rr rfl (by omega)).trans hc) ⟨vp_in_nI (by omega) (by decide), nm_r (qc_st rfl (nI_1 x) (by omega)) ⟨vp_in_nI (by omega) (by decide), nm_r ((qc_rr rfl (by omega)).trans ho) (br_f (by decide) (br_f (by decide) (br_f (by decide) (br_f (by decide) (br_f (by decide) (br_f (by decide) (br_f (by decide) (br_f (by decide) (br_f (by decide) (br_f (by decide) (br_f (by decide) (br_f (by decide) (br_f (by decide) (br_f (by decide) (br_f (by decide) (br_f (by decide) (br_t rfl ?_)))))))))))))))))⟩⟩⟩⟩⟩))⟩
      refine ⟨qc_vi eB (by omega) (by decide), qc_vi eC (by omega) (by decide), ?_⟩
      rw [qc_rr (f := rg) eB (by omega), qc_rr (f := rg) eC (by omega)]
      unfold wpX_resumeHandle
      refine hX _ (br_f (qc_nm1 t5) ⟨vp_in_nI (by omega) (by decide), br_t xs ⟨vp_in_nI (by omega) (by decide), nm_r (qc_st (x := 2) rfl rfl (by omega)) ⟨vp_in_nI (by omega) (by decide), nm_r (qc_st rfl rfl (by omega)) ⟨vp_in_nI (by omega) (by decide), nm_r (qc_st (x := 1) rfl rfl (by omega)) ⟨vp_in_nI (by omega) (by decide), br_f xd ?_⟩⟩⟩⟩⟩)
      refine qc_xtf _ t5 (by omega) ?_
      exact ⟨vp_in_nI (by omega) (by decide), nm_r (qc_de1 ((qc_rd (qc_u p (c * 6 + d c - 1) (x + 1)) rfl (by omega)).trans (congrArg nI hp2)) y1) ⟨vp_in_nI (by omega) (by decide), qc_vi eI (by omega) (by decide), nm_r (qc_sr eI (by omega) rfl) hP⟩⟩
end
end
section
section
variable {mc md cl lc cu h B mp mL : Nat} {st rt lh rd re : Int32} {D : Nat → Prop} {oo oa ob oc lg rg tg : Nat → Int32} {hd d s lv rs bd yr p q n m : Nat → Nat} {c r t x a b : Nat} {l L : List Nat}
theorem qc_xlcl (P : Int32 → Prop) (al : ∀ t, t ≠ 0 → t < 5 → (s t = 3 ∧ lv t = 0) ∨ (s t < 3 ∧ lv t = 1)) : ∀ k j acc, j + k = 5 → j ≠ 0 → acc ≤ j → P (nI (acc + qc_sm lv k j)) → wX_getLiveCount_4 P (nI mc) (nI md) (nI cl) (nI lc) st rt (nI cu) lh rd re oo oa ob oc lg (fun zz => nI (hd zz)) (fun zz => nI (s zz)) (fun zz => nI (rs zz)) (fun zz => nI (bd zz)) (fun zz => nI (d zz)) (fun zz => nI (p zz)) (fun zz => nI (n zz)) rg tg (k + 1) (nI acc) (nI j) := by
  intro k
  induction k with
  | zero =>
    intro j acc hj _ _ hP
    have e : j = 5 := by omega
    subst e
    exact br_t (nI_le (a := 5) (b := 5) (by omega) (by decide)) hP
  | succ k ih =>
    intro j acc hj j0 ha hP
    refine br_f (nI_ge (b := 5) (by omega) (by decide)) ⟨vp_in_nI (by omega) (by decide), ?_⟩
    have es : (fun zz => nI (s zz)) (nI j).toNatClampNeg = nI (s j) := qc_rd s rfl (by omega)
    have hs : qc_sm lv (k + 1) j = lv j + qc_sm lv k (j + 1) := rfl
    rw [hs] at hP
    rcases al j j0 (by omega) with ⟨a1, a2⟩ | ⟨a1, a2⟩
    · refine br_t (by rw [es, a1]; rfl) (nm_r (nI_1 j) (ih (j + 1) acc (by omega) (by omega) (by omega) ?_))
      rw [a2, Nat.zero_add] at hP
      exact hP
    · refine br_f (by rw [es]; exact fun z => by have := (nI_eq (b := 3) (by omega) (by decide)).mp z; omega) (nm_r (nI_1 acc) (nm_r (nI_1 j) (ih (j + 1) (acc + 1) (by omega) (by omega) (by omega) ?_)))
      rw [a2, ← Nat.add_assoc] at hP
      exact hP
theorem qc_xlc (P : Int32 → Prop) (al : ∀ t, t ≠ 0 → t < 5 → (s t = 3 ∧ lv t = 0) ∨ (s t < 3 ∧ lv t = 1)) (hP : P (nI (qc_sm lv 4 1))) : wpX_getLiveCount P (nI mc, nI md, nI cl, nI lc, st, rt, nI cu, lh, rd, re, oo, oa, ob, oc, lg, (fun zz => nI (hd zz)), (fun zz => nI (s zz)), (fun zz => nI (rs zz)), (fun zz => nI (bd zz)), (fun zz => nI (d zz)), (fun zz => nI (p zz)), (fun zz => nI (n zz)), rg, tg) :=
  ⟨5, qc_xlcl P al 4 1 0 rfl (by omega) (by omega) (by rw [Nat.zero_add]; exact hP)⟩
theorem qc_xfrl (P : Int32 → Prop) (h4 : mc ≤ 4) (al : ∀ t, t ≠ 0 → t < 5 → (s t = 3 ∧ lv t = 0) ∨ (s t < 3 ∧ lv t = 1)) : ∀ k j, j + k = mc + 1 → j ≠ 0 → (qc_fr lv k j < j + k → P (nI (qc_fr lv k j))) → (¬ qc_fr lv k j < j + k → P (-1)) → wX_freeThread_2 P (nI mc) (nI md) (nI cl) (nI lc) st rt (nI cu) lh rd re oo oa ob oc lg (fun zz => nI (hd zz)) (fun zz => nI (s zz)) (fun zz => nI (rs zz)) (fun zz => nI (bd zz)) (fun zz => nI (d zz)) (fun zz => nI (p zz)) (fun zz => nI (n zz)) rg tg (k + 1) (nI j) := by
  intro k
  induction k with
  | zero =>
    intro j hj _ _ hN
    exact br_t (nI_lt (by omega) (by omega)) (hN (by show ¬ j < j + 0; omega))
  | succ k ih =>
    intro j hj j0 hP hN
    refine br_f (nI_nlt (by omega) (by omega)) ⟨vp_in_nI (by omega) (by decide), ?_⟩
    have es : (fun zz => nI (s zz)) (nI j).toNatClampNeg = nI (s j) := qc_rd s rfl (by omega)
    rcases al j j0 (by omega) with ⟨a1, a2⟩ | ⟨a1, a2⟩
    · have e : qc_fr lv (k + 1) j = j := if_pos a2
      rw [e] at hP
      exact br_t (by rw [es, a1]; rfl) (hP (by omega))
    · have e : qc_fr lv (k + 1) j = qc_fr lv k (j + 1) := if_neg (by omega)
      have e2 : j + (k + 1) = j + 1 + k := by omega
      rw [e, e2] at hP hN
      exact br_f (by rw [es]; exact fun z => by have := (nI_eq (b := 3) (by omega) (by decide)).mp z; omega) (nm_r (nI_1 j) (ih (j + 1) (by omega) (by omega) hP hN))
theorem qc_xfr (P : Int32 → Prop) (h4 : mc ≤ 4) (al : ∀ t, t ≠ 0 → t < 5 → (s t = 3 ∧ lv t = 0) ∨ (s t < 3 ∧ lv t = 1)) (hP : qc_fr lv mc 1 ≤ mc → P (nI (qc_fr lv mc 1))) (hN : ¬ qc_fr lv mc 1 ≤ mc → P (-1)) : wpX_freeThread P (nI mc, nI md, nI cl, nI lc, st, rt, nI cu, lh, rd, re, oo, oa, ob, oc, lg, (fun zz => nI (hd zz)), (fun zz => nI (s zz)), (fun zz => nI (rs zz)), (fun zz => nI (bd zz)), (fun zz => nI (d zz)), (fun zz => nI (p zz)), (fun zz => nI (n zz)), rg, tg) :=
  ⟨mc + 1, qc_xfrl P h4 al mc 1 (by omega) (by omega) (fun z => hP (by omega)) (fun z => hN (by omega))⟩
theorem qc_o12 (K : qc_K mc md cl lc h B oo oa ob oc lv bd) (I : qc_I mc md oo oa ob d s lv rs yr p q n m (c :: l)) (hp : p (c * 6 + d c - 1) = x) (hx : x < cl) (Z : qz_Z hd lv d p h mp mL D (c :: l)) (hmL : c = 0 → mp + 1 ≤ mL) (hB : B < 2147483647) (ho : oo x = 12) (ha : oa x = nI a) (a8 : a < 8) (hb : ob x = nI b) (b6 : b < 64) : qz_Out mc cl oo oa ob oc B (qz_mp c mp) mL D (nI mc, nI md, nI cl, nI lc, 1, 0, nI c, nI h, 0, re, oo, oa, ob, oc, lg, (fun zz => nI (hd zz)), (fun zz => nI (s zz)), (fun zz => nI (rs zz)), (fun zz => nI (bd zz)), (fun zz => nI (d zz)), (fun zz => nI (p zz)), (fun zz => nI (n zz)), rg, tg) := by
  have c5 : c < 5 := I.2.2.1 c List.mem_cons_self
  obtain ⟨h1, hdm, hs1, hlv, hth⟩ := I.2.2.2.2.1
  have hm : md ≤ 6 := K.2.1.2
  have h6 : d c ≤ 6 := by omega
  have h64 : cl ≤ 64 := K.2.2.1
  have hl : lc ≤ 64 := K.2.2.2.1
  have hq : q (c * 6 + d c - 1) = x := (qc_qtop h1 hth).1.trans hp
  have hf : (c * 6 + d c - 1) < 30 := by omega
  have eA : nI ((c * 6 + d c - 1) * 8) + nI a = nI ((c * 6 + d c - 1) * 8 + a) := nI_add _ _
  have al : ∀ t, t ≠ 0 → t < 5 → (s t = 3 ∧ lv t = 0) ∨ (s t < 3 ∧ lv t = 1) := fun t => qc_al I
  have m4 : mc ≤ 4 := K.1.2
  have hv : ∀ t, t < 5 → lv t ≤ 1 := by
    intro t t5
    by_cases t0 : t = 0
    · rw [t0, K.2.2.2.2.2.2.2]; omega
    · have := al t t0 t5; omega
  have hB' : h ≤ B := K.2.2.2.2.1
  have fre := qc_free K.1.1 m4 hv I.2.2.2.1
  have fin := qc_fr_in (f := lv) mc 1
  have fin4 := qc_fr_in (f := lv) 4 1
  by_cases z : qc_fr lv mc 1 ≤ mc
  · obtain ⟨e4, lt⟩ := fre.1 z
    have F0 : qc_fr lv mc 1 ≠ 0 := by omega
    have F5 : qc_fr lv mc 1 < 5 := by omega
    have Flv : lv (qc_fr lv mc 1) = 0 := fin.2.2 (by omega)
    have Fs : s (qc_fr lv mc 1) = 3 := by have := al _ F0 F5; omega
    have ct := qc_tr_create (t := qc_fr lv mc 1) hm (qc_tr_pc (x := x + 1) hm I (by omega)) F5 F0 z Fs
    generalize hF : qc_fr lv mc 1 = F at *
    obtain ⟨d0, I'⟩ := ct
    have K' : qc_K mc md cl lc (h + 1) (B + 1) oo oa ob oc (qc_u lv F 1) (qc_u bd F b) := by
      refine ⟨K.1, K.2.1, K.2.2.1, K.2.2.2.1, by omega, K.2.2.2.2.2.1, fun t => ?_, ?_⟩
      · by_cases w : t = F
        · rw [w, qc_us]; exact b6
        · rw [qc_uo w]; exact K.2.2.2.2.2.2.1 t
      · rw [qc_uo (by omega)]; exact K.2.2.2.2.2.2.2
    have sm4 : qc_sm lv 4 1 < 2 ^ 31 := by omega
    refine .inl ⟨(nI mc, nI md, nI cl, nI lc, 1, 0, nI c, nI (h + 1), 0, re, oo, oa, ob, oc, lg, (fun zz => nI ((qc_u hd F (h + 1)) zz)), (fun zz => nI ((qc_u s F 0) zz)), (fun zz => nI (rs zz)), (fun zz => nI ((qc_u bd F b) zz)), (fun zz => nI (d zz)), (fun zz => nI ((qc_u p (c * 6 + d c - 1) (x + 1)) zz)), (fun zz => nI (n zz)), (upd rg ((c * 6 + d c - 1) * 8 + a) (nI (h + 1))), tg), qz_Rmk K' I' (qz_Zc Z F0 hmL (qz_p0 Z h1 hp)), fun P hP => ?_⟩
    · unfold wpX_step; refine qc_xtf _ c5 h1 ?_; refine ⟨vp_in_nI (by omega) (by decide), nm_r ((qc_rd p rfl (by omega)).trans (congrArg nI hp)) (br_t (nI_lt hx (by omega)) (nm_r (qc_m8 _) ⟨vp_in_nI (by omega) (by decide), nm_r ((qc_rr rfl (by omega)).trans ha) ⟨vp_in_nI (by omega) (by decide), nm_r ((qc_rr rfl (by omega)).trans hb) ⟨vp_in_nI (by omega) (by decide), nm_r ((qc_rr rfl (by omega))) ⟨vp_in_nI (by omega) (by decide), nm_r (qc_st rfl (nI_1 x) (by omega)) ⟨vp_in_nI (by omega) (by decide), nm_r ((qc_rr rfl (by omega)).trans ho) (br_f (by decide) (br_f (by decide) (br_f (by decide) (br_f (by decide) (br_f (by decide) (br_f (by decide) (br_f (by decide) (br_f (by decide) (br_f (by decide) (br_f (by decide) (br_f (by decide) (br_f (by decide) (br_f (by decide) (br_f (by decide) (br_t rfl ?_)))))))))))))))⟩⟩⟩⟩⟩))⟩
      unfold wpX_createCoroutine
      refine qc_xfr (lv := lv) _ m4 al (fun w => ?_) (fun w => ?_)
      · rw [hF]
        exact br_f (qc_nm1 F5) (br_t (nI_lt (b := 2147483647) (by omega) (by omega)) (nm_r (nI_1 h) ⟨vp_in_nI (by omega) (by decide), nm_r (qc_st rfl rfl (by omega)) ⟨vp_in_nI (by omega) (by decide), nm_r (qc_st (x := 0) rfl rfl (by omega)) ⟨vp_in_nI (by omega) (by decide), nm_r (qc_st rfl rfl (by omega)) ⟨qc_vi eA (by omega) (by decide), nm_r (qc_sr eA (by omega) rfl) hP⟩⟩⟩⟩))
      · rw [hF] at w
        exact absurd z w
  · have ge := fre.2 z
    have sm4 : qc_sm lv 4 1 < 2 ^ 31 := by
      have a1 := hv 1 (by omega)
      have a2 := hv 2 (by omega)
      have a3 := hv 3 (by omega)
      have a4 := hv 4 (by omega)
      show lv 1 + (lv 2 + (lv 3 + (lv 4 + 0))) < 2 ^ 31
      omega
    refine .inr ⟨(nI mc, nI md, nI cl, nI lc, 1, 0, nI c, nI h, 1, (-5), oo, oa, ob, oc, lg, (fun zz => nI (hd zz)), (fun zz => nI (s zz)), (fun zz => nI (rs zz)), (fun zz => nI (bd zz)), (fun zz => nI (d zz)), (fun zz => nI ((qc_u p (c * 6 + d c - 1) (x + 1)) zz)), (fun zz => nI (n zz)), rg, tg), c, -5, qz_Qmk (qc_K_up K) (qc_tr_j hm I) (qz_Za Z (fun _ w => w) (fun _ => ⟨hmL, rfl, qz_p0 Z h1 hp⟩)), fun P hP => ?_⟩
    · unfold wpX_step; refine qc_xtf _ c5 h1 ?_; refine ⟨vp_in_nI (by omega) (by decide), nm_r ((qc_rd p rfl (by omega)).trans (congrArg nI hp)) (br_t (nI_lt hx (by omega)) (nm_r (qc_m8 _) ⟨vp_in_nI (by omega) (by decide), nm_r ((qc_rr rfl (by omega)).trans ha) ⟨vp_in_nI (by omega) (by decide), nm_r ((qc_rr rfl (by omega)).trans hb) ⟨vp_in_nI (by omega) (by decide), nm_r ((qc_rr rfl (by omega))) ⟨vp_in_nI (by omega) (by decide), nm_r (qc_st rfl (nI_1 x) (by omega)) ⟨vp_in_nI (by omega) (by decide), nm_r ((qc_rr rfl (by omega)).trans ho) (br_f (by decide) (br_f (by decide) (br_f (by decide) (br_f (by decide) (br_f (by decide) (br_f (by decide) (br_f (by decide) (br_f (by decide) (br_f (by decide) (br_f (by decide) (br_f (by decide) (br_f (by decide) (br_f (by decide) (br_f (by decide) (br_t rfl ?_)))))))))))))))⟩⟩⟩⟩⟩))⟩
      unfold wpX_createCoroutine
      exact qc_xfr (lv := lv) _ m4 al (fun w => absurd w z) (fun w => br_t rfl hP)
end
end
section
def qz_M (mL cl : Nat) (oo : Nat → Int32) : Prop := mL < cl ∧ oo mL = 8 ∧ ∀ i, i < mL → oo i = 0 ∨ oo i = 1 ∨ oo i = 12 ∨ oo i = 13 ∨ oo i = 14 ∨ oo i = 16 ∨ oo i = 17
section
variable {mc md cl lc cu h B mp mL : Nat} {st rt lh rd re : Int32} {D : Nat → Prop} {oo oa ob oc lg rg tg : Nat → Int32} {hd d s lv rs bd yr p q n m : Nat → Nat} {c r t x a b : Nat} {l L : List Nat}
theorem qz_step (K : qc_K mc md cl lc h B oo oa ob oc lv bd) (I : qc_I mc md oo oa ob d s lv rs yr p q n m (c :: l)) (Z : qz_Z hd lv d p h mp mL D (c :: l)) (hB : B < 2147483647) (M : qz_M mL cl oo) :
    qz_Out mc cl oo oa ob oc B (qz_mp c mp) mL D (nI mc, nI md, nI cl, nI lc, 1, 0, nI c, nI h, 0, re, oo, oa, ob, oc, lg, (fun zz => nI (hd zz)), (fun zz => nI (s zz)), (fun zz => nI (rs zz)), (fun zz => nI (bd zz)), (fun zz => nI (d zz)), (fun zz => nI (p zz)), (fun zz => nI (n zz)), rg, tg) := by
  generalize hp : p (c * 6 + d c - 1) = x
  have hc : c = 0 → x = mp ∧ ((x < mL ∧ (oo x = 0 ∨ oo x = 1 ∨ oo x = 12 ∨ oo x = 13 ∨ oo x = 14 ∨ oo x = 16 ∨ oo x = 17)) ∨ (x = mL ∧ oo x = 8)) := by
    intro z
    obtain ⟨d1, p0, le⟩ := Z.2.2 (by simp)
    have e : (c * 6 + d c - 1) = 0 := by rw [z, d1]
    rw [e, p0] at hp
    refine ⟨hp.symm, ?_⟩
    by_cases w : x < mL
    · exact .inl ⟨w, M.2.2 x w⟩
    · have e2 : x = mL := by omega
      exact .inr ⟨e2, by rw [e2]; exact M.2.1⟩
  by_cases hx : x < cl
  · rcases K.2.2.2.2.2.1 x hx with ⟨ho, ⟨a, a8, ha⟩⟩ | ⟨ho, ⟨a, a8, ha⟩, ⟨b, b8, hb⟩⟩ | ⟨ho, ⟨a, a8, ha⟩, ⟨b, b8, hb⟩, ⟨g, g8, hg⟩⟩ | ⟨ho, ⟨a, a8, ha⟩⟩ | ⟨ho, ⟨a, a8, ha⟩, ⟨b, b6, hb⟩⟩ | ⟨ho, ⟨a, a8, ha⟩, ⟨b, b6, hb⟩, ⟨g, g8, hg⟩⟩
    · rcases ho with ho | ho | ho | ho | ho | ho
      · exact qc_o0 K I hp hx Z (fun z => by obtain ⟨e, w⟩ := hc z; rcases w with ⟨w, _⟩ | ⟨_, w⟩; exact (by omega); exact absurd (ho.symm.trans w) (by decide)) ho ha a8
      · exact qc_o8 K I hp hx Z ho ha a8
      · exact qc_o9 K I hp hx Z (fun z => by rcases (hc z).2 with ⟨_, w | w | w | w | w | w | w⟩ | ⟨_, w⟩ <;> exact absurd (ho.symm.trans w) (by decide)) ho ha a8
      · exact qc_o10 K I hp hx Z (fun z => by rcases (hc z).2 with ⟨_, w | w | w | w | w | w | w⟩ | ⟨_, w⟩ <;> exact absurd (ho.symm.trans w) (by decide)) ho ha a8
      · exact qc_o11 K I hp hx Z (fun z => by rcases (hc z).2 with ⟨_, w | w | w | w | w | w | w⟩ | ⟨_, w⟩ <;> exact absurd (ho.symm.trans w) (by decide)) ho ha a8
      · exact qc_o18 K I hp hx Z (fun z => by rcases (hc z).2 with ⟨_, w | w | w | w | w | w | w⟩ | ⟨_, w⟩ <;> exact absurd (ho.symm.trans w) (by decide)) ho ha a8
    · rcases ho with ho | ho | ho | ho
      · exact qc_o1 K I hp hx Z (fun z => by obtain ⟨e, w⟩ := hc z; rcases w with ⟨w, _⟩ | ⟨_, w⟩; exact (by omega); exact absurd (ho.symm.trans w) (by decide)) ho ha a8 hb b8
      · exact qc_o15 K I hp hx Z (fun z => by rcases (hc z).2 with ⟨_, w | w | w | w | w | w | w⟩ | ⟨_, w⟩ <;> exact absurd (ho.symm.trans w) (by decide)) ho ha a8 hb b8
      · exact qc_o16 K I hp hx Z (fun z => by obtain ⟨e, w⟩ := hc z; rcases w with ⟨w, _⟩ | ⟨_, w⟩; exact (by omega); exact absurd (ho.symm.trans w) (by decide)) ho ha a8 hb b8
      · exact qc_o17 K I hp hx Z (fun z => by obtain ⟨e, w⟩ := hc z; rcases w with ⟨w, _⟩ | ⟨_, w⟩; exact (by omega); exact absurd (ho.symm.trans w) (by decide)) ho ha a8 hb b8
    · rcases ho with ho | ho | ho | ho | ho
      · exact qc_o2 K I hp hx Z (fun z => by rcases (hc z).2 with ⟨_, w | w | w | w | w | w | w⟩ | ⟨_, w⟩ <;> exact absurd (ho.symm.trans w) (by decide)) ho ha a8 hb b8 hg g8
      · exact qc_o3 K I hp hx Z (fun z => by rcases (hc z).2 with ⟨_, w | w | w | w | w | w | w⟩ | ⟨_, w⟩ <;> exact absurd (ho.symm.trans w) (by decide)) ho ha a8 hb b8 hg g8
      · exact qc_o4 K I hp hx Z (fun z => by rcases (hc z).2 with ⟨_, w | w | w | w | w | w | w⟩ | ⟨_, w⟩ <;> exact absurd (ho.symm.trans w) (by decide)) ho ha a8 hb b8 hg g8
      · exact qc_o13 K I hp hx Z (fun z => by obtain ⟨e, w⟩ := hc z; rcases w with ⟨w, _⟩ | ⟨_, w⟩; exact (by omega); exact absurd (ho.symm.trans w) (by decide)) ho ha a8 hb b8 hg g8
      · exact qc_o14 K I hp hx Z (fun z => by obtain ⟨e, w⟩ := hc z; rcases w with ⟨w, _⟩ | ⟨_, w⟩; exact (by omega); exact absurd (ho.symm.trans w) (by decide)) ho ha a8 hb b8 hg g8
    · exact qc_o5 K I hp hx Z (fun z => by rcases (hc z).2 with ⟨_, w | w | w | w | w | w | w⟩ | ⟨_, w⟩ <;> exact absurd (ho.symm.trans w) (by decide)) ho ha a8
    · rcases ho with ho | ho
      · exact qc_o6 K I hp hx Z (fun z => by rcases (hc z).2 with ⟨_, w | w | w | w | w | w | w⟩ | ⟨_, w⟩ <;> exact absurd (ho.symm.trans w) (by decide)) ho ha a8 hb b6
      · exact qc_o12 K I hp hx Z (fun z => by obtain ⟨e, w⟩ := hc z; rcases w with ⟨w, _⟩ | ⟨_, w⟩; exact (by omega); exact absurd (ho.symm.trans w) (by decide)) hB ho ha a8 hb b6
    · exact qc_o7 K I hp hx Z (fun z => by rcases (hc z).2 with ⟨_, w | w | w | w | w | w | w⟩ | ⟨_, w⟩ <;> exact absurd (ho.symm.trans w) (by decide)) ho ha a8 hb b6 hg g8
  · have c0 : c ≠ 0 := fun z => by
      have h1 := hc z
      have h2 := M.1
      omega
    exact qc_bad K I hp (by omega) Z c0
theorem qz_run1 (K : qc_K mc md cl lc h B oo oa ob oc lv bd) (I : qc_I mc md oo oa ob d s lv rs yr p q n m (c :: l)) (Z : qz_Z hd lv d p h mp mL D (c :: l)) (hB : B < 2147483647) (M : qz_M mL cl oo) :
    ∃ u' : St2, qz_R mc cl oo oa ob oc (B + 1) (qz_mp c mp) mL D u' ∧ ∀ P : Int32 → St2 → Prop, P 1 u' → wpX_run P (nI mc, nI md, nI cl, nI lc, 1, 0, nI c, nI h, 0, re, oo, oa, ob, oc, lg, (fun zz => nI (hd zz)), (fun zz => nI (s zz)), (fun zz => nI (rs zz)), (fun zz => nI (bd zz)), (fun zz => nI (d zz)), (fun zz => nI (p zz)), (fun zz => nI (n zz)), rg, tg) 1 := by
  rcases qz_step (re := re) (lg := lg) (rg := rg) (tg := tg) K I Z hB M with ⟨u1, R1, X1⟩ | ⟨u1, c1, e1, Q1, X1⟩
  · refine ⟨u1, R1, fun P hP => ?_⟩
    obtain ⟨_, _, _, _, _, _, _, _, _, _, _, _, _, _, _, _, _, _, _, _, _, _, rfl, -⟩ := R1
    unfold wpX_run
    exact br_t (by decide) (br_t (by decide) ⟨2, br_f (by decide) (br_t rfl (X1 _ (br_t rfl (nm_r (e' := 1) rfl (br_t (by decide) hP)))))⟩)
  · obtain ⟨u2, R2, X2⟩ := qz_settle Q1
    refine ⟨u2, R2, fun P hP => ?_⟩
    obtain ⟨_, _, _, _, _, _, _, _, _, _, _, _, _, _, _, _, _, _, _, _, _, _, rfl, -⟩ := R2
    obtain ⟨_, _, _, _, _, _, _, _, _, _, _, _, _, _, _, _, _, _, rfl, -⟩ := Q1
    unfold wpX_run
    exact br_t (by decide) (br_t (by decide) ⟨2, br_f (by decide) (br_t rfl (X1 _ (br_f (by decide) (X2 _ (nm_r (e' := 1) rfl (br_t (by decide) hP))))))⟩)
end
end
section
theorem ts_bit {w : Int64} {s : UInt64} {j : Nat} (hj : j < 64) (hs : s.toNat = j) : ((w.toUInt64 >>> s).toInt64 &&& 1) = 0 ↔ w.toBitVec.getLsbD j = false := by
  have e : (w.toUInt64 >>> s).toInt64.toBitVec = w.toBitVec >>> j := by
    apply BitVec.eq_of_toNat_eq
    show (w.toUInt64 >>> s).toNat = _
    rw [UInt64.toNat_shiftRight, hs, Nat.mod_eq_of_lt hj, BitVec.toNat_ushiftRight]
    rfl
  rw [← Int64.toBitVec_inj, Int64.toBitVec_and, e]
  show w.toBitVec >>> j &&& 1#64 = 0#64 ↔ _
  constructor
  · intro h
    have t := congrArg (fun x => x.getLsbD 0) h
    simpa using t
  · intro h
    apply BitVec.eq_of_getLsbD_eq
    intro i hi
    cases i with
    | zero => simp [h]
    | succ i => simp
theorem wb_cu : ∀ k, k < 64 → ((nI k).toInt64.toUInt64 &&& Int64.toUInt64 63) = UInt64.ofNat k := by decide +kernel
theorem u_tn {n : Nat} (h : n < 2 ^ 64) : (UInt64.ofNat n).toNat = n := Nat.mod_eq_of_lt h
theorem qz_bit (w : Int64) {k : Nat} (hk : k < 64) : ((w.toUInt64 >>> ((nI k).toInt64.toUInt64 &&& Int64.toUInt64 63)).toInt64 &&& 1) = 0 ↔ w.toBitVec.getLsbD k = false := by
  rw [wb_cu k hk]
  exact ts_bit hk (u_tn (by omega))
theorem qz_sh : ∀ k, k < 64 → ((1 : Int64) <<< ((nI k).toInt64 &&& 63)).toBitVec = BitVec.twoPow 64 k := by decide +kernel
theorem qz_or (w : Int64) {k : Nat} (hk : k < 64) (j : Nat) : (w ||| ((1 : Int64) <<< ((nI k).toInt64 &&& 63))).toBitVec.getLsbD j = true → w.toBitVec.getLsbD j = true ∨ j = k := by
  rw [Int64.toBitVec_or, qz_sh k hk, BitVec.getLsbD_or, BitVec.getLsbD_twoPow]
  intro h
  simp at h
  rcases h with h | h
  · exact .inl (by simpa using h)
  · exact .inr (by omega)
theorem qz_b0 (w : Int64) : (w &&& 1) = 0 ↔ w.toBitVec.getLsbD 0 = false := by
  rw [← Int64.toBitVec_inj, Int64.toBitVec_and]
  show w.toBitVec &&& 1#64 = 0#64 ↔ _
  constructor
  · intro h
    have t := congrArg (fun x => x.getLsbD 0) h
    simpa using t
  · intro h
    apply BitVec.eq_of_getLsbD_eq
    intro i hi
    cases i with
    | zero =>
      rw [BitVec.getLsbD_eq_getElem (by decide)] at h
      simp [h]
    | succ i => simp
def qz_g (lv hd : Nat → Nat) (h : Nat) (w : Int64) : Prop :=
  w.toBitVec.getLsbD 0 = false ∧ ∀ j, 1 ≤ j → j ≤ 62 → w.toBitVec.getLsbD j = true → j ≤ h ∧ ∀ t, t ≠ 0 → t < 5 → lv t = 1 → hd t ≠ j
theorem qz_g_or {lv hd : Nat → Nat} {h : Nat} {w : Int64} {k : Nat} (g : qz_g lv hd h w) (k1 : 1 ≤ k) (k2 : k ≤ 62) (kh : k ≤ h) (no : ∀ t, t ≠ 0 → t < 5 → lv t = 1 → hd t ≠ k) : qz_g lv hd h (w ||| ((1 : Int64) <<< ((nI k).toInt64 &&& 63))) := by
  refine ⟨?_, fun j j1 j2 hj => ?_⟩
  · by_cases z : (w ||| ((1 : Int64) <<< ((nI k).toInt64 &&& 63))).toBitVec.getLsbD 0 = true
    · rcases qz_or w (by omega) 0 z with y | y
      · rw [g.1] at y; exact absurd y (by decide)
      · omega
    · exact Bool.eq_false_iff.mpr z
  · rcases qz_or w (by omega) j hj with y | y
    · exact g.2 j j1 j2 y
    · rw [y]; exact ⟨kh, no⟩
def qz_a (lv hd : Nat → Nat) (k t : Nat) : Nat := if lv t = 1 ∧ hd t ≤ k then 1 else 0
def qz_F (lv hd : Nat → Nat) (k : Nat) : Nat := qz_a lv hd k 1 + qz_a lv hd k 2 + qz_a lv hd k 3 + qz_a lv hd k 4
theorem qz_F0 {lv hd : Nat → Nat} (hz : ∀ t, t ≠ 0 → t < 5 → lv t = 1 → 1 ≤ hd t) : qz_F lv hd 0 = 0 := by
  have a : ∀ t, t ≠ 0 → t < 5 → qz_a lv hd 0 t = 0 := by
    intro t t0 t5
    exact if_neg (fun w => by have := hz t t0 t5 w.1; omega)
  unfold qz_F
  rw [a 1 (by omega) (by omega), a 2 (by omega) (by omega), a 3 (by omega) (by omega), a 4 (by omega) (by omega)]
theorem qz_a_s {lv hd : Nat → Nat} {k t : Nat} (h : lv t = 1 → hd t ≠ k + 1) : qz_a lv hd (k + 1) t = qz_a lv hd k t := by
  unfold qz_a
  by_cases z : lv t = 1 ∧ hd t ≤ k
  · rw [if_pos z, if_pos ⟨z.1, by omega⟩]
  · rw [if_neg z, if_neg (fun w => z ⟨w.1, by have := h w.1; omega⟩)]
theorem qz_a_t {lv hd : Nat → Nat} {k t : Nat} (h : lv t = 1) (e : hd t = k + 1) : qz_a lv hd (k + 1) t = qz_a lv hd k t + 1 := by
  unfold qz_a
  rw [if_pos ⟨h, by omega⟩, if_neg (by omega)]
theorem qz_Fn {lv hd : Nat → Nat} {k : Nat} (no : ∀ t, t ≠ 0 → t < 5 → lv t = 1 → hd t ≠ k + 1) : qz_F lv hd (k + 1) = qz_F lv hd k := by
  unfold qz_F
  rw [qz_a_s (no 1 (by omega) (by omega)), qz_a_s (no 2 (by omega) (by omega)), qz_a_s (no 3 (by omega) (by omega)), qz_a_s (no 4 (by omega) (by omega))]
theorem qz_Ft {lv hd : Nat → Nat} {k t : Nat} (t0 : t ≠ 0) (t5 : t < 5) (h : lv t = 1) (e : hd t = k + 1) (inj : ∀ t t', t ≠ 0 → t < 5 → t' ≠ 0 → t' < 5 → lv t = 1 → lv t' = 1 → hd t = hd t' → t = t') : qz_F lv hd (k + 1) = qz_F lv hd k + 1 := by
  have no : ∀ t', t' ≠ 0 → t' < 5 → t' ≠ t → lv t' = 1 → hd t' ≠ k + 1 := fun t' s0 s5 ne w z => ne (inj t' t s0 s5 t0 t5 w h (by omega))
  have c : t = 1 ∨ t = 2 ∨ t = 3 ∨ t = 4 := by omega
  unfold qz_F
  rcases c with rfl | rfl | rfl | rfl
  · rw [qz_a_t h e, qz_a_s (no 2 (by omega) (by omega) (by omega)), qz_a_s (no 3 (by omega) (by omega) (by omega)), qz_a_s (no 4 (by omega) (by omega) (by omega))]; omega
  · rw [qz_a_t h e, qz_a_s (no 1 (by omega) (by omega) (by omega)), qz_a_s (no 3 (by omega) (by omega) (by omega)), qz_a_s (no 4 (by omega) (by omega) (by omega))]; omega
  · rw [qz_a_t h e, qz_a_s (no 1 (by omega) (by omega) (by omega)), qz_a_s (no 2 (by omega) (by omega) (by omega)), qz_a_s (no 4 (by omega) (by omega) (by omega))]; omega
  · rw [qz_a_t h e, qz_a_s (no 1 (by omega) (by omega) (by omega)), qz_a_s (no 2 (by omega) (by omega) (by omega)), qz_a_s (no 3 (by omega) (by omega) (by omega))]; omega
theorem qz_Fe {lv hd : Nat → Nat} {h : Nat} (hl : ∀ t, t ≠ 0 → t < 5 → lv t ≤ 1) (hz : ∀ t, t ≠ 0 → t < 5 → lv t = 1 → hd t ≤ h) : qz_F lv hd h = qc_sm lv 4 1 := by
  have a : ∀ t, t ≠ 0 → t < 5 → qz_a lv hd h t = lv t := by
    intro t t0 t5
    unfold qz_a
    by_cases z : lv t = 1
    · rw [if_pos ⟨z, hz t t0 t5 z⟩, z]
    · rw [if_neg (fun w => z w.1)]; have := hl t t0 t5; omega
  show qz_a lv hd h 1 + qz_a lv hd h 2 + qz_a lv hd h 3 + qz_a lv hd h 4 = lv 1 + (lv 2 + (lv 3 + (lv 4 + 0)))
  rw [a 1 (by omega) (by omega), a 2 (by omega) (by omega), a 3 (by omega) (by omega), a 4 (by omega) (by omega)]
  omega
theorem qz_le {lv : Nat → Nat} {mc : Nat} (h1 : 1 ≤ mc) (h4 : mc ≤ 4) (hl : ∀ t, t ≠ 0 → t < 5 → lv t ≤ 1) (hz : ∀ t, mc < t → t < 5 → lv t = 0) : qc_sm lv 4 1 ≤ mc := by
  have a1 := hl 1 (by omega) (by omega)
  have a2 := hl 2 (by omega) (by omega)
  have a3 := hl 3 (by omega) (by omega)
  have a4 := hl 4 (by omega) (by omega)
  have z2 := hz 2
  have z3 := hz 3
  have z4 := hz 4
  show lv 1 + (lv 2 + (lv 3 + (lv 4 + 0))) ≤ mc
  omega
section
variable {mc md cl lc cu h B mp mL : Nat} {st rt lh rd re : Int32} {D : Nat → Prop} {oo oa ob oc lg rg tg : Nat → Int32} {hd d s lv rs bd yr p q n m : Nat → Nat} {c r t x a b : Nat} {l L : List Nat}
theorem qz_cs (al : ∀ t, t ≠ 0 → t < 5 → (s t = 3 ∧ lv t = 0) ∨ (s t < 3 ∧ lv t = 1)) (hz : ∀ t, t ≠ 0 → t < 5 → lv t = 1 → 1 ≤ hd t ∧ hd t ≤ h) (h3 : h ≤ 320) {j : Nat} (j1 : 1 ≤ j) (j3 : j ≤ 320) :
    (∃ t, t ≠ 0 ∧ t < 5 ∧ lv t = 1 ∧ hd t = j ∧ s t < 3 ∧ (∀ P : Int32 → Prop, P (nI (s t)) → wpX_coStatus P (nI mc, nI md, nI cl, nI lc, st, rt, nI cu, lh, rd, re, oo, oa, ob, oc, lg, (fun zz => nI (hd zz)), (fun zz => nI (s zz)), (fun zz => nI (rs zz)), (fun zz => nI (bd zz)), (fun zz => nI (d zz)), (fun zz => nI (p zz)), (fun zz => nI (n zz)), rg, tg) (nI j))) ∨
    ((∀ t, t ≠ 0 → t < 5 → lv t = 1 → hd t ≠ j) ∧ (∀ P : Int32 → Prop, P 3 → wpX_coStatus P (nI mc, nI md, nI cl, nI lc, st, rt, nI cu, lh, rd, re, oo, oa, ob, oc, lg, (fun zz => nI (hd zz)), (fun zz => nI (s zz)), (fun zz => nI (rs zz)), (fun zz => nI (bd zz)), (fun zz => nI (d zz)), (fun zz => nI (p zz)), (fun zz => nI (n zz)), rg, tg) (nI j)) ∧ (∀ P : Int32 → Prop, P 0 → wpX_getDepth P (nI mc, nI md, nI cl, nI lc, st, rt, nI cu, lh, rd, re, oo, oa, ob, oc, lg, (fun zz => nI (hd zz)), (fun zz => nI (s zz)), (fun zz => nI (rs zz)), (fun zz => nI (bd zz)), (fun zz => nI (d zz)), (fun zz => nI (p zz)), (fun zz => nI (n zz)), rg, tg) (nI j)) ∧ (∀ P : Int32 → Prop, P 0 → wpX_getPendingCleanups P (nI mc, nI md, nI cl, nI lc, st, rt, nI cu, lh, rd, re, oo, oa, ob, oc, lg, (fun zz => nI (hd zz)), (fun zz => nI (s zz)), (fun zz => nI (rs zz)), (fun zz => nI (bd zz)), (fun zz => nI (d zz)), (fun zz => nI (p zz)), (fun zz => nI (n zz)), rg, tg) (nI j)) ∧ (∀ (P : Int32 → Prop) (r : Int32), P 0 → wpX_getReg P (nI mc, nI md, nI cl, nI lc, st, rt, nI cu, lh, rd, re, oo, oa, ob, oc, lg, (fun zz => nI (hd zz)), (fun zz => nI (s zz)), (fun zz => nI (rs zz)), (fun zz => nI (bd zz)), (fun zz => nI (d zz)), (fun zz => nI (p zz)), (fun zz => nI (n zz)), rg, tg) (nI j) r)) := by
  rcases qz_thE (mc := mc) (md := md) (cl := cl) (lc := lc) (cu := cu) (st := st) (rt := rt) (lh := lh) (rd := rd) (re := re) (oo := oo) (oa := oa) (ob := ob) (oc := oc) (lg := lg) (rg := rg) (tg := tg) (hd := hd) (d := d) (rs := rs) (bd := bd) (p := p) (n := n) al (nI j) with ⟨t, t5, hg, hA, hE, hX⟩ | ⟨hg, hno, hX⟩
  · have t0 : t ≠ 0 := fun z => by have := hg.mp z; exact nI_ne0 (by omega) (by omega) this
    obtain ⟨a1, a2⟩ := hA t0
    have b := hz t t0 t5 a1
    refine .inl ⟨t, t0, t5, a1, (nI_eq (by omega) (by omega)).mp (hE t0), a2, fun P hP => ?_⟩
    unfold wpX_coStatus
    refine hX _ (br_f (qc_nm1 t5) ⟨vp_in_nI t5 (by decide), ?_⟩)
    rw [qc_rd s rfl (by omega)]
    exact hP
  · refine .inr ⟨fun t t0 t5 w e => hno t t0 t5 w (by rw [e]), fun P hP => ?_, fun P hP => ?_, fun P hP => ?_, fun P r hP => ?_⟩
    · unfold wpX_coStatus; exact hX _ (br_t rfl hP)
    · unfold wpX_getDepth; exact hX _ (br_t rfl hP)
    · unfold wpX_getPendingCleanups; exact hX _ (br_t rfl hP)
    · unfold wpX_getReg; exact hX _ (br_t rfl hP)
theorem qz_ct (P : Int64 → Prop) (w : Int64) (al : ∀ t, t ≠ 0 → t < 5 → (s t = 3 ∧ lv t = 0) ∨ (s t < 3 ∧ lv t = 1)) (hz : ∀ t, t ≠ 0 → t < 5 → lv t = 1 → 1 ≤ hd t ∧ hd t ≤ h) (h3 : h ≤ 320)
    (inj : ∀ t t', t ≠ 0 → t < 5 → t' ≠ 0 → t' < 5 → lv t = 1 → lv t' = 1 → hd t = hd t' → t = t') (m1 : 1 ≤ mc) (m4 : mc ≤ 4) (hm : ∀ t, mc < t → t < 5 → lv t = 0) (hP : P w) :
    ∀ k j, j + k = h → wL_check_141 P w (nI mc) (nI h) (nI mc) (nI md) (nI cl) (nI lc) st rt (nI cu) lh rd re oo oa ob oc lg (fun zz => nI (hd zz)) (fun zz => nI (s zz)) (fun zz => nI (rs zz)) (fun zz => nI (bd zz)) (fun zz => nI (d zz)) (fun zz => nI (p zz)) (fun zz => nI (n zz)) rg tg (k + 1) (nI (qz_F lv hd j)) (nI (j + 1)) := by
  have hl : ∀ t, t ≠ 0 → t < 5 → lv t ≤ 1 := fun t t0 t5 => by have := al t t0 t5; omega
  have F4 : ∀ k, qz_F lv hd k ≤ 4 := by
    intro k
    have a : ∀ t, qz_a lv hd k t ≤ 1 := by
      intro t
      unfold qz_a
      split <;> omega
    have a1 := a 1
    have a2 := a 2
    have a3 := a 3
    have a4 := a 4
    show qz_a lv hd k 1 + qz_a lv hd k 2 + qz_a lv hd k 3 + qz_a lv hd k 4 ≤ 4
    omega
  intro k
  induction k with
  | zero =>
    intro j hj
    have e : j = h := by omega
    subst e
    have fin : wL_check_175 P w (nI mc) (nI (qz_F lv hd j)) (nI mc) (nI md) (nI cl) (nI lc) st rt (nI cu) lh rd re oo oa ob oc lg (fun zz => nI (hd zz)) (fun zz => nI (s zz)) (fun zz => nI (rs zz)) (fun zz => nI (bd zz)) (fun zz => nI (d zz)) (fun zz => nI (p zz)) (fun zz => nI (n zz)) rg tg := by
      unfold wL_check_175
      refine qc_xlc _ al ?_
      rw [qz_Fe hl (fun t t0 t5 w => (hz t t0 t5 w).2)]
      exact br_t rfl (br_t (nI_le (qz_le m1 m4 hl hm) (by omega)) hP)
    by_cases z : 320 < j + 1
    · exact br_t (nI_lt (a := 320) z (by omega)) fin
    · exact br_f (nI_nlt (a := 320) (by omega) (by decide)) (br_t (nI_lt (by omega) (by omega)) fin)
  | succ k ih =>
    intro j hj
    refine br_f (nI_nlt (a := 320) (by omega) (by decide)) (br_f (nI_nlt (by omega) (by omega)) ?_)
    rcases qz_cs (mc := mc) (md := md) (cl := cl) (lc := lc) (cu := cu) (st := st) (rt := rt) (lh := lh) (rd := rd) (re := re) (oo := oo) (oa := oa) (ob := ob) (oc := oc) (lg := lg) (rg := rg) (tg := tg) (d := d) (rs := rs) (bd := bd) (p := p) (n := n) al hz h3 (j := j + 1) (by omega) (by omega) with ⟨t, t0, t5, a1, a2, a3, hX⟩ | ⟨no, hX, -⟩
    · have := F4 j
      refine hX _ (br_f (fun z => by have := (nI_eq (b := 3) (by omega) (by decide)).mp z; omega) (nm_r (nI_1 _) (nm_r (nI_1 _) ?_)))
      rw [← qz_Ft t0 t5 a1 a2 inj]
      exact ih (j + 1) (by omega)
    · refine hX _ (br_t rfl (nm_r (nI_1 _) ?_))
      rw [← qz_Fn no]
      exact ih (j + 1) (by omega)
theorem qz_rl (P : Int64 → Prop) (J : Int64 → Int32 → Prop) {x3 x4 : Int32} (w : Int64) {j : Nat} (hX : ∀ (P : Int32 → Prop) (r : Int32), P 0 → wpX_getReg P (nI mc, nI md, nI cl, nI lc, st, rt, nI cu, lh, rd, re, oo, oa, ob, oc, lg, (fun zz => nI (hd zz)), (fun zz => nI (s zz)), (fun zz => nI (rs zz)), (fun zz => nI (bd zz)), (fun zz => nI (d zz)), (fun zz => nI (p zz)), (fun zz => nI (n zz)), rg, tg) (nI j) r) (hJ : J w (nI (j + 1))) :
    ∀ k r, r + k = 8 → wL_check_101 P J w x3 x4 (nI j) (nI mc) (nI md) (nI cl) (nI lc) st rt (nI cu) lh rd re oo oa ob oc lg (fun zz => nI (hd zz)) (fun zz => nI (s zz)) (fun zz => nI (rs zz)) (fun zz => nI (bd zz)) (fun zz => nI (d zz)) (fun zz => nI (p zz)) (fun zz => nI (n zz)) rg tg (k + 1) (nI r) := by
  intro k
  induction k with
  | zero =>
    intro r hr
    exact br_t (nI_le (a := 8) (by omega) (by omega)) (nm_r (nI_1 _) hJ)
  | succ k ih =>
    intro r hr
    exact br_f (nI_ge (b := 8) (by omega) (by decide)) (hX _ _ (br_t rfl (nm_r (nI_1 _) (ih (r + 1) (by omega)))))
theorem qz_ck (P : Int64 → Prop) (al : ∀ t, t ≠ 0 → t < 5 → (s t = 3 ∧ lv t = 0) ∨ (s t < 3 ∧ lv t = 1)) (hz : ∀ t, t ≠ 0 → t < 5 → lv t = 1 → 1 ≤ hd t ∧ hd t ≤ h) (h3 : h ≤ 320)
    (inj : ∀ t t', t ≠ 0 → t < 5 → t' ≠ 0 → t' < 5 → lv t = 1 → lv t' = 1 → hd t = hd t' → t = t') (m1 : 1 ≤ mc) (m4 : mc ≤ 4) (hm : ∀ t, mc < t → t < 5 → lv t = 0) (H : ∀ w, qz_g lv hd h w → P w) :
    ∀ k j w, j + k = 63 → 1 ≤ j → qz_g lv hd h w → wL_check_9 P (nI mc) (nI h) (nI mc) (nI md) (nI cl) (nI lc) st rt (nI cu) lh rd re oo oa ob oc lg (fun zz => nI (hd zz)) (fun zz => nI (s zz)) (fun zz => nI (rs zz)) (fun zz => nI (bd zz)) (fun zz => nI (d zz)) (fun zz => nI (p zz)) (fun zz => nI (n zz)) rg tg (k + 1) w (nI j) := by
  intro k
  induction k with
  | zero =>
    intro j w hj j1 g
    have ct := qz_ct (mc := mc) (md := md) (cl := cl) (lc := lc) (cu := cu) (st := st) (rt := rt) (lh := lh) (rd := rd) (re := re) (oo := oo) (oa := oa) (ob := ob) (oc := oc) (lg := lg) (rg := rg) (tg := tg) (d := d) (rs := rs) (bd := bd) (p := p) (n := n) P w al hz h3 inj m1 m4 hm (H w g) h 0 (by omega)
    rw [qz_F0 (fun t t0 t5 w => (hz t t0 t5 w).1)] at ct
    exact br_t (nI_lt (a := 62) (by omega) (by omega)) ⟨_, ct⟩
  | succ k ih =>
    intro j w hj j1 g
    refine br_f (nI_nlt (a := 62) (by omega) (by decide)) ?_
    rcases qz_cs (mc := mc) (md := md) (cl := cl) (lc := lc) (cu := cu) (st := st) (rt := rt) (lh := lh) (rd := rd) (re := re) (oo := oo) (oa := oa) (ob := ob) (oc := oc) (lg := lg) (rg := rg) (tg := tg) (d := d) (rs := rs) (bd := bd) (p := p) (n := n) al hz h3 (j := j) (by omega) (by omega) with ⟨t, t0, t5, a1, a2, a3, hX⟩ | ⟨no, hX, hDp, hPc, hRg⟩
    · have bf : w.toBitVec.getLsbD j = false := by
        by_cases z : w.toBitVec.getLsbD j = true
        · exact absurd a2 ((g.2 j j1 (by omega) z).2 t t0 t5 a1)
        · simpa using z
      exact hX _ (br_t ((qz_bit w (by omega)).mpr bf) (br_f (fun z => by have := (nI_eq (b := 3) (by omega) (by decide)).mp z; omega) (br_t rfl (nm_r (nI_1 _) (ih (j + 1) w (by omega) (by omega) g)))))
    · have big : ∀ z0 : Int32, (h < j → z0 = 0) → wL_check_40 P (wL_check_9 P (nI mc) (nI h) (nI mc) (nI md) (nI cl) (nI lc) st rt (nI cu) lh rd re oo oa ob oc lg (fun zz => nI (hd zz)) (fun zz => nI (s zz)) (fun zz => nI (rs zz)) (fun zz => nI (bd zz)) (fun zz => nI (d zz)) (fun zz => nI (p zz)) (fun zz => nI (n zz)) rg tg (k + 1)) w (nI mc) (nI h) (nI j) 3 z0 (nI mc) (nI md) (nI cl) (nI lc) st rt (nI cu) lh rd re oo oa ob oc lg (fun zz => nI (hd zz)) (fun zz => nI (s zz)) (fun zz => nI (rs zz)) (fun zz => nI (bd zz)) (fun zz => nI (d zz)) (fun zz => nI (p zz)) (fun zz => nI (n zz)) rg tg := by
        intro z0 hz0
        refine br_t rfl ?_
        by_cases y : h < j
        · rw [hz0 y]
          exact br_t (nI_lt y (by omega)) (br_t rfl (nm_r (nI_1 _) (ih (j + 1) w (by omega) (by omega) g)))
        · refine br_f (nI_nlt (by omega) (by omega)) (nm_e (br_f (by decide) (br_t rfl (hDp _ (br_t rfl (hPc _ (br_t rfl ⟨9, qz_rl P _ _ hRg ?_ 8 0 rfl⟩)))))))
          exact ih (j + 1) _ (by omega) (by omega) (qz_g_or g j1 (by omega) (by omega) no)
      by_cases z : w.toBitVec.getLsbD j = true
      · exact hX _ (br_f (fun y => by rw [(qz_bit w (by omega)).mp y] at z; exact absurd z (by decide)) (big 1 (fun y => by have := (g.2 j j1 (by omega) z).1; omega)))
      · exact hX _ (br_t ((qz_bit w (by omega)).mpr (by simpa using z)) (big 0 (fun _ => rfl)))
theorem qz_check (P : Int64 → Prop) {w : Int64} (al : ∀ t, t ≠ 0 → t < 5 → (s t = 3 ∧ lv t = 0) ∨ (s t < 3 ∧ lv t = 1)) (hz : ∀ t, t ≠ 0 → t < 5 → lv t = 1 → 1 ≤ hd t ∧ hd t ≤ h) (h3 : h ≤ 320)
    (inj : ∀ t t', t ≠ 0 → t < 5 → t' ≠ 0 → t' < 5 → lv t = 1 → lv t' = 1 → hd t = hd t' → t = t') (m1 : 1 ≤ mc) (m4 : mc ≤ 4) (hm : ∀ t, mc < t → t < 5 → lv t = 0) (g : qz_g lv hd h w) (H : ∀ w, qz_g lv hd h w → P w) :
    wpL_check P (nI mc, nI md, nI cl, nI lc, st, rt, nI cu, nI h, rd, re, oo, oa, ob, oc, lg, (fun zz => nI (hd zz)), (fun zz => nI (s zz)), (fun zz => nI (rs zz)), (fun zz => nI (bd zz)), (fun zz => nI (d zz)), (fun zz => nI (p zz)), (fun zz => nI (n zz)), rg, tg) w (nI mc) := by
  unfold wpL_check
  exact ⟨63, qz_ck P al hz h3 inj m1 m4 hm H 62 1 w rfl (by omega) g⟩
end
end
section
theorem qc_isr (P : Int32 → Prop) (v : Int32) (h1 : qc_R8 v → P 1) (h0 : ¬ qc_R8 v → P 0) : wpX_isReg P () v := by
  rcases pk_ix v (n := 8) (by decide) with z | z | ⟨j, hj, rfl⟩
  · exact br_t z (h0 fun ⟨a, a8, e⟩ => absurd (e ▸ z) (nI_pos (by omega)))
  · refine br_f (fun w => absurd (Int32.lt_of_le_of_lt z w) (by decide)) (br_t z (h0 fun ⟨a, a8, e⟩ => ?_))
    rw [e] at z
    exact nI_ge a8 (by decide) z
  · exact br_f (nI_pos (by omega)) (br_f (nI_ge (b := 8) hj (by decide)) (h1 ⟨j, hj, rfl⟩))
theorem qc_isa (P : Int32 → Prop) (v : Int32) (h1 : qc_A6 v → P 1) (h0 : ¬ qc_A6 v → P 0) : wpX_isAddr P () v := by
  rcases pk_ix v (n := 64) (by decide) with z | z | ⟨j, hj, rfl⟩
  · exact br_t z (h0 fun ⟨a, a8, e⟩ => absurd (e ▸ z) (nI_pos (by omega)))
  · refine br_f (fun w => absurd (Int32.lt_of_le_of_lt z w) (by decide)) (br_t z (h0 fun ⟨a, a8, e⟩ => ?_))
    rw [e] at z
    exact nI_ge a8 (by decide) z
  · exact br_f (nI_pos (by omega)) (br_f (nI_ge (b := 64) hj (by decide)) (h1 ⟨j, hj, rfl⟩))
theorem qc_nr0 : narrow .boolean (.int 0) = .int 0 := by first | rfl | decide
theorem qc_nr1 : narrow .boolean (.int 1) = .int 1 := by first | rfl | decide
theorem qc_x92 (P : Int32 → Prop) (a : Int32) (h1 : qc_R8 a → P 1) (h0 : ¬ qc_R8 a → P 0) : wX_operandsFit_92 P a :=
  qc_isr _ _ (fun z => ⟨qc_nr1, h1 z⟩) (fun z => ⟨qc_nr0, h0 z⟩)
theorem qc_x97 (P : Int32 → Prop) (a b : Int32) (h1 : qc_R8 a ∧ qc_R8 b → P 1) (h0 : ¬ (qc_R8 a ∧ qc_R8 b) → P 0) : wX_operandsFit_97 P a b :=
  qc_isr _ _ (fun z => br_f (by decide) (qc_isr _ _ (fun y => br_f (by decide) (h1 ⟨z, y⟩)) (fun y => br_t rfl (h0 fun w => y w.2)))) (fun z => br_t rfl (h0 fun w => z w.1))
theorem qc_x117 (P : Int32 → Prop) (a b c : Int32) (h1 : qc_R8 a ∧ qc_R8 b ∧ qc_R8 c → P 1) (h0 : ¬ (qc_R8 a ∧ qc_R8 b ∧ qc_R8 c) → P 0) : wX_operandsFit_117 P a b c :=
  qc_isr _ _ (fun z => br_f (by decide) (qc_isr _ _ (fun y => br_f (by decide) (qc_isr _ _ (fun x => br_f (by decide) (h1 ⟨z, y, x⟩)) (fun x => br_t rfl (h0 fun w => x w.2.2)))) (fun y => br_t rfl (h0 fun w => y w.2.1)))) (fun z => br_t rfl (h0 fun w => z w.1))
theorem qc_x149 (P : Int32 → Prop) (a b : Int32) (h1 : qc_R8 a ∧ qc_A6 b → P 1) (h0 : ¬ (qc_R8 a ∧ qc_A6 b) → P 0) : wX_operandsFit_149 P a b :=
  qc_isr _ _ (fun z => br_f (by decide) (qc_isa _ _ (fun y => br_f (by decide) (h1 ⟨z, y⟩)) (fun y => br_t rfl (h0 fun w => y w.2)))) (fun z => br_t rfl (h0 fun w => z w.1))
theorem qc_F0 (a b c : Int32) : qc_Fit 0 a b c ↔ (qc_R8 a) := by
  simp only [qc_Fit, show ((0 : Int32) = 1) = False from eq_false (by decide), show ((0 : Int32) = 2) = False from eq_false (by decide), show ((0 : Int32) = 3) = False from eq_false (by decide), show ((0 : Int32) = 4) = False from eq_false (by decide), show ((0 : Int32) = 5) = False from eq_false (by decide), show ((0 : Int32) = 6) = False from eq_false (by decide), show ((0 : Int32) = 7) = False from eq_false (by decide), show ((0 : Int32) = 8) = False from eq_false (by decide), show ((0 : Int32) = 9) = False from eq_false (by decide), show ((0 : Int32) = 10) = False from eq_false (by decide), show ((0 : Int32) = 11) = False from eq_false (by decide), show ((0 : Int32) = 12) = False from eq_false (by decide), show ((0 : Int32) = 13) = False from eq_false (by decide), show ((0 : Int32) = 14) = False from eq_false (by decide), show ((0 : Int32) = 15) = False from eq_false (by decide), show ((0 : Int32) = 16) = False from eq_false (by decide), show ((0 : Int32) = 17) = False from eq_false (by decide), show ((0 : Int32) = 18) = False from eq_false (by decide), or_false, false_or, false_and, true_or, or_true, true_and]
theorem qc_F1 (a b c : Int32) : qc_Fit 1 a b c ↔ (qc_R8 a ∧ qc_R8 b) := by
  simp only [qc_Fit, show ((1 : Int32) = 0) = False from eq_false (by decide), show ((1 : Int32) = 2) = False from eq_false (by decide), show ((1 : Int32) = 3) = False from eq_false (by decide), show ((1 : Int32) = 4) = False from eq_false (by decide), show ((1 : Int32) = 5) = False from eq_false (by decide), show ((1 : Int32) = 6) = False from eq_false (by decide), show ((1 : Int32) = 7) = False from eq_false (by decide), show ((1 : Int32) = 8) = False from eq_false (by decide), show ((1 : Int32) = 9) = False from eq_false (by decide), show ((1 : Int32) = 10) = False from eq_false (by decide), show ((1 : Int32) = 11) = False from eq_false (by decide), show ((1 : Int32) = 12) = False from eq_false (by decide), show ((1 : Int32) = 13) = False from eq_false (by decide), show ((1 : Int32) = 14) = False from eq_false (by decide), show ((1 : Int32) = 15) = False from eq_false (by decide), show ((1 : Int32) = 16) = False from eq_false (by decide), show ((1 : Int32) = 17) = False from eq_false (by decide), show ((1 : Int32) = 18) = False from eq_false (by decide), or_false, false_or, false_and, true_or, or_true, true_and]
theorem qc_F2 (a b c : Int32) : qc_Fit 2 a b c ↔ (qc_R8 a ∧ qc_R8 b ∧ qc_R8 c) := by
  simp only [qc_Fit, show ((2 : Int32) = 0) = False from eq_false (by decide), show ((2 : Int32) = 1) = False from eq_false (by decide), show ((2 : Int32) = 3) = False from eq_false (by decide), show ((2 : Int32) = 4) = False from eq_false (by decide), show ((2 : Int32) = 5) = False from eq_false (by decide), show ((2 : Int32) = 6) = False from eq_false (by decide), show ((2 : Int32) = 7) = False from eq_false (by decide), show ((2 : Int32) = 8) = False from eq_false (by decide), show ((2 : Int32) = 9) = False from eq_false (by decide), show ((2 : Int32) = 10) = False from eq_false (by decide), show ((2 : Int32) = 11) = False from eq_false (by decide), show ((2 : Int32) = 12) = False from eq_false (by decide), show ((2 : Int32) = 13) = False from eq_false (by decide), show ((2 : Int32) = 14) = False from eq_false (by decide), show ((2 : Int32) = 15) = False from eq_false (by decide), show ((2 : Int32) = 16) = False from eq_false (by decide), show ((2 : Int32) = 17) = False from eq_false (by decide), show ((2 : Int32) = 18) = False from eq_false (by decide), or_false, false_or, false_and, true_or, or_true, true_and]
theorem qc_F3 (a b c : Int32) : qc_Fit 3 a b c ↔ (qc_R8 a ∧ qc_R8 b ∧ qc_R8 c) := by
  simp only [qc_Fit, show ((3 : Int32) = 0) = False from eq_false (by decide), show ((3 : Int32) = 1) = False from eq_false (by decide), show ((3 : Int32) = 2) = False from eq_false (by decide), show ((3 : Int32) = 4) = False from eq_false (by decide), show ((3 : Int32) = 5) = False from eq_false (by decide), show ((3 : Int32) = 6) = False from eq_false (by decide), show ((3 : Int32) = 7) = False from eq_false (by decide), show ((3 : Int32) = 8) = False from eq_false (by decide), show ((3 : Int32) = 9) = False from eq_false (by decide), show ((3 : Int32) = 10) = False from eq_false (by decide), show ((3 : Int32) = 11) = False from eq_false (by decide), show ((3 : Int32) = 12) = False from eq_false (by decide), show ((3 : Int32) = 13) = False from eq_false (by decide), show ((3 : Int32) = 14) = False from eq_false (by decide), show ((3 : Int32) = 15) = False from eq_false (by decide), show ((3 : Int32) = 16) = False from eq_false (by decide), show ((3 : Int32) = 17) = False from eq_false (by decide), show ((3 : Int32) = 18) = False from eq_false (by decide), or_false, false_or, false_and, true_or, or_true, true_and]
theorem qc_F4 (a b c : Int32) : qc_Fit 4 a b c ↔ (qc_R8 a ∧ qc_R8 b ∧ qc_R8 c) := by
  simp only [qc_Fit, show ((4 : Int32) = 0) = False from eq_false (by decide), show ((4 : Int32) = 1) = False from eq_false (by decide), show ((4 : Int32) = 2) = False from eq_false (by decide), show ((4 : Int32) = 3) = False from eq_false (by decide), show ((4 : Int32) = 5) = False from eq_false (by decide), show ((4 : Int32) = 6) = False from eq_false (by decide), show ((4 : Int32) = 7) = False from eq_false (by decide), show ((4 : Int32) = 8) = False from eq_false (by decide), show ((4 : Int32) = 9) = False from eq_false (by decide), show ((4 : Int32) = 10) = False from eq_false (by decide), show ((4 : Int32) = 11) = False from eq_false (by decide), show ((4 : Int32) = 12) = False from eq_false (by decide), show ((4 : Int32) = 13) = False from eq_false (by decide), show ((4 : Int32) = 14) = False from eq_false (by decide), show ((4 : Int32) = 15) = False from eq_false (by decide), show ((4 : Int32) = 16) = False from eq_false (by decide), show ((4 : Int32) = 17) = False from eq_false (by decide), show ((4 : Int32) = 18) = False from eq_false (by decide), or_false, false_or, false_and, true_or, or_true, true_and]
theorem qc_F5 (a b c : Int32) : qc_Fit 5 a b c ↔ (qc_A6 a) := by
  simp only [qc_Fit, show ((5 : Int32) = 0) = False from eq_false (by decide), show ((5 : Int32) = 1) = False from eq_false (by decide), show ((5 : Int32) = 2) = False from eq_false (by decide), show ((5 : Int32) = 3) = False from eq_false (by decide), show ((5 : Int32) = 4) = False from eq_false (by decide), show ((5 : Int32) = 6) = False from eq_false (by decide), show ((5 : Int32) = 7) = False from eq_false (by decide), show ((5 : Int32) = 8) = False from eq_false (by decide), show ((5 : Int32) = 9) = False from eq_false (by decide), show ((5 : Int32) = 10) = False from eq_false (by decide), show ((5 : Int32) = 11) = False from eq_false (by decide), show ((5 : Int32) = 12) = False from eq_false (by decide), show ((5 : Int32) = 13) = False from eq_false (by decide), show ((5 : Int32) = 14) = False from eq_false (by decide), show ((5 : Int32) = 15) = False from eq_false (by decide), show ((5 : Int32) = 16) = False from eq_false (by decide), show ((5 : Int32) = 17) = False from eq_false (by decide), show ((5 : Int32) = 18) = False from eq_false (by decide), or_false, false_or, false_and, true_or, or_true, true_and]
theorem qc_F6 (a b c : Int32) : qc_Fit 6 a b c ↔ (qc_R8 a ∧ qc_A6 b) := by
  simp only [qc_Fit, show ((6 : Int32) = 0) = False from eq_false (by decide), show ((6 : Int32) = 1) = False from eq_false (by decide), show ((6 : Int32) = 2) = False from eq_false (by decide), show ((6 : Int32) = 3) = False from eq_false (by decide), show ((6 : Int32) = 4) = False from eq_false (by decide), show ((6 : Int32) = 5) = False from eq_false (by decide), show ((6 : Int32) = 7) = False from eq_false (by decide), show ((6 : Int32) = 8) = False from eq_false (by decide), show ((6 : Int32) = 9) = False from eq_false (by decide), show ((6 : Int32) = 10) = False from eq_false (by decide), show ((6 : Int32) = 11) = False from eq_false (by decide), show ((6 : Int32) = 12) = False from eq_false (by decide), show ((6 : Int32) = 13) = False from eq_false (by decide), show ((6 : Int32) = 14) = False from eq_false (by decide), show ((6 : Int32) = 15) = False from eq_false (by decide), show ((6 : Int32) = 16) = False from eq_false (by decide), show ((6 : Int32) = 17) = False from eq_false (by decide), show ((6 : Int32) = 18) = False from eq_false (by decide), or_false, false_or, false_and, true_or, or_true, true_and]
theorem qc_F7 (a b c : Int32) : qc_Fit 7 a b c ↔ (qc_R8 a ∧ qc_A6 b ∧ qc_R8 c) := by
  simp only [qc_Fit, show ((7 : Int32) = 0) = False from eq_false (by decide), show ((7 : Int32) = 1) = False from eq_false (by decide), show ((7 : Int32) = 2) = False from eq_false (by decide), show ((7 : Int32) = 3) = False from eq_false (by decide), show ((7 : Int32) = 4) = False from eq_false (by decide), show ((7 : Int32) = 5) = False from eq_false (by decide), show ((7 : Int32) = 6) = False from eq_false (by decide), show ((7 : Int32) = 8) = False from eq_false (by decide), show ((7 : Int32) = 9) = False from eq_false (by decide), show ((7 : Int32) = 10) = False from eq_false (by decide), show ((7 : Int32) = 11) = False from eq_false (by decide), show ((7 : Int32) = 12) = False from eq_false (by decide), show ((7 : Int32) = 13) = False from eq_false (by decide), show ((7 : Int32) = 14) = False from eq_false (by decide), show ((7 : Int32) = 15) = False from eq_false (by decide), show ((7 : Int32) = 16) = False from eq_false (by decide), show ((7 : Int32) = 17) = False from eq_false (by decide), show ((7 : Int32) = 18) = False from eq_false (by decide), or_false, false_or, false_and, true_or, or_true, true_and]
theorem qc_F8 (a b c : Int32) : qc_Fit 8 a b c ↔ (qc_R8 a) := by
  simp only [qc_Fit, show ((8 : Int32) = 0) = False from eq_false (by decide), show ((8 : Int32) = 1) = False from eq_false (by decide), show ((8 : Int32) = 2) = False from eq_false (by decide), show ((8 : Int32) = 3) = False from eq_false (by decide), show ((8 : Int32) = 4) = False from eq_false (by decide), show ((8 : Int32) = 5) = False from eq_false (by decide), show ((8 : Int32) = 6) = False from eq_false (by decide), show ((8 : Int32) = 7) = False from eq_false (by decide), show ((8 : Int32) = 9) = False from eq_false (by decide), show ((8 : Int32) = 10) = False from eq_false (by decide), show ((8 : Int32) = 11) = False from eq_false (by decide), show ((8 : Int32) = 12) = False from eq_false (by decide), show ((8 : Int32) = 13) = False from eq_false (by decide), show ((8 : Int32) = 14) = False from eq_false (by decide), show ((8 : Int32) = 15) = False from eq_false (by decide), show ((8 : Int32) = 16) = False from eq_false (by decide), show ((8 : Int32) = 17) = False from eq_false (by decide), show ((8 : Int32) = 18) = False from eq_false (by decide), or_false, false_or, false_and, true_or, or_true, true_and]
theorem qc_F9 (a b c : Int32) : qc_Fit 9 a b c ↔ (qc_R8 a) := by
  simp only [qc_Fit, show ((9 : Int32) = 0) = False from eq_false (by decide), show ((9 : Int32) = 1) = False from eq_false (by decide), show ((9 : Int32) = 2) = False from eq_false (by decide), show ((9 : Int32) = 3) = False from eq_false (by decide), show ((9 : Int32) = 4) = False from eq_false (by decide), show ((9 : Int32) = 5) = False from eq_false (by decide), show ((9 : Int32) = 6) = False from eq_false (by decide), show ((9 : Int32) = 7) = False from eq_false (by decide), show ((9 : Int32) = 8) = False from eq_false (by decide), show ((9 : Int32) = 10) = False from eq_false (by decide), show ((9 : Int32) = 11) = False from eq_false (by decide), show ((9 : Int32) = 12) = False from eq_false (by decide), show ((9 : Int32) = 13) = False from eq_false (by decide), show ((9 : Int32) = 14) = False from eq_false (by decide), show ((9 : Int32) = 15) = False from eq_false (by decide), show ((9 : Int32) = 16) = False from eq_false (by decide), show ((9 : Int32) = 17) = False from eq_false (by decide), show ((9 : Int32) = 18) = False from eq_false (by decide), or_false, false_or, false_and, true_or, or_true, true_and]
theorem qc_F10 (a b c : Int32) : qc_Fit 10 a b c ↔ (qc_R8 a) := by
  simp only [qc_Fit, show ((10 : Int32) = 0) = False from eq_false (by decide), show ((10 : Int32) = 1) = False from eq_false (by decide), show ((10 : Int32) = 2) = False from eq_false (by decide), show ((10 : Int32) = 3) = False from eq_false (by decide), show ((10 : Int32) = 4) = False from eq_false (by decide), show ((10 : Int32) = 5) = False from eq_false (by decide), show ((10 : Int32) = 6) = False from eq_false (by decide), show ((10 : Int32) = 7) = False from eq_false (by decide), show ((10 : Int32) = 8) = False from eq_false (by decide), show ((10 : Int32) = 9) = False from eq_false (by decide), show ((10 : Int32) = 11) = False from eq_false (by decide), show ((10 : Int32) = 12) = False from eq_false (by decide), show ((10 : Int32) = 13) = False from eq_false (by decide), show ((10 : Int32) = 14) = False from eq_false (by decide), show ((10 : Int32) = 15) = False from eq_false (by decide), show ((10 : Int32) = 16) = False from eq_false (by decide), show ((10 : Int32) = 17) = False from eq_false (by decide), show ((10 : Int32) = 18) = False from eq_false (by decide), or_false, false_or, false_and, true_or, or_true, true_and]
theorem qc_F11 (a b c : Int32) : qc_Fit 11 a b c ↔ (qc_R8 a) := by
  simp only [qc_Fit, show ((11 : Int32) = 0) = False from eq_false (by decide), show ((11 : Int32) = 1) = False from eq_false (by decide), show ((11 : Int32) = 2) = False from eq_false (by decide), show ((11 : Int32) = 3) = False from eq_false (by decide), show ((11 : Int32) = 4) = False from eq_false (by decide), show ((11 : Int32) = 5) = False from eq_false (by decide), show ((11 : Int32) = 6) = False from eq_false (by decide), show ((11 : Int32) = 7) = False from eq_false (by decide), show ((11 : Int32) = 8) = False from eq_false (by decide), show ((11 : Int32) = 9) = False from eq_false (by decide), show ((11 : Int32) = 10) = False from eq_false (by decide), show ((11 : Int32) = 12) = False from eq_false (by decide), show ((11 : Int32) = 13) = False from eq_false (by decide), show ((11 : Int32) = 14) = False from eq_false (by decide), show ((11 : Int32) = 15) = False from eq_false (by decide), show ((11 : Int32) = 16) = False from eq_false (by decide), show ((11 : Int32) = 17) = False from eq_false (by decide), show ((11 : Int32) = 18) = False from eq_false (by decide), or_false, false_or, false_and, true_or, or_true, true_and]
theorem qc_F12 (a b c : Int32) : qc_Fit 12 a b c ↔ (qc_R8 a ∧ qc_A6 b) := by
  simp only [qc_Fit, show ((12 : Int32) = 0) = False from eq_false (by decide), show ((12 : Int32) = 1) = False from eq_false (by decide), show ((12 : Int32) = 2) = False from eq_false (by decide), show ((12 : Int32) = 3) = False from eq_false (by decide), show ((12 : Int32) = 4) = False from eq_false (by decide), show ((12 : Int32) = 5) = False from eq_false (by decide), show ((12 : Int32) = 6) = False from eq_false (by decide), show ((12 : Int32) = 7) = False from eq_false (by decide), show ((12 : Int32) = 8) = False from eq_false (by decide), show ((12 : Int32) = 9) = False from eq_false (by decide), show ((12 : Int32) = 10) = False from eq_false (by decide), show ((12 : Int32) = 11) = False from eq_false (by decide), show ((12 : Int32) = 13) = False from eq_false (by decide), show ((12 : Int32) = 14) = False from eq_false (by decide), show ((12 : Int32) = 15) = False from eq_false (by decide), show ((12 : Int32) = 16) = False from eq_false (by decide), show ((12 : Int32) = 17) = False from eq_false (by decide), show ((12 : Int32) = 18) = False from eq_false (by decide), or_false, false_or, false_and, true_or, or_true, true_and]
theorem qc_F13 (a b c : Int32) : qc_Fit 13 a b c ↔ (qc_R8 a ∧ qc_R8 b ∧ qc_R8 c) := by
  simp only [qc_Fit, show ((13 : Int32) = 0) = False from eq_false (by decide), show ((13 : Int32) = 1) = False from eq_false (by decide), show ((13 : Int32) = 2) = False from eq_false (by decide), show ((13 : Int32) = 3) = False from eq_false (by decide), show ((13 : Int32) = 4) = False from eq_false (by decide), show ((13 : Int32) = 5) = False from eq_false (by decide), show ((13 : Int32) = 6) = False from eq_false (by decide), show ((13 : Int32) = 7) = False from eq_false (by decide), show ((13 : Int32) = 8) = False from eq_false (by decide), show ((13 : Int32) = 9) = False from eq_false (by decide), show ((13 : Int32) = 10) = False from eq_false (by decide), show ((13 : Int32) = 11) = False from eq_false (by decide), show ((13 : Int32) = 12) = False from eq_false (by decide), show ((13 : Int32) = 14) = False from eq_false (by decide), show ((13 : Int32) = 15) = False from eq_false (by decide), show ((13 : Int32) = 16) = False from eq_false (by decide), show ((13 : Int32) = 17) = False from eq_false (by decide), show ((13 : Int32) = 18) = False from eq_false (by decide), or_false, false_or, false_and, true_or, or_true, true_and]
theorem qc_F14 (a b c : Int32) : qc_Fit 14 a b c ↔ (qc_R8 a ∧ qc_R8 b ∧ qc_R8 c) := by
  simp only [qc_Fit, show ((14 : Int32) = 0) = False from eq_false (by decide), show ((14 : Int32) = 1) = False from eq_false (by decide), show ((14 : Int32) = 2) = False from eq_false (by decide), show ((14 : Int32) = 3) = False from eq_false (by decide), show ((14 : Int32) = 4) = False from eq_false (by decide), show ((14 : Int32) = 5) = False from eq_false (by decide), show ((14 : Int32) = 6) = False from eq_false (by decide), show ((14 : Int32) = 7) = False from eq_false (by decide), show ((14 : Int32) = 8) = False from eq_false (by decide), show ((14 : Int32) = 9) = False from eq_false (by decide), show ((14 : Int32) = 10) = False from eq_false (by decide), show ((14 : Int32) = 11) = False from eq_false (by decide), show ((14 : Int32) = 12) = False from eq_false (by decide), show ((14 : Int32) = 13) = False from eq_false (by decide), show ((14 : Int32) = 15) = False from eq_false (by decide), show ((14 : Int32) = 16) = False from eq_false (by decide), show ((14 : Int32) = 17) = False from eq_false (by decide), show ((14 : Int32) = 18) = False from eq_false (by decide), or_false, false_or, false_and, true_or, or_true, true_and]
theorem qc_F15 (a b c : Int32) : qc_Fit 15 a b c ↔ (qc_R8 a ∧ qc_R8 b) := by
  simp only [qc_Fit, show ((15 : Int32) = 0) = False from eq_false (by decide), show ((15 : Int32) = 1) = False from eq_false (by decide), show ((15 : Int32) = 2) = False from eq_false (by decide), show ((15 : Int32) = 3) = False from eq_false (by decide), show ((15 : Int32) = 4) = False from eq_false (by decide), show ((15 : Int32) = 5) = False from eq_false (by decide), show ((15 : Int32) = 6) = False from eq_false (by decide), show ((15 : Int32) = 7) = False from eq_false (by decide), show ((15 : Int32) = 8) = False from eq_false (by decide), show ((15 : Int32) = 9) = False from eq_false (by decide), show ((15 : Int32) = 10) = False from eq_false (by decide), show ((15 : Int32) = 11) = False from eq_false (by decide), show ((15 : Int32) = 12) = False from eq_false (by decide), show ((15 : Int32) = 13) = False from eq_false (by decide), show ((15 : Int32) = 14) = False from eq_false (by decide), show ((15 : Int32) = 16) = False from eq_false (by decide), show ((15 : Int32) = 17) = False from eq_false (by decide), show ((15 : Int32) = 18) = False from eq_false (by decide), or_false, false_or, false_and, true_or, or_true, true_and]
theorem qc_F16 (a b c : Int32) : qc_Fit 16 a b c ↔ (qc_R8 a ∧ qc_R8 b) := by
  simp only [qc_Fit, show ((16 : Int32) = 0) = False from eq_false (by decide), show ((16 : Int32) = 1) = False from eq_false (by decide), show ((16 : Int32) = 2) = False from eq_false (by decide), show ((16 : Int32) = 3) = False from eq_false (by decide), show ((16 : Int32) = 4) = False from eq_false (by decide), show ((16 : Int32) = 5) = False from eq_false (by decide), show ((16 : Int32) = 6) = False from eq_false (by decide), show ((16 : Int32) = 7) = False from eq_false (by decide), show ((16 : Int32) = 8) = False from eq_false (by decide), show ((16 : Int32) = 9) = False from eq_false (by decide), show ((16 : Int32) = 10) = False from eq_false (by decide), show ((16 : Int32) = 11) = False from eq_false (by decide), show ((16 : Int32) = 12) = False from eq_false (by decide), show ((16 : Int32) = 13) = False from eq_false (by decide), show ((16 : Int32) = 14) = False from eq_false (by decide), show ((16 : Int32) = 15) = False from eq_false (by decide), show ((16 : Int32) = 17) = False from eq_false (by decide), show ((16 : Int32) = 18) = False from eq_false (by decide), or_false, false_or, false_and, true_or, or_true, true_and]
theorem qc_F17 (a b c : Int32) : qc_Fit 17 a b c ↔ (qc_R8 a ∧ qc_R8 b) := by
  simp only [qc_Fit, show ((17 : Int32) = 0) = False from eq_false (by decide), show ((17 : Int32) = 1) = False from eq_false (by decide), show ((17 : Int32) = 2) = False from eq_false (by decide), show ((17 : Int32) = 3) = False from eq_false (by decide), show ((17 : Int32) = 4) = False from eq_false (by decide), show ((17 : Int32) = 5) = False from eq_false (by decide), show ((17 : Int32) = 6) = False from eq_false (by decide), show ((17 : Int32) = 7) = False from eq_false (by decide), show ((17 : Int32) = 8) = False from eq_false (by decide), show ((17 : Int32) = 9) = False from eq_false (by decide), show ((17 : Int32) = 10) = False from eq_false (by decide), show ((17 : Int32) = 11) = False from eq_false (by decide), show ((17 : Int32) = 12) = False from eq_false (by decide), show ((17 : Int32) = 13) = False from eq_false (by decide), show ((17 : Int32) = 14) = False from eq_false (by decide), show ((17 : Int32) = 15) = False from eq_false (by decide), show ((17 : Int32) = 16) = False from eq_false (by decide), show ((17 : Int32) = 18) = False from eq_false (by decide), or_false, false_or, false_and, true_or, or_true, true_and]
theorem qc_F18 (a b c : Int32) : qc_Fit 18 a b c ↔ (qc_R8 a) := by
  simp only [qc_Fit, show ((18 : Int32) = 0) = False from eq_false (by decide), show ((18 : Int32) = 1) = False from eq_false (by decide), show ((18 : Int32) = 2) = False from eq_false (by decide), show ((18 : Int32) = 3) = False from eq_false (by decide), show ((18 : Int32) = 4) = False from eq_false (by decide), show ((18 : Int32) = 5) = False from eq_false (by decide), show ((18 : Int32) = 6) = False from eq_false (by decide), show ((18 : Int32) = 7) = False from eq_false (by decide), show ((18 : Int32) = 8) = False from eq_false (by decide), show ((18 : Int32) = 9) = False from eq_false (by decide), show ((18 : Int32) = 10) = False from eq_false (by decide), show ((18 : Int32) = 11) = False from eq_false (by decide), show ((18 : Int32) = 12) = False from eq_false (by decide), show ((18 : Int32) = 13) = False from eq_false (by decide), show ((18 : Int32) = 14) = False from eq_false (by decide), show ((18 : Int32) = 15) = False from eq_false (by decide), show ((18 : Int32) = 16) = False from eq_false (by decide), show ((18 : Int32) = 17) = False from eq_false (by decide), or_false, false_or, false_and, true_or, or_true, true_and]
theorem qc_xf0 (P : Int32 → Prop) (a b c : Int32) (h1 : qc_Fit 0 a b c → P 1) (h0 : ¬ qc_Fit 0 a b c → P 0) : wpX_operandsFit P () 0 a b c :=
  br_f (by decide) (br_f (by decide) (br_t rfl (qc_x92 P a (fun z => h1 ((qc_F0 a b c).mpr z)) (fun z => h0 (fun w => z ((qc_F0 a b c).mp w))))))
theorem qc_xf1 (P : Int32 → Prop) (a b c : Int32) (h1 : qc_Fit 1 a b c → P 1) (h0 : ¬ qc_Fit 1 a b c → P 0) : wpX_operandsFit P () 1 a b c :=
  br_f (by decide) (br_f (by decide) (br_f (by decide) (br_t rfl (qc_x97 P a b (fun z => h1 ((qc_F1 a b c).mpr z)) (fun z => h0 (fun w => z ((qc_F1 a b c).mp w)))))))
theorem qc_xf2 (P : Int32 → Prop) (a b c : Int32) (h1 : qc_Fit 2 a b c → P 1) (h0 : ¬ qc_Fit 2 a b c → P 0) : wpX_operandsFit P () 2 a b c :=
  br_f (by decide) (br_f (by decide) (br_f (by decide) (br_f (by decide) (br_t rfl (qc_x117 P a b c (fun z => h1 ((qc_F2 a b c).mpr z)) (fun z => h0 (fun w => z ((qc_F2 a b c).mp w))))))))
theorem qc_xf3 (P : Int32 → Prop) (a b c : Int32) (h1 : qc_Fit 3 a b c → P 1) (h0 : ¬ qc_Fit 3 a b c → P 0) : wpX_operandsFit P () 3 a b c :=
  br_f (by decide) (br_f (by decide) (br_f (by decide) (br_f (by decide) (br_f (by decide) (br_t rfl (qc_x117 P a b c (fun z => h1 ((qc_F3 a b c).mpr z)) (fun z => h0 (fun w => z ((qc_F3 a b c).mp w)))))))))
theorem qc_xf4 (P : Int32 → Prop) (a b c : Int32) (h1 : qc_Fit 4 a b c → P 1) (h0 : ¬ qc_Fit 4 a b c → P 0) : wpX_operandsFit P () 4 a b c :=
  br_f (by decide) (br_f (by decide) (br_f (by decide) (br_f (by decide) (br_f (by decide) (br_f (by decide) (br_t rfl (qc_x117 P a b c (fun z => h1 ((qc_F4 a b c).mpr z)) (fun z => h0 (fun w => z ((qc_F4 a b c).mp w))))))))))
theorem qc_xf5 (P : Int32 → Prop) (a b c : Int32) (h1 : qc_Fit 5 a b c → P 1) (h0 : ¬ qc_Fit 5 a b c → P 0) : wpX_operandsFit P () 5 a b c :=
  br_f (by decide) (br_f (by decide) (br_f (by decide) (br_f (by decide) (br_f (by decide) (br_f (by decide) (br_f (by decide) (br_t rfl (qc_isa _ _ (fun z => ⟨qc_nr1, h1 ((qc_F5 a b c).mpr z)⟩) (fun z => ⟨qc_nr0, h0 (fun w => z ((qc_F5 a b c).mp w))⟩)))))))))
theorem qc_xf6 (P : Int32 → Prop) (a b c : Int32) (h1 : qc_Fit 6 a b c → P 1) (h0 : ¬ qc_Fit 6 a b c → P 0) : wpX_operandsFit P () 6 a b c :=
  br_f (by decide) (br_f (by decide) (br_f (by decide) (br_f (by decide) (br_f (by decide) (br_f (by decide) (br_f (by decide) (br_f (by decide) (br_t rfl (qc_x149 P a b (fun z => h1 ((qc_F6 a b c).mpr z)) (fun z => h0 (fun w => z ((qc_F6 a b c).mp w))))))))))))
theorem qc_xf7 (P : Int32 → Prop) (a b c : Int32) (h1 : qc_Fit 7 a b c → P 1) (h0 : ¬ qc_Fit 7 a b c → P 0) : wpX_operandsFit P () 7 a b c :=
  br_f (by decide) (br_f (by decide) (br_f (by decide) (br_f (by decide) (br_f (by decide) (br_f (by decide) (br_f (by decide) (br_f (by decide) (br_f (by decide) (br_t rfl (qc_isr _ _ (fun z => br_f (by decide) (qc_isa _ _ (fun y => br_f (by decide) (qc_isr _ _ (fun x => br_f (by decide) (h1 ((qc_F7 a b c).mpr ⟨z, y, x⟩))) (fun x => br_t rfl (h0 fun w => x ((qc_F7 a b c).mp w).2.2)))) (fun y => br_t rfl (h0 fun w => y ((qc_F7 a b c).mp w).2.1)))) (fun z => br_t rfl (h0 fun w => z ((qc_F7 a b c).mp w).1))))))))))))
theorem qc_xf8 (P : Int32 → Prop) (a b c : Int32) (h1 : qc_Fit 8 a b c → P 1) (h0 : ¬ qc_Fit 8 a b c → P 0) : wpX_operandsFit P () 8 a b c :=
  br_f (by decide) (br_f (by decide) (br_f (by decide) (br_f (by decide) (br_f (by decide) (br_f (by decide) (br_f (by decide) (br_f (by decide) (br_f (by decide) (br_f (by decide) (br_t rfl (qc_x92 P a (fun z => h1 ((qc_F8 a b c).mpr z)) (fun z => h0 (fun w => z ((qc_F8 a b c).mp w))))))))))))))
theorem qc_xf9 (P : Int32 → Prop) (a b c : Int32) (h1 : qc_Fit 9 a b c → P 1) (h0 : ¬ qc_Fit 9 a b c → P 0) : wpX_operandsFit P () 9 a b c :=
  br_f (by decide) (br_f (by decide) (br_f (by decide) (br_f (by decide) (br_f (by decide) (br_f (by decide) (br_f (by decide) (br_f (by decide) (br_f (by decide) (br_f (by decide) (br_f (by decide) (br_t rfl (qc_x92 P a (fun z => h1 ((qc_F9 a b c).mpr z)) (fun z => h0 (fun w => z ((qc_F9 a b c).mp w)))))))))))))))
theorem qc_xf10 (P : Int32 → Prop) (a b c : Int32) (h1 : qc_Fit 10 a b c → P 1) (h0 : ¬ qc_Fit 10 a b c → P 0) : wpX_operandsFit P () 10 a b c :=
  br_f (by decide) (br_f (by decide) (br_f (by decide) (br_f (by decide) (br_f (by decide) (br_f (by decide) (br_f (by decide) (br_f (by decide) (br_f (by decide) (br_f (by decide) (br_f (by decide) (br_f (by decide) (br_t rfl (qc_x92 P a (fun z => h1 ((qc_F10 a b c).mpr z)) (fun z => h0 (fun w => z ((qc_F10 a b c).mp w))))))))))))))))
theorem qc_xf11 (P : Int32 → Prop) (a b c : Int32) (h1 : qc_Fit 11 a b c → P 1) (h0 : ¬ qc_Fit 11 a b c → P 0) : wpX_operandsFit P () 11 a b c :=
  br_f (by decide) (br_f (by decide) (br_f (by decide) (br_f (by decide) (br_f (by decide) (br_f (by decide) (br_f (by decide) (br_f (by decide) (br_f (by decide) (br_f (by decide) (br_f (by decide) (br_f (by decide) (br_f (by decide) (br_t rfl (qc_x92 P a (fun z => h1 ((qc_F11 a b c).mpr z)) (fun z => h0 (fun w => z ((qc_F11 a b c).mp w)))))))))))))))))
theorem qc_xf12 (P : Int32 → Prop) (a b c : Int32) (h1 : qc_Fit 12 a b c → P 1) (h0 : ¬ qc_Fit 12 a b c → P 0) : wpX_operandsFit P () 12 a b c :=
  br_f (by decide) (br_f (by decide) (br_f (by decide) (br_f (by decide) (br_f (by decide) (br_f (by decide) (br_f (by decide) (br_f (by decide) (br_f (by decide) (br_f (by decide) (br_f (by decide) (br_f (by decide) (br_f (by decide) (br_f (by decide) (br_t rfl (qc_x149 P a b (fun z => h1 ((qc_F12 a b c).mpr z)) (fun z => h0 (fun w => z ((qc_F12 a b c).mp w))))))))))))))))))
theorem qc_xf13 (P : Int32 → Prop) (a b c : Int32) (h1 : qc_Fit 13 a b c → P 1) (h0 : ¬ qc_Fit 13 a b c → P 0) : wpX_operandsFit P () 13 a b c :=
  br_f (by decide) (br_f (by decide) (br_f (by decide) (br_f (by decide) (br_f (by decide) (br_f (by decide) (br_f (by decide) (br_f (by decide) (br_f (by decide) (br_f (by decide) (br_f (by decide) (br_f (by decide) (br_f (by decide) (br_f (by decide) (br_f (by decide) (br_t rfl (qc_x117 P a b c (fun z => h1 ((qc_F13 a b c).mpr z)) (fun z => h0 (fun w => z ((qc_F13 a b c).mp w)))))))))))))))))))
theorem qc_xf14 (P : Int32 → Prop) (a b c : Int32) (h1 : qc_Fit 14 a b c → P 1) (h0 : ¬ qc_Fit 14 a b c → P 0) : wpX_operandsFit P () 14 a b c :=
  br_f (by decide) (br_f (by decide) (br_f (by decide) (br_f (by decide) (br_f (by decide) (br_f (by decide) (br_f (by decide) (br_f (by decide) (br_f (by decide) (br_f (by decide) (br_f (by decide) (br_f (by decide) (br_f (by decide) (br_f (by decide) (br_f (by decide) (br_f (by decide) (br_t rfl (qc_x117 P a b c (fun z => h1 ((qc_F14 a b c).mpr z)) (fun z => h0 (fun w => z ((qc_F14 a b c).mp w))))))))))))))))))))
theorem qc_xf15 (P : Int32 → Prop) (a b c : Int32) (h1 : qc_Fit 15 a b c → P 1) (h0 : ¬ qc_Fit 15 a b c → P 0) : wpX_operandsFit P () 15 a b c :=
  br_f (by decide) (br_f (by decide) (br_f (by decide) (br_f (by decide) (br_f (by decide) (br_f (by decide) (br_f (by decide) (br_f (by decide) (br_f (by decide) (br_f (by decide) (br_f (by decide) (br_f (by decide) (br_f (by decide) (br_f (by decide) (br_f (by decide) (br_f (by decide) (br_f (by decide) (br_t rfl (qc_x97 P a b (fun z => h1 ((qc_F15 a b c).mpr z)) (fun z => h0 (fun w => z ((qc_F15 a b c).mp w)))))))))))))))))))))
theorem qc_xf16 (P : Int32 → Prop) (a b c : Int32) (h1 : qc_Fit 16 a b c → P 1) (h0 : ¬ qc_Fit 16 a b c → P 0) : wpX_operandsFit P () 16 a b c :=
  br_f (by decide) (br_f (by decide) (br_f (by decide) (br_f (by decide) (br_f (by decide) (br_f (by decide) (br_f (by decide) (br_f (by decide) (br_f (by decide) (br_f (by decide) (br_f (by decide) (br_f (by decide) (br_f (by decide) (br_f (by decide) (br_f (by decide) (br_f (by decide) (br_f (by decide) (br_f (by decide) (br_t rfl (qc_x97 P a b (fun z => h1 ((qc_F16 a b c).mpr z)) (fun z => h0 (fun w => z ((qc_F16 a b c).mp w))))))))))))))))))))))
theorem qc_xf17 (P : Int32 → Prop) (a b c : Int32) (h1 : qc_Fit 17 a b c → P 1) (h0 : ¬ qc_Fit 17 a b c → P 0) : wpX_operandsFit P () 17 a b c :=
  br_f (by decide) (br_f (by decide) (br_f (by decide) (br_f (by decide) (br_f (by decide) (br_f (by decide) (br_f (by decide) (br_f (by decide) (br_f (by decide) (br_f (by decide) (br_f (by decide) (br_f (by decide) (br_f (by decide) (br_f (by decide) (br_f (by decide) (br_f (by decide) (br_f (by decide) (br_f (by decide) (br_f (by decide) (br_t rfl (qc_x97 P a b (fun z => h1 ((qc_F17 a b c).mpr z)) (fun z => h0 (fun w => z ((qc_F17 a b c).mp w)))))))))))))))))))))))
theorem qc_xf18 (P : Int32 → Prop) (a b c : Int32) (h1 : qc_Fit 18 a b c → P 1) (h0 : ¬ qc_Fit 18 a b c → P 0) : wpX_operandsFit P () 18 a b c :=
  br_f (by decide) (br_f (by decide) (br_f (by decide) (br_f (by decide) (br_f (by decide) (br_f (by decide) (br_f (by decide) (br_f (by decide) (br_f (by decide) (br_f (by decide) (br_f (by decide) (br_f (by decide) (br_f (by decide) (br_f (by decide) (br_f (by decide) (br_f (by decide) (br_f (by decide) (br_f (by decide) (br_f (by decide) (br_f (by decide) (br_t rfl (qc_x92 P a (fun z => h1 ((qc_F18 a b c).mpr z)) (fun z => h0 (fun w => z ((qc_F18 a b c).mp w))))))))))))))))))))))))
theorem qc_op (o : Int32) : o < 0 ∨ 18 < o ∨ o = 0 ∨ o = 1 ∨ o = 2 ∨ o = 3 ∨ o = 4 ∨ o = 5 ∨ o = 6 ∨ o = 7 ∨ o = 8 ∨ o = 9 ∨ o = 10 ∨ o = 11 ∨ o = 12 ∨ o = 13 ∨ o = 14 ∨ o = 15 ∨ o = 16 ∨ o = 17 ∨ o = 18 := by
  rcases pk_ix o (n := 19) (by decide) with z | z | ⟨j, hj, rfl⟩
  · exact .inl z
  · exact .inr (.inl (Int32.lt_of_lt_of_le (by decide) z))
  · right; right
    have e : j = 0 ∨ j = 1 ∨ j = 2 ∨ j = 3 ∨ j = 4 ∨ j = 5 ∨ j = 6 ∨ j = 7 ∨ j = 8 ∨ j = 9 ∨ j = 10 ∨ j = 11 ∨ j = 12 ∨ j = 13 ∨ j = 14 ∨ j = 15 ∨ j = 16 ∨ j = 17 ∨ j = 18 := by omega
    rcases e with rfl | rfl | rfl | rfl | rfl | rfl | rfl | rfl | rfl | rfl | rfl | rfl | rfl | rfl | rfl | rfl | rfl | rfl | rfl
    · exact .inl rfl
    · exact .inr (.inl rfl)
    · exact .inr (.inr (.inl rfl))
    · exact .inr (.inr (.inr (.inl rfl)))
    · exact .inr (.inr (.inr (.inr (.inl rfl))))
    · exact .inr (.inr (.inr (.inr (.inr (.inl rfl)))))
    · exact .inr (.inr (.inr (.inr (.inr (.inr (.inl rfl))))))
    · exact .inr (.inr (.inr (.inr (.inr (.inr (.inr (.inl rfl)))))))
    · exact .inr (.inr (.inr (.inr (.inr (.inr (.inr (.inr (.inl rfl))))))))
    · exact .inr (.inr (.inr (.inr (.inr (.inr (.inr (.inr (.inr (.inl rfl)))))))))
    · exact .inr (.inr (.inr (.inr (.inr (.inr (.inr (.inr (.inr (.inr (.inl rfl))))))))))
    · exact .inr (.inr (.inr (.inr (.inr (.inr (.inr (.inr (.inr (.inr (.inr (.inl rfl)))))))))))
    · exact .inr (.inr (.inr (.inr (.inr (.inr (.inr (.inr (.inr (.inr (.inr (.inr (.inl rfl))))))))))))
    · exact .inr (.inr (.inr (.inr (.inr (.inr (.inr (.inr (.inr (.inr (.inr (.inr (.inr (.inl rfl)))))))))))))
    · exact .inr (.inr (.inr (.inr (.inr (.inr (.inr (.inr (.inr (.inr (.inr (.inr (.inr (.inr (.inl rfl))))))))))))))
    · exact .inr (.inr (.inr (.inr (.inr (.inr (.inr (.inr (.inr (.inr (.inr (.inr (.inr (.inr (.inr (.inl rfl)))))))))))))))
    · exact .inr (.inr (.inr (.inr (.inr (.inr (.inr (.inr (.inr (.inr (.inr (.inr (.inr (.inr (.inr (.inr (.inl rfl))))))))))))))))
    · exact .inr (.inr (.inr (.inr (.inr (.inr (.inr (.inr (.inr (.inr (.inr (.inr (.inr (.inr (.inr (.inr (.inr (.inl rfl)))))))))))))))))
    · exact .inr (.inr (.inr (.inr (.inr (.inr (.inr (.inr (.inr (.inr (.inr (.inr (.inr (.inr (.inr (.inr (.inr (.inr (rfl))))))))))))))))))
theorem qc_Fno {o a b c : Int32} (h : qc_Fit o a b c) : ¬ o < 0 ∧ ¬ 18 < o := by
  unfold qc_Fit at h
  rcases h with ⟨h, -⟩ | ⟨h, -⟩ | ⟨h, -⟩ | ⟨h, -⟩ | ⟨h, -⟩ | ⟨h, -⟩
  · rcases h with rfl | rfl | rfl | rfl | rfl | rfl <;> decide
  · rcases h with rfl | rfl | rfl | rfl <;> decide
  · rcases h with rfl | rfl | rfl | rfl | rfl <;> decide
  · rw [h]; decide
  · rcases h with rfl | rfl <;> decide
  · rw [h]; decide
theorem qc_xof (P : Int32 → Prop) (o a b c : Int32) (h1 : qc_Fit o a b c → P 1) (h0 : ¬ qc_Fit o a b c → P 0) : wpX_operandsFit P () o a b c := by
  rcases qc_op o with z | z | rfl | rfl | rfl | rfl | rfl | rfl | rfl | rfl | rfl | rfl | rfl | rfl | rfl | rfl | rfl | rfl | rfl | rfl | rfl
  · exact br_t z (h0 fun w => (qc_Fno w).1 z)
  · exact br_f (fun y => absurd (Int32.lt_trans z y) (by decide)) (br_t z (h0 fun w => (qc_Fno w).2 z))
  · exact qc_xf0 P a b c h1 h0
  · exact qc_xf1 P a b c h1 h0
  · exact qc_xf2 P a b c h1 h0
  · exact qc_xf3 P a b c h1 h0
  · exact qc_xf4 P a b c h1 h0
  · exact qc_xf5 P a b c h1 h0
  · exact qc_xf6 P a b c h1 h0
  · exact qc_xf7 P a b c h1 h0
  · exact qc_xf8 P a b c h1 h0
  · exact qc_xf9 P a b c h1 h0
  · exact qc_xf10 P a b c h1 h0
  · exact qc_xf11 P a b c h1 h0
  · exact qc_xf12 P a b c h1 h0
  · exact qc_xf13 P a b c h1 h0
  · exact qc_xf14 P a b c h1 h0
  · exact qc_xf15 P a b c h1 h0
  · exact qc_xf16 P a b c h1 h0
  · exact qc_xf17 P a b c h1 h0
  · exact qc_xf18 P a b c h1 h0
section
variable {mc md cl lc cu h B mp mL : Nat} {st rt lh rd re : Int32} {D : Nat → Prop} {oo oa ob oc lg rg tg : Nat → Int32} {hd d s lv rs bd yr p q n m : Nat → Nat} {c r t x a b : Nat} {l L : List Nat}
theorem qz_em (P : Int32 → St2 → Prop) (o v2 v3 v4 : Int32) (c64 : cl ≤ 64)
    (h1 : cl < 64 → qc_Fit o v2 v3 v4 → P 1 (nI mc, nI md, nI (cl + 1), nI lc, 0, rt, nI cu, lh, rd, re, (upd oo cl o), (upd oa cl v2), (upd ob cl v3), (upd oc cl v4), lg, (fun zz => nI (hd zz)), (fun zz => nI (s zz)), (fun zz => nI (rs zz)), (fun zz => nI (bd zz)), (fun zz => nI (d zz)), (fun zz => nI (p zz)), (fun zz => nI (n zz)), rg, tg))
    (h0 : ¬ (cl < 64 ∧ qc_Fit o v2 v3 v4) → P 0 (nI mc, nI md, nI cl, nI lc, 0, rt, nI cu, lh, rd, re, oo, oa, ob, oc, lg, (fun zz => nI (hd zz)), (fun zz => nI (s zz)), (fun zz => nI (rs zz)), (fun zz => nI (bd zz)), (fun zz => nI (d zz)), (fun zz => nI (p zz)), (fun zz => nI (n zz)), rg, tg)) : wpX_emit P (nI mc, nI md, nI cl, nI lc, 0, rt, nI cu, lh, rd, re, oo, oa, ob, oc, lg, (fun zz => nI (hd zz)), (fun zz => nI (s zz)), (fun zz => nI (rs zz)), (fun zz => nI (bd zz)), (fun zz => nI (d zz)), (fun zz => nI (p zz)), (fun zz => nI (n zz)), rg, tg) o v2 v3 v4 := by
  by_cases z : cl < 64
  · refine br_t rfl (br_f (nI_ge (b := 64) z (by decide)) (qc_xof _ _ _ _ _ (fun F => br_f (by decide) ⟨vp_in_nI (by omega) (by decide), nm_r (qc_sr rfl (by omega) rfl) ⟨vp_in_nI (by omega) (by decide), nm_r (qc_sr rfl (by omega) rfl) ⟨vp_in_nI (by omega) (by decide), nm_r (qc_sr rfl (by omega) rfl) ⟨vp_in_nI (by omega) (by decide), nm_r (qc_sr rfl (by omega) rfl) (nm_r (nI_1 cl) (h1 z F))⟩⟩⟩⟩) (fun F => br_t rfl (h0 fun w => F w.2))))
  · exact br_t rfl (br_t (nI_le (a := 64) (by omega) (by omega)) (h0 fun w => z w.1))
end
def qz_cell (L : Nat) (xs : Nat → Int32) (k : Nat) : Int32 := if L ≤ k then 0 else xs k
def qz_pos (L : Nat) (xs : Nat → Int32) (k : Nat) : Nat := (qz_cell L xs k).toBitVec.toNat % 2 ^ 31
def qz_kd (L : Nat) (xs : Nat → Int32) (i : Nat) : Nat := qz_pos L xs (4 + 3 * i) % 8
def qz_hb (L : Nat) (xs : Nat → Int32) (i : Nat) : Nat := if qz_pos L xs (5 + 3 * i) % 2 = 0 then 1 else 5
theorem qz_cw (P : Int32 → Prop) {L : Nat} {xs : Nat → Int32} {k : Nat} {K : Int32} (hK : K = nI k) (hk : k < 2 ^ 31) (hL : L ≤ 260) (h : P (qz_cell L xs k)) : wpL_cell P L xs () K := by
  subst hK
  unfold qz_cell at h
  by_cases z : L ≤ k
  · rw [if_pos z] at h
    exact br_t (nI_le z hk) h
  · rw [if_neg z] at h
    refine br_f (nI_ge (by omega) (by omega)) ⟨vp_in_nI (by omega) (by omega), ?_⟩
    rw [nI_clamp hk]
    exact h
theorem qz_pl (L : Nat) (xs : Nat → Int32) (k : Nat) : qz_pos L xs k < 2 ^ 31 := Nat.mod_lt _ (by decide)
theorem qz_pw (P : Int32 → Prop) {L : Nat} {xs : Nat → Int32} {k : Nat} {K : Int32} (hK : K = nI k) (hk : k < 2 ^ 31) (hL : L ≤ 260) (h : P (nI (qz_pos L xs k))) : wpL_pos P L xs () K := by
  unfold wpL_pos
  refine qz_cw _ hK hk hL ?_
  rw [pk_and _ 31 (by decide)]
  exact h
theorem qz_i3 (a i : Nat) {A : Int32} (hA : A = nI a) : A + 3 * nI i = nI (a + 3 * i) := by
  have e : (3 : Int32) * nI i = nI (3 * i) := pk_mul 3 i
  rw [hA, e, nI_add]
theorem qz_kw (P : Int32 → Prop) {L : Nat} {xs : Nat → Int32} {i : Nat} (hi : i < 1000) (hL : L ≤ 260) (h : P (nI (qz_kd L xs i))) : wpL_mainKind P L xs () (nI i) := by
  unfold wpL_mainKind
  refine qz_pw _ (qz_i3 4 i rfl) (by omega) hL ⟨by decide, ?_⟩
  have e := pk_rem (qz_pl L xs (4 + 3 * i)) (d := 8) (by decide) (by decide)
  have e' : nI (qz_pos L xs (4 + 3 * i)) - nI (qz_pos L xs (4 + 3 * i)) / 8 * 8 = nI (qz_kd L xs i) := e
  rw [e']
  exact h
theorem qz_hw (P : Int32 → Prop) {L : Nat} {xs : Nat → Int32} {i : Nat} (hi : i < 1000) (hL : L ≤ 260) (h : P (nI (qz_hb L xs i))) : wpL_mainHb P L xs () (nI i) := by
  unfold wpL_mainHb
  refine qz_pw _ (qz_i3 5 i rfl) (by omega) hL ?_
  have b := qz_pl L xs (5 + 3 * i)
  have e : nI (qz_pos L xs (5 + 3 * i)) &&& 1 = nI (qz_pos L xs (5 + 3 * i) % 2) := pk_andN (by omega) 1 (by decide)
  unfold qz_hb at h
  rw [e]
  by_cases z : qz_pos L xs (5 + 3 * i) % 2 = 0
  · rw [if_pos z] at h
    exact br_t (by rw [z]; rfl) h
  · rw [if_neg z] at h
    exact br_f (fun w => z ((nI_eq (b := 0) (by omega) (by omega)).mp w)) h
theorem qz_hb8 (L : Nat) (xs : Nat → Int32) (i : Nat) : qz_hb L xs i = 1 ∨ qz_hb L xs i = 5 := by
  unfold qz_hb
  split
  · exact .inl rfl
  · exact .inr rfl
def qz_mi (L : Nat) (xs : Nat → Int32) (i : Nat) (o a b : Int32) : Prop :=
  qc_Fit o a b 0 ∧ (o = 0 ∨ o = 1 ∨ o = 12 ∨ o = 13 ∨ o = 14 ∨ o = 16 ∨ o = 17) ∧ ((qz_kd L xs i = 1 ∨ qz_kd L xs i = 7) → o = 13 ∧ a = 2 ∧ b = nI (qz_hb L xs i)) ∧ (qz_kd L xs i = 2 → o = 14 ∧ a = 2 ∧ b = nI (qz_hb L xs i))
section
variable {mc md cl lc cu h B mp mL : Nat} {st rt lh rd re : Int32} {D : Nat → Prop} {oo oa ob oc lg rg tg : Nat → Int32} {hd d s lv rs bd yr p q n m : Nat → Nat} {c r t x a b : Nat} {l L : List Nat}
theorem qz_emt (P : St2 → Prop) (o v2 v3 : Int32) (c64 : cl < 64) (F : qc_Fit o v2 v3 0)
    (hP : P (nI mc, nI md, nI (cl + 1), nI 0, 0, 0, nI 0, nI 0, 0, 0, (upd oo cl o), (upd oa cl v2), (upd ob cl v3), (upd oc cl 0), (fun _ => 0), (fun zz => nI (((fun _ => 0)) zz)), (fun zz => nI (s zz)), (fun zz => nI (((fun _ => 0)) zz)), (fun zz => nI (((fun _ => 0)) zz)), (fun zz => nI (((fun _ => 0)) zz)), (fun zz => nI (((fun _ => 0)) zz)), (fun zz => nI (((fun _ => 0)) zz)), (fun _ => 0), (fun _ => 0))) : wpX_emit (fun _ u => P u) (nI mc, nI md, nI cl, nI 0, 0, 0, nI 0, nI 0, 0, 0, oo, oa, ob, oc, (fun _ => 0), (fun zz => nI (((fun _ => 0)) zz)), (fun zz => nI (s zz)), (fun zz => nI (((fun _ => 0)) zz)), (fun zz => nI (((fun _ => 0)) zz)), (fun zz => nI (((fun _ => 0)) zz)), (fun zz => nI (((fun _ => 0)) zz)), (fun zz => nI (((fun _ => 0)) zz)), (fun _ => 0), (fun _ => 0)) o v2 v3 0 :=
  qz_em (lg := fun _ => 0) (rg := fun _ => 0) (tg := fun _ => 0) (hd := fun _ => 0) (rs := fun _ => 0) (bd := fun _ => 0) (d := fun _ => 0) (p := fun _ => 0) (n := fun _ => 0) _ _ _ _ _ (by omega) (fun _ _ => hP) (fun w => absurd ⟨c64, F⟩ w)
theorem qz_emM (P : St2 → Prop) {L : Nat} {xs : Nat → Int32} {i bb ll : Nat} (hL : L ≤ 260) (hi : i < 100) (hbl : bb + ll = 64) (l1 : 1 ≤ ll) (c64 : cl < 64)
    (H : ∀ o v2 v3, qz_mi L xs i o v2 v3 → P (nI mc, nI md, nI (cl + 1), nI 0, 0, 0, nI 0, nI 0, 0, 0, (upd oo cl o), (upd oa cl v2), (upd ob cl v3), (upd oc cl 0), (fun _ => 0), (fun zz => nI (((fun _ => 0)) zz)), (fun zz => nI (s zz)), (fun zz => nI (((fun _ => 0)) zz)), (fun zz => nI (((fun _ => 0)) zz)), (fun zz => nI (((fun _ => 0)) zz)), (fun zz => nI (((fun _ => 0)) zz)), (fun zz => nI (((fun _ => 0)) zz)), (fun _ => 0), (fun _ => 0))) :
    wpL_emitMain P L xs (nI mc, nI md, nI cl, nI 0, 0, 0, nI 0, nI 0, 0, 0, oo, oa, ob, oc, (fun _ => 0), (fun zz => nI (((fun _ => 0)) zz)), (fun zz => nI (s zz)), (fun zz => nI (((fun _ => 0)) zz)), (fun zz => nI (((fun _ => 0)) zz)), (fun zz => nI (((fun _ => 0)) zz)), (fun zz => nI (((fun _ => 0)) zz)), (fun zz => nI (((fun _ => 0)) zz)), (fun _ => 0), (fun _ => 0)) (nI i) (nI bb) (nI ll) := by
  unfold wpL_emitMain
  refine qz_kw _ (by omega) hL ?_
  refine qz_hw _ (by omega) hL ?_
  refine qz_pw _ (qz_i3 6 i rfl) (by omega) hL ?_
  have hp := qz_pl L xs (6 + 3 * i)
  have hb : qc_R8 (nI (qz_hb L xs i)) := by
    rcases qz_hb8 L xs i with e | e <;> rw [e]
    · exact ⟨1, by omega, rfl⟩
    · exact ⟨5, by omega, rfl⟩
  have r2 : qc_R8 (2 : Int32) := ⟨2, by omega, rfl⟩
  have r0 : qc_R8 (0 : Int32) := ⟨0, by omega, rfl⟩
  have kl : qz_kd L xs i < 8 := Nat.mod_lt _ (by decide)
  generalize hk : qz_kd L xs i = kd at *
  have c : kd = 0 ∨ kd = 1 ∨ kd = 2 ∨ kd = 3 ∨ kd = 4 ∨ kd = 5 ∨ kd = 6 ∨ kd = 7 := by omega
  have e1 : nI (qz_pos L xs (6 + 3 * i)) - nI (qz_pos L xs (6 + 3 * i)) / nI ll * nI ll = nI (qz_pos L xs (6 + 3 * i) % ll) := pk_rem hp (by omega) (by omega)
  have m1 : qz_pos L xs (6 + 3 * i) % ll < ll := Nat.mod_lt _ (by omega)
  rcases c with rfl | rfl | rfl | rfl | rfl | rfl | rfl | rfl
  · refine br_t rfl ⟨fun z => by have := (nI_eq (b := 0) (by omega) (by omega)).mp z; omega, ?_⟩
    rw [e1, nI_add]
    have F : qc_Fit 12 (nI (qz_hb L xs i)) (nI (bb + qz_pos L xs (6 + 3 * i) % ll)) 0 := (qc_F12 _ _ _).mpr ⟨hb, ⟨_, by omega, rfl⟩⟩
    exact qz_emt P _ _ _ c64 F (H _ _ _ ⟨F, by decide, fun w => by omega, fun w => by omega⟩)
  · have F : qc_Fit 13 2 (nI (qz_hb L xs i)) 0 := (qc_F13 _ _ _).mpr ⟨r2, hb, r0⟩
    exact br_f (by decide) (br_t rfl (qz_emt P _ _ _ c64 F (H _ _ _ ⟨F, by decide, fun _ => ⟨rfl, rfl, rfl⟩, fun w => by omega⟩)))
  · have F : qc_Fit 14 2 (nI (qz_hb L xs i)) 0 := (qc_F14 _ _ _).mpr ⟨r2, hb, r0⟩
    exact br_f (by decide) (br_f (by decide) (br_f (by decide) (br_t rfl (qz_emt P _ _ _ c64 F (H _ _ _ ⟨F, by decide, fun w => by omega, fun _ => ⟨rfl, rfl, rfl⟩⟩)))))
  · have F : qc_Fit 17 2 (nI (qz_hb L xs i)) 0 := (qc_F17 _ _ _).mpr ⟨r2, hb⟩
    exact br_f (by decide) (br_f (by decide) (br_f (by decide) (br_f (by decide) (br_t rfl (qz_emt P _ _ _ c64 F (H _ _ _ ⟨F, by decide, fun w => by omega, fun w => by omega⟩))))))
  · have F : qc_Fit 16 2 (nI (qz_hb L xs i)) 0 := (qc_F16 _ _ _).mpr ⟨r2, hb⟩
    exact br_f (by decide) (br_f (by decide) (br_f (by decide) (br_f (by decide) (br_f (by decide) (br_t rfl (qz_emt P _ _ _ c64 F (H _ _ _ ⟨F, by decide, fun w => by omega, fun w => by omega⟩)))))))
  · have F : ∀ v, qc_Fit 0 (nI (qz_hb L xs i)) v 0 := fun v => (qc_F0 _ _ _).mpr hb
    exact br_f (by decide) (br_f (by decide) (br_f (by decide) (br_f (by decide) (br_f (by decide) (br_f (by decide) (br_t rfl ⟨by decide, qz_emt P _ _ _ c64 (F _) (H _ _ _ ⟨F _, by decide, fun w => by omega, fun w => by omega⟩)⟩))))))
  · have r6 : qc_R8 (6 - nI (qz_hb L xs i)) := by
      rcases qz_hb8 L xs i with e | e <;> rw [e]
      · exact ⟨5, by omega, by decide⟩
      · exact ⟨1, by omega, by decide⟩
    have F : qc_Fit 1 (nI (qz_hb L xs i)) (6 - nI (qz_hb L xs i)) 0 := (qc_F1 _ _ _).mpr ⟨hb, r6⟩
    exact br_f (by decide) (br_f (by decide) (br_f (by decide) (br_f (by decide) (br_f (by decide) (br_f (by decide) (br_f (by decide) (qz_emt P _ _ _ c64 F (H _ _ _ ⟨F, by decide, fun w => by omega, fun w => by omega⟩))))))))
  · have F : qc_Fit 13 2 (nI (qz_hb L xs i)) 0 := (qc_F13 _ _ _).mpr ⟨r2, hb, r0⟩
    exact br_f (by decide) (br_f (by decide) (br_t rfl (qz_emt P _ _ _ c64 F (H _ _ _ ⟨F, by decide, fun _ => ⟨rfl, rfl, rfl⟩, fun w => by omega⟩))))
theorem qz_emB (P : St2 → Prop) {L : Nat} {xs : Nat → Int32} {i bb ll : Nat} (hL : L ≤ 260) (hi : i < 100) (l1 : 1 ≤ ll) (l64 : ll ≤ 64) (c64 : cl ≤ 64)
    (H : ∀ (cl' : Nat) (oo' oa' ob' oc' : Nat → Int32), cl ≤ cl' → cl' ≤ 64 → (∀ i, i < cl → oo' i = oo i ∧ oa' i = oa i ∧ ob' i = ob i) → ((∀ i, i < cl → qc_Fit (oo i) (oa i) (ob i) (oc i)) → ∀ i, i < cl' → qc_Fit (oo' i) (oa' i) (ob' i) (oc' i)) → P (nI mc, nI md, nI cl', nI 0, 0, 0, nI 0, nI 0, 0, 0, oo', oa', ob', oc', (fun _ => 0), (fun zz => nI (((fun _ => 0)) zz)), (fun zz => nI (s zz)), (fun zz => nI (((fun _ => 0)) zz)), (fun zz => nI (((fun _ => 0)) zz)), (fun zz => nI (((fun _ => 0)) zz)), (fun zz => nI (((fun _ => 0)) zz)), (fun zz => nI (((fun _ => 0)) zz)), (fun _ => 0), (fun _ => 0))) :
    wpL_emitBody P L xs (nI mc, nI md, nI cl, nI 0, 0, 0, nI 0, nI 0, 0, 0, oo, oa, ob, oc, (fun _ => 0), (fun zz => nI (((fun _ => 0)) zz)), (fun zz => nI (s zz)), (fun zz => nI (((fun _ => 0)) zz)), (fun zz => nI (((fun _ => 0)) zz)), (fun zz => nI (((fun _ => 0)) zz)), (fun zz => nI (((fun _ => 0)) zz)), (fun zz => nI (((fun _ => 0)) zz)), (fun _ => 0), (fun _ => 0)) (nI i) (nI bb) (nI ll) := by
  have E : ∀ o v2 v3 v4 : Int32, wpX_emit (fun _ u => P u) (nI mc, nI md, nI cl, nI 0, 0, 0, nI 0, nI 0, 0, 0, oo, oa, ob, oc, (fun _ => 0), (fun zz => nI (((fun _ => 0)) zz)), (fun zz => nI (s zz)), (fun zz => nI (((fun _ => 0)) zz)), (fun zz => nI (((fun _ => 0)) zz)), (fun zz => nI (((fun _ => 0)) zz)), (fun zz => nI (((fun _ => 0)) zz)), (fun zz => nI (((fun _ => 0)) zz)), (fun _ => 0), (fun _ => 0)) o v2 v3 v4 := by
    intro o v2 v3 v4
    refine qz_em (lg := fun _ => 0) (rg := fun _ => 0) (tg := fun _ => 0) (hd := fun _ => 0) (rs := fun _ => 0) (bd := fun _ => 0) (d := fun _ => 0) (p := fun _ => 0) (n := fun _ => 0) _ _ _ _ _ c64 (fun z F => ?_) (fun _ => ?_)
    · refine H (cl + 1) _ _ _ _ (by omega) (by omega) (fun i hi => ?_) (fun fit i hi => ?_)
      · exact ⟨pk_un (by omega), pk_un (by omega), pk_un (by omega)⟩
      · by_cases y : i = cl
        · rw [y, pk_us, pk_us, pk_us, pk_us]; exact F
        · rw [pk_un y, pk_un y, pk_un y, pk_un y]; exact fit i (by omega)
    · exact H cl oo oa ob oc (by omega) c64 (fun i _ => ⟨rfl, rfl, rfl⟩) (fun fit => fit)
  unfold wpL_emitBody
  refine qz_pw _ (k := 80 + i) (by rw [← nI_add]; rfl) (by omega) hL ⟨by decide, nm_e (nm_e (nm_e (nm_e ⟨fun z => by have := (nI_eq (b := 0) (by omega) (by omega)).mp z; omega, nm_e (nm_e ?_)⟩)))⟩
  refine br_c (fun _ => E _ _ _ _) (fun _ => br_c (fun _ => E _ _ _ _) (fun _ => br_c (fun _ => E _ _ _ _) (fun _ => br_c (fun _ => E _ _ _ _) (fun _ => br_c (fun _ => E _ _ _ _) (fun _ => br_c (fun _ => E _ _ _ _) (fun _ => br_c (fun _ => E _ _ _ _) (fun _ => br_c (fun _ => E _ _ _ _) (fun _ => br_c (fun _ => E _ _ _ _) (fun _ => br_c (fun _ => E _ _ _ _) (fun _ => br_c (fun _ => E _ _ _ _) (fun _ => E _ _ _ _)))))))))))
end
end
section
def qz_D (w : Int64) (j : Nat) : Prop := 1 ≤ j ∧ j ≤ 62 ∧ w.toBitVec.getLsbD j = true
def qz_v13 (u : St2) : Prop := match u with
  | (a0, a1, a2, a3, a4, a5, a6, a7, a8, a9, a10, a11, a12, a13, a14, a15, a16, a17, a18, a19, a20, a21, a22, a23) => a4 = 1 ∧ a6 = 0 ∧ a22 2 = -1 ∧ a22 3 = 0
def qz_v14 (u : St2) : Prop := match u with
  | (a0, a1, a2, a3, a4, a5, a6, a7, a8, a9, a10, a11, a12, a13, a14, a15, a16, a17, a18, a19, a20, a21, a22, a23) => a4 = 3 ∧ a5 = -1
section
variable {mc md cl lc cu h B mp mL : Nat} {st rt lh rd re : Int32} {D : Nat → Prop} {oo oa ob oc lg rg tg : Nat → Int32} {hd d s lv rs bd yr p q n m : Nat → Nat} {c r t x a b : Nat} {l L : List Nat}
theorem qz_Zg {w : Int64} (Z : qz_Z hd lv d p h mp mL D L) (g : qz_g lv hd h w) : qz_Z hd lv d p h mp mL (qz_D w) L := ⟨Z.1, fun j hj => g.2 j hj.1 hj.2.1 hj.2.2, Z.2.2⟩
theorem qz_gZ {w : Int64} (Z : qz_Z hd lv d p h mp mL (qz_D w) L) (b0 : w.toBitVec.getLsbD 0 = false) : qz_g lv hd h w := ⟨b0, fun j j1 j2 hj => Z.2.1 j ⟨j1, j2, hj⟩⟩
theorem qz_chk (P : Int64 → Prop) {w : Int64} (K : qc_K mc md cl lc h B oo oa ob oc lv bd) (hB : B ≤ 320) (I : qc_I mc md oo oa ob d s lv rs yr p q n m L) (Z : qz_Z hd lv d p h mp mL (qz_D w) L) (b0 : w.toBitVec.getLsbD 0 = false)
    (H : ∀ w' : Int64, w'.toBitVec.getLsbD 0 = false → qz_Z hd lv d p h mp mL (qz_D w') L → P w') : wpL_check P (nI mc, nI md, nI cl, nI lc, st, rt, nI cu, nI h, rd, re, oo, oa, ob, oc, lg, (fun zz => nI (hd zz)), (fun zz => nI (s zz)), (fun zz => nI (rs zz)), (fun zz => nI (bd zz)), (fun zz => nI (d zz)), (fun zz => nI (p zz)), (fun zz => nI (n zz)), rg, tg) w (nI mc) :=
  qz_check P (fun t => qc_al I) Z.1.2.1 (by have := K.2.2.2.2.1; omega) Z.1.2.2 K.1.1 K.1.2 I.2.2.2.1 (qz_gZ Z b0) (fun w' g => H w' g.1 (qz_Zg Z g))
theorem qz_gr (P : Int32 → Prop) {r : Nat} (r8 : r < 8) (d1 : d 0 = 1) (hP : P (rg r)) : wpX_getReg P (nI mc, nI md, nI cl, nI lc, st, rt, nI cu, lh, rd, re, oo, oa, ob, oc, lg, (fun zz => nI (hd zz)), (fun zz => nI (s zz)), (fun zz => nI (rs zz)), (fun zz => nI (bd zz)), (fun zz => nI (d zz)), (fun zz => nI (p zz)), (fun zz => nI (n zz)), rg, tg) 0 (nI r) := by
  unfold wpX_getReg
  have e : 0 * 6 + d 0 - 1 = 0 := by omega
  have eI : nI 0 * 8 + nI r = nI (0 * 8 + r) := qc_fr8 rfl rfl
  refine br_t rfl (br_f (by decide) ⟨vp_in_nI (n := 0) (by decide) (by decide), br_f ?_ (qc_isr _ _ (fun _ => br_f (by decide) ?_) (fun w => absurd ⟨r, r8, rfl⟩ w))⟩)
  · show ¬ nI (d 0) = 0
    rw [d1]
    decide
  · refine qc_xtf (t := 0) _ (by omega) (by omega) ?_
    rw [e]
    refine ⟨qc_vi eI (by omega) (by decide), ?_⟩
    rw [eI, nI_clamp (by omega)]
    have e2 : 0 * 8 + r = r := by omega
    rw [e2]
    exact hP
theorem qz_pr13 (K : qc_K mc md cl lc h B oo oa ob oc lv bd) (I : qc_I mc md oo oa ob d s lv rs yr p q n m (c :: l)) (hp : p (c * 6 + d c - 1) = x) (hx : x < cl) (Z : qz_Z hd lv d p h mp mL D (c :: l)) (hmL : c = 0 → mp + 1 ≤ mL) (c0 : c = 0) (ho : oo x = 13) (ha : oa x = nI 2) (hb : ob x = nI b) (b8 : b < 8) {g : Nat} (hc : oc x = nI g) (g8 : g < 8) {j : Nat} (j1 : 1 ≤ j) (j2 : j ≤ 62) (hj : rg b = nI j) (dj : D j) (hB : B ≤ 320) :
    ∃ u' : St2, qz_R mc cl oo oa ob oc (B + 1) (qz_mp c mp) mL D u' ∧ qz_v13 u' ∧ ∀ P : Int32 → St2 → Prop, P 1 u' → wpX_run P (nI mc, nI md, nI cl, nI lc, 1, 0, nI c, nI h, 0, re, oo, oa, ob, oc, lg, (fun zz => nI (hd zz)), (fun zz => nI (s zz)), (fun zz => nI (rs zz)), (fun zz => nI (bd zz)), (fun zz => nI (d zz)), (fun zz => nI (p zz)), (fun zz => nI (n zz)), rg, tg) 1 := by
  have c5 : c < 5 := I.2.2.1 c List.mem_cons_self
  obtain ⟨h1, hdm, hs1, hlv, hth⟩ := I.2.2.2.2.1
  have hm : md ≤ 6 := K.2.1.2
  have h6 : d c ≤ 6 := by omega
  have h64 : cl ≤ 64 := K.2.2.1
  have hl : lc ≤ 64 := K.2.2.2.1
  have hq : q (c * 6 + d c - 1) = x := (qc_qtop h1 hth).1.trans hp
  have hf : (c * 6 + d c - 1) < 30 := by omega
  have f0 : (c * 6 + d c - 1) = 0 := by have := (Z.2.2 (by simp)).1; rw [c0, this]
  have eB : nI ((c * 6 + d c - 1) * 8) + nI b = nI ((c * 6 + d c - 1) * 8 + b) := nI_add _ _
  have eC : nI ((c * 6 + d c - 1) * 8) + nI g = nI ((c * 6 + d c - 1) * 8 + g) := nI_add _ _
  have I1 := qc_tr_pc (x := x + 1) hm I (by omega)
  have hbb : rg ((c * 6 + d c - 1) * 8 + b) = nI j := by
    rw [f0, Nat.zero_mul, Nat.zero_add]; exact hj
  have a8 : 2 < 8 := by omega
  refine ⟨(nI mc, nI md, nI cl, nI lc, 1, 0, nI c, nI h, 0, re, oo, oa, ob, oc, lg, (fun zz => nI (hd zz)), (fun zz => nI (s zz)), (fun zz => nI (rs zz)), (fun zz => nI (bd zz)), (fun zz => nI (d zz)), (fun zz => nI ((qc_u p (c * 6 + d c - 1) (x + 1)) zz)), (fun zz => nI (n zz)), (upd (upd rg 2 (-1)) 3 0), tg), qz_Rmk (qc_K_up K) I1 (qz_Za Z (fun _ w => w) (fun _ => ⟨hmL, rfl, qz_p0 Z h1 hp⟩)), ⟨rfl, by rw [c0]; rfl, ?_, ?_⟩, fun P hP => ?_⟩
  · show upd (upd rg 2 (-1)) 3 0 2 = -1
    rw [pk_un (by omega), pk_us]
  · show upd (upd rg 2 (-1)) 3 0 3 = 0
    rw [pk_us]
  have st : ∀ Q : St2 → Prop, Q (nI mc, nI md, nI cl, nI lc, 1, 0, nI c, nI h, 0, re, oo, oa, ob, oc, lg, (fun zz => nI (hd zz)), (fun zz => nI (s zz)), (fun zz => nI (rs zz)), (fun zz => nI (bd zz)), (fun zz => nI (d zz)), (fun zz => nI ((qc_u p (c * 6 + d c - 1) (x + 1)) zz)), (fun zz => nI (n zz)), (upd (upd rg 2 (-1)) 3 0), tg) → wpX_step Q (nI mc, nI md, nI cl, nI lc, 1, 0, nI c, nI h, 0, re, oo, oa, ob, oc, lg, (fun zz => nI (hd zz)), (fun zz => nI (s zz)), (fun zz => nI (rs zz)), (fun zz => nI (bd zz)), (fun zz => nI (d zz)), (fun zz => nI (p zz)), (fun zz => nI (n zz)), rg, tg) := by
    intro P hP
    unfold wpX_step; refine qc_xtf _ c5 h1 ?_; refine ⟨vp_in_nI (by omega) (by decide), nm_r ((qc_rd p rfl (by omega)).trans (congrArg nI hp)) (br_t (nI_lt hx (by omega)) (nm_r (qc_m8 _) ⟨vp_in_nI (by omega) (by decide), nm_r ((qc_rr rfl (by omega)).trans ha) ⟨vp_in_nI (by omega) (by decide), nm_r ((qc_rr rfl (by omega)).trans hb) ⟨vp_in_nI (by omega) (by decide), nm_r ((qc_rr rfl (by omega)).trans hc) ⟨vp_in_nI (by omega) (by decide), nm_r (qc_st rfl (nI_1 x) (by omega)) ⟨vp_in_nI (by omega) (by decide), nm_r ((qc_rr rfl (by omega)).trans ho) (br_f (by decide) (br_f (by decide) (br_f (by decide) (br_f (by decide) (br_f (by decide) (br_f (by decide) (br_f (by decide) (br_f (by decide) (br_f (by decide) (br_f (by decide) (br_f (by decide) (br_f (by decide) (br_f (by decide) (br_f (by decide) (br_f (by decide) (br_t rfl ?_))))))))))))))))⟩⟩⟩⟩⟩))⟩
    refine ⟨qc_vi eB (by omega) (by decide), qc_vi eC (by omega) (by decide), ?_⟩
    rw [qc_rr (f := rg) eB (by omega), qc_rr (f := rg) eC (by omega), hbb]
    unfold wpX_resumeHandle
    rcases qz_thE (mc := mc) (md := md) (cl := cl) (lc := lc) (cu := c) (st := 1) (rt := 0) (lh := nI h) (rd := 0) (re := re) (oo := oo) (oa := oa) (ob := ob) (oc := oc) (lg := lg) (rg := rg) (tg := tg) (hd := hd) (d := d) (rs := rs) (bd := bd) (n := n) (p := qc_u p (c * 6 + d c - 1) (x + 1)) (fun t => qc_al I) (nI j) with ⟨t, t5, hg, hA, hE, hX⟩ | ⟨hg, hno, hX⟩
    · have t0 : t ≠ 0 := fun z => nI_ne0 (by omega) (by omega) (hg.mp z)
      have lt := (hA t0).1
      have bd := (Z.1.2.1 t t0 t5 lt).2
      have hh : h ≤ B := K.2.2.2.2.1
      exact absurd ((nI_eq (by omega) (by omega)).mp (hE t0)) ((Z.2.1 j dj).2 t t0 t5 lt)
    · refine hX _ (br_t rfl ?_)
      refine qc_xc13 _ c5 h1 (by omega) (qc_us _ _ _) (by omega) (by omega) ha a8 ho _ _ 0 (fun _ => rfl) (fun z => absurd rfl z) ?_
      have e2 : (c * 6 + d c - 1) * 8 + 2 = 2 := by rw [f0]
      have e3 : (c * 6 + d c - 1) * 8 + (2 + 1) % 8 = 3 := by rw [f0]
      rw [qc_ue hs1, e2, e3]
      exact hP
  unfold wpX_run
  exact br_t (by decide) (br_t (by decide) ⟨2, br_f (by decide) (br_t rfl (st _ (br_t rfl (nm_r (e' := 1) rfl (br_t (by decide) hP)))))⟩)
theorem qz_pr14 (K : qc_K mc md cl lc h B oo oa ob oc lv bd) (I : qc_I mc md oo oa ob d s lv rs yr p q n m (c :: l)) (hp : p (c * 6 + d c - 1) = x) (hx : x < cl) (Z : qz_Z hd lv d p h mp mL D (c :: l)) (hmL : c = 0 → mp + 1 ≤ mL) (c0 : c = 0) (ho : oo x = 14) (ha : oa x = nI 2) (hb : ob x = nI b) (b8 : b < 8) {g : Nat} (hc : oc x = nI g) (g8 : g < 8) {j : Nat} (j1 : 1 ≤ j) (j2 : j ≤ 62) (hj : rg b = nI j) (dj : D j) (hB : B ≤ 320) :
    ∃ u' : St2, qz_R mc cl oo oa ob oc (B + 1) (qz_mp c mp) mL D u' ∧ qz_v14 u' ∧ ∀ P : Int32 → St2 → Prop, P 1 u' → wpX_run P (nI mc, nI md, nI cl, nI lc, 1, 0, nI c, nI h, 0, re, oo, oa, ob, oc, lg, (fun zz => nI (hd zz)), (fun zz => nI (s zz)), (fun zz => nI (rs zz)), (fun zz => nI (bd zz)), (fun zz => nI (d zz)), (fun zz => nI (p zz)), (fun zz => nI (n zz)), rg, tg) 1 := by
  have c5 : c < 5 := I.2.2.1 c List.mem_cons_self
  obtain ⟨h1, hdm, hs1, hlv, hth⟩ := I.2.2.2.2.1
  have hm : md ≤ 6 := K.2.1.2
  have h6 : d c ≤ 6 := by omega
  have h64 : cl ≤ 64 := K.2.2.1
  have hl : lc ≤ 64 := K.2.2.2.1
  have hq : q (c * 6 + d c - 1) = x := (qc_qtop h1 hth).1.trans hp
  have hf : (c * 6 + d c - 1) < 30 := by omega
  have f0 : (c * 6 + d c - 1) = 0 := by have := (Z.2.2 (by simp)).1; rw [c0, this]
  have eB : nI ((c * 6 + d c - 1) * 8) + nI b = nI ((c * 6 + d c - 1) * 8 + b) := nI_add _ _
  have eC : nI ((c * 6 + d c - 1) * 8) + nI g = nI ((c * 6 + d c - 1) * 8 + g) := nI_add _ _
  have I1 := qc_tr_pc (x := x + 1) hm I (by omega)
  have hbb : rg ((c * 6 + d c - 1) * 8 + b) = nI j := by
    rw [f0, Nat.zero_mul, Nat.zero_add]; exact hj
  have Z1 : qz_Z hd lv d (qc_u p (c * 6 + d c - 1) (x + 1)) h (qz_mp c mp) mL D (c :: l) := qz_Za Z (fun _ w => w) (fun _ => ⟨hmL, rfl, qz_p0 Z h1 hp⟩)
  have st : ∀ Q : St2 → Prop, Q (nI mc, nI md, nI cl, nI lc, 1, 0, nI c, nI h, 1, (-1), oo, oa, ob, oc, lg, (fun zz => nI (hd zz)), (fun zz => nI (s zz)), (fun zz => nI (rs zz)), (fun zz => nI (bd zz)), (fun zz => nI (d zz)), (fun zz => nI ((qc_u p (c * 6 + d c - 1) (x + 1)) zz)), (fun zz => nI (n zz)), rg, tg) → wpX_step Q (nI mc, nI md, nI cl, nI lc, 1, 0, nI c, nI h, 0, re, oo, oa, ob, oc, lg, (fun zz => nI (hd zz)), (fun zz => nI (s zz)), (fun zz => nI (rs zz)), (fun zz => nI (bd zz)), (fun zz => nI (d zz)), (fun zz => nI (p zz)), (fun zz => nI (n zz)), rg, tg) := by
    intro P hP
    unfold wpX_step; refine qc_xtf _ c5 h1 ?_; refine ⟨vp_in_nI (by omega) (by decide), nm_r ((qc_rd p rfl (by omega)).trans (congrArg nI hp)) (br_t (nI_lt hx (by omega)) (nm_r (qc_m8 _) ⟨vp_in_nI (by omega) (by decide), nm_r ((qc_rr rfl (by omega)).trans ha) ⟨vp_in_nI (by omega) (by decide), nm_r ((qc_rr rfl (by omega)).trans hb) ⟨vp_in_nI (by omega) (by decide), nm_r ((qc_rr rfl (by omega)).trans hc) ⟨vp_in_nI (by omega) (by decide), nm_r (qc_st rfl (nI_1 x) (by omega)) ⟨vp_in_nI (by omega) (by decide), nm_r ((qc_rr rfl (by omega)).trans ho) (br_f (by decide) (br_f (by decide) (br_f (by decide) (br_f (by decide) (br_f (by decide) (br_f (by decide) (br_f (by decide) (br_f (by decide) (br_f (by decide) (br_f (by decide) (br_f (by decide) (br_f (by decide) (br_f (by decide) (br_f (by decide) (br_f (by decide) (br_f (by decide) (br_t rfl ?_)))))))))))))))))⟩⟩⟩⟩⟩))⟩
    refine ⟨qc_vi eB (by omega) (by decide), qc_vi eC (by omega) (by decide), ?_⟩
    rw [qc_rr (f := rg) eB (by omega), qc_rr (f := rg) eC (by omega), hbb]
    unfold wpX_resumeHandle
    rcases qz_thE (mc := mc) (md := md) (cl := cl) (lc := lc) (cu := c) (st := 1) (rt := 0) (lh := nI h) (rd := 0) (re := re) (oo := oo) (oa := oa) (ob := ob) (oc := oc) (lg := lg) (rg := rg) (tg := tg) (hd := hd) (d := d) (rs := rs) (bd := bd) (n := n) (p := qc_u p (c * 6 + d c - 1) (x + 1)) (fun t => qc_al I) (nI j) with ⟨t, t5, hg, hA, hE, hX⟩ | ⟨hg, hno, hX⟩
    · have t0 : t ≠ 0 := fun z => nI_ne0 (by omega) (by omega) (hg.mp z)
      have lt := (hA t0).1
      have bd := (Z.1.2.1 t t0 t5 lt).2
      have hh : h ≤ B := K.2.2.2.2.1
      exact absurd ((nI_eq (by omega) (by omega)).mp (hE t0)) ((Z.2.1 j dj).2 t t0 t5 lt)
    · refine hX _ (br_t rfl ?_)
      refine qc_xcr _ c5 h1 (by omega) (qc_us _ _ _) (by omega) (by omega) ho _ ?_
      rw [qc_ue hs1]
      exact hP
  have l0 : l = [] := by
    have := I.1
    rw [c0] at this
    exact qc_Lk_2 this
  subst c0 l0
  obtain ⟨R, W⟩ := qz_settle0 (e := -1) (lg := lg) (rg := rg) (tg := tg) (qc_K_up K) (qc_J_of I1) Z1
  refine ⟨_, R, ⟨rfl, rfl⟩, fun P hP => ?_⟩
  unfold wpX_run
  exact br_t (by decide) (br_t (by decide) ⟨2, br_f (by decide) (br_t rfl (st _ (br_f (by decide) (W _ (nm_r (e' := 1) rfl (br_t (by decide) hP))))))⟩)
theorem qz_379 {L' : Nat} {xs : Nat → Int32} {J : Int64 → Int32 → Int32 → Int32 → Int32 → Int32 → Int32 → Int32 → Int32 → Int32 → Int32 → Int32 → Int32 → (Nat → Int32) → (Nat → Int32) → (Nat → Int32) → (Nat → Int32) → (Nat → Int32) → (Nat → Int32) → (Nat → Int32) → (Nat → Int32) → (Nat → Int32) → (Nat → Int32) → (Nat → Int32) → (Nat → Int32) → (Nat → Int32) → (Nat → Int32) → Prop} {x10 x13 x14 : Int32} {kc ks j : Nat} {w : Int64} (K : qc_K mc md cl lc h B oo oa ob oc lv bd) (hB : B ≤ 320) (C : ∀ c l, L = c :: l → cu = c) (S : qc_S st rt L) (I : qc_I mc md oo oa ob d s lv rs yr p q n m L) (Z : qz_Z hd lv d p h mp mL (qz_D w) L) (b0 : w.toBitVec.getLsbD 0 = false)
    (hv : x13 = 0 ∨ (x14 = 2 ∧ st = 3 ∧ rt = -1) ∨ (¬ x14 = 2 ∧ st = 1 ∧ nI cu = 0 ∧ rg 2 = -1 ∧ rg 3 = 0))
    (H : ∀ w' : Int64, w'.toBitVec.getLsbD 0 = false → qz_Z hd lv d p h mp mL (qz_D w') L → J w' x10 (nI (j + 1)) (nI mc) (nI md) (nI cl) (nI lc) st rt (nI cu) (nI h) 0 re oo oa ob oc lg (fun zz => nI (hd zz)) (fun zz => nI (s zz)) (fun zz => nI (rs zz)) (fun zz => nI (bd zz)) (fun zz => nI (d zz)) (fun zz => nI (p zz)) (fun zz => nI (n zz)) rg tg) :
    wL_law_379 (fun r => r = 1) L' xs J (nI mc) w (nI mL) x10 (nI j) x13 x14 kc ks (nI mc) (nI md) (nI cl) (nI lc) st rt (nI cu) (nI h) 0 re oo oa ob oc lg (fun zz => nI (hd zz)) (fun zz => nI (s zz)) (fun zz => nI (rs zz)) (fun zz => nI (bd zz)) (fun zz => nI (d zz)) (fun zz => nI (p zz)) (fun zz => nI (n zz)) rg tg := by
  unfold wL_law_379
  refine qz_chk _ K hB I Z b0 (fun w' b' Z' => br_t ((qz_b0 w').mpr b') ?_)
  have N := H w' b' Z'
  rcases hv with hv | ⟨h14, hs, hr⟩ | ⟨h14, hs, hc, r2, r3⟩
  · exact br_t hv (nm_r (nI_1 j) N)
  · by_cases z : x13 = 0
    · exact br_t z (nm_r (nI_1 j) N)
    · exact br_f z (br_t h14 (br_t hs (br_t hr (nm_r (nI_1 j) N))))
  · by_cases z : x13 = 0
    · exact br_t z (nm_r (nI_1 j) N)
    · have hL : L ≠ [] := by
        rcases S with S | S | S
        · exact S.2.2
        · rw [hs] at S; exact absurd S.1 (by decide)
        · rw [hs] at S; rcases S.1 with e | e <;> exact absurd e (by decide)
      have d1 := (Z.2.2 hL).1
      refine br_f z (br_f h14 (br_t hs (br_t hs ⟨?_, br_t ?_ (qz_gr (r := 2) _ (by omega) d1 (br_t r2 (qz_gr (r := 3) _ (by omega) d1 (br_t r3 (nm_r (nI_1 j) N)))))⟩)))
      · rw [hc]; exact vp_in_nI (n := 0) (by decide) (by decide)
      · rw [hc]
        show nI (hd 0) = 0
        rw [Z.1.1]
        rfl
end
end
section
def qz_WL (L : Nat) (xs : Nat → Int32) (mc mL kc ks n : Nat) (w : Int64) (mp j : Nat) (u : St2) : Prop := match u with
  | (a0, a1, a2, a3, a4, a5, a6, a7, a8, a9, a10, a11, a12, a13, a14, a15, a16, a17, a18, a19, a20, a21, a22, a23) => wL_law_238 (fun r => r = 1) L xs (nI mc) (nI mL) kc ks n w (nI mp) (nI j) a0 a1 a2 a3 a4 a5 a6 a7 a8 a9 a10 a11 a12 a13 a14 a15 a16 a17 a18 a19 a20 a21 a22 a23
def qz_MC (L : Nat) (xs : Nat → Int32) (mL : Nat) (oo oa ob : Nat → Int32) : Prop :=
  ∀ i, i < mL → ((qz_kd L xs i = 1 ∨ qz_kd L xs i = 7) → oo i = 13 ∧ oa i = 2 ∧ ob i = nI (qz_hb L xs i)) ∧ (qz_kd L xs i = 2 → oo i = 14 ∧ oa i = 2 ∧ ob i = nI (qz_hb L xs i))
section
variable {mc md cl lc cu h B mp mL : Nat} {st rt lh rd re : Int32} {D : Nat → Prop} {oo oa ob oc lg rg tg : Nat → Int32} {hd d s lv rs bd yr p q n m : Nat → Nat} {c r t x a b : Nat} {l L : List Nat}
theorem qz_364 {L' : Nat} {xs : Nat → Int32} {x10 x12 x13 x14 : Int32} {kc ks j k mp' : Nat} {w : Int64} {u u' : St2} (R : qz_R mc cl oo oa ob oc B mp' mL (qz_D w) u') (hB : B ≤ 320) (b0 : w.toBitVec.getLsbD 0 = false)
    (W : ∀ P : Int32 → St2 → Prop, P 1 u' → wpX_run P u 1) (hx : (x12 = 0 → x10 = nI mp') ∧ (¬ x12 = 0 → x10 + 1 = nI mp'))
    (hv : x13 = 0 ∨ (x14 = 2 ∧ qz_v14 u') ∨ (¬ x14 = 2 ∧ qz_v13 u'))
    (H : ∀ w' : Int64, w'.toBitVec.getLsbD 0 = false → qz_R mc cl oo oa ob oc B mp' mL (qz_D w') u' → qz_WL L' xs mc mL kc ks k w' mp' (j + 1) u') :
    wpX_run (fun _ u => match u with
      | (a0, a1, a2, a3, a4, a5, a6, a7, a8, a9, a10, a11, a12, a13, a14, a15, a16, a17, a18, a19, a20, a21, a22, a23) => (x12 = 0 → wL_law_379 (fun r => r = 1) L' xs (wL_law_238 (fun r => r = 1) L' xs (nI mc) (nI mL) kc ks k) (nI mc) w (nI mL) x10 (nI j) x13 x14 kc ks a0 a1 a2 a3 a4 a5 a6 a7 a8 a9 a10 a11 a12 a13 a14 a15 a16 a17 a18 a19 a20 a21 a22 a23) ∧ (¬ x12 = 0 → ∀ y, y = x10 + 1 → wL_law_379 (fun r => r = 1) L' xs (wL_law_238 (fun r => r = 1) L' xs (nI mc) (nI mL) kc ks k) (nI mc) w (nI mL) y (nI j) x13 x14 kc ks a0 a1 a2 a3 a4 a5 a6 a7 a8 a9 a10 a11 a12 a13 a14 a15 a16 a17 a18 a19 a20 a21 a22 a23)) u 1 := by
  refine W _ ?_
  obtain ⟨md, lc, cu, h, st, rt, re, lg, rg, tg, hd, d, s, lv, rs, bd, yr, p, q, n, m, L, rfl, K, S, C, I, Z⟩ := R
  have N : ∀ w' : Int64, w'.toBitVec.getLsbD 0 = false → qz_Z hd lv d p h mp' mL (qz_D w') L → wL_law_238 (fun r => r = 1) L' xs (nI mc) (nI mL) kc ks k w' (nI mp') (nI (j + 1)) (nI mc) (nI md) (nI cl) (nI lc) st rt (nI cu) (nI h) 0 re oo oa ob oc lg (fun zz => nI (hd zz)) (fun zz => nI (s zz)) (fun zz => nI (rs zz)) (fun zz => nI (bd zz)) (fun zz => nI (d zz)) (fun zz => nI (p zz)) (fun zz => nI (n zz)) rg tg :=
    fun w' b' Z' => H w' b' ⟨md, lc, cu, h, st, rt, re, lg, rg, tg, hd, d, s, lv, rs, bd, yr, p, q, n, m, L, rfl, K, S, C, I, Z'⟩
  have V : x13 = 0 ∨ (x14 = 2 ∧ st = 3 ∧ rt = -1) ∨ (¬ x14 = 2 ∧ st = 1 ∧ nI cu = 0 ∧ rg 2 = -1 ∧ rg 3 = 0) := hv
  refine br_c (fun z => ?_) (fun z => ?_)
  · rw [hx.1 z]
    exact qz_379 K hB C.1 S I Z b0 V N
  · exact nm_r (hx.2 z) (qz_379 K hB C.1 S I Z b0 V N)
end
end
section
section
variable {mc md cl lc cu h B mp mL : Nat} {st rt lh rd re : Int32} {D : Nat → Prop} {oo oa ob oc lg rg tg : Nat → Int32} {hd d s lv rs bd yr p q n m : Nat → Nat} {c r t x a b : Nat} {l L : List Nat}
theorem qz_318 {L' : Nat} {xs : Nat → Int32} (hL : L' ≤ 260) {kc ks j k : Nat} {w : Int64} (K : qc_K mc md cl lc h j oo oa ob oc lv bd) (I : qc_I mc md oo oa ob d s lv rs yr p q n m (c :: l)) (Z : qz_Z hd lv d p h mp mL (qz_D w) (c :: l)) (M : qz_M mL cl oo) (MC : qz_MC L' xs mL oo oa ob) (hj : j < 300) (hm24 : mL ≤ 24)
    (b0 : w.toBitVec.getLsbD 0 = false) (c0 : c = 0) (hmp : mp < mL) (hk : qz_kd L' xs mp = 1 ∨ qz_kd L' xs mp = 7 ∨ qz_kd L' xs mp = 2)
    (H : ∀ (mp' : Nat) (u' : St2) (w' : Int64), w'.toBitVec.getLsbD 0 = false → qz_R mc cl oo oa ob oc (j + 1) mp' mL (qz_D w') u' → qz_WL L' xs mc mL kc ks k w' mp' (j + 1) u') :
    wL_law_318 (fun r => r = 1) L' xs (wL_law_238 (fun r => r = 1) L' xs (nI mc) (nI mL) kc ks k) (nI mc) w (nI mL) (nI mp) (nI j) 1 (nI (qz_kd L' xs mp)) kc ks (nI mc) (nI md) (nI cl) (nI lc) 1 0 (nI c) (nI h) 0 re oo oa ob oc lg (fun zz => nI (hd zz)) (fun zz => nI (s zz)) (fun zz => nI (rs zz)) (fun zz => nI (bd zz)) (fun zz => nI (d zz)) (fun zz => nI (p zz)) (fun zz => nI (n zz)) rg tg := by
  obtain ⟨d1, p0, -⟩ := Z.2.2 (by simp)
  have f0 : (c * 6 + d c - 1) = 0 := by rw [c0, d1]
  have hp : p (c * 6 + d c - 1) = mp := by rw [f0]; exact p0
  have hmL : c = 0 → mp + 1 ≤ mL := fun _ => by omega
  have e : qz_mp c mp = mp + 1 := if_pos c0
  have hx : mp < cl := by have := M.1; omega
  have h8 : qz_hb L' xs mp < 8 := by rcases qz_hb8 L' xs mp with w | w <;> omega
  have xx : ((1 : Int32) = 0 → nI mp = nI (qz_mp c mp)) ∧ (¬ (1 : Int32) = 0 → nI mp + 1 = nI (qz_mp c mp)) := ⟨fun z => absurd z (by decide), fun _ => by rw [e, nI_1]⟩
  obtain ⟨u', R', W⟩ := qz_run1 (re := re) (lg := lg) (rg := rg) (tg := tg) K I Z (by omega) M
  have no : wL_law_361 (fun r => r = 1) L' xs (wL_law_238 (fun r => r = 1) L' xs (nI mc) (nI mL) kc ks k) (nI mc) w (nI mL) (nI mp) (nI j) 1 (nI (qz_kd L' xs mp)) kc ks (nI mc) (nI md) (nI cl) (nI lc) 1 0 (nI c) (nI h) 0 re oo oa ob oc lg (fun zz => nI (hd zz)) (fun zz => nI (s zz)) (fun zz => nI (rs zz)) (fun zz => nI (bd zz)) (fun zz => nI (d zz)) (fun zz => nI (p zz)) (fun zz => nI (n zz)) rg tg := by
    unfold wL_law_361 wL_law_362 wL_law_364
    exact qz_364 R' (by omega) b0 W xx (.inl rfl) (H _ u')
  unfold wL_law_318
  refine qz_hw _ (by omega) hL ?_
  refine qz_gr _ h8 d1 ?_
  refine br_c (fun _ => no) (fun z1 => br_c (fun _ => no) (fun z2 => br_c (fun _ => no) (fun z3 => ?_)))
  have z0 : ¬ rg (qz_hb L' xs mp) < 0 := fun y => z1 (Int32.lt_trans y (by decide))
  obtain ⟨jj, hjj, hj'⟩ := nI_of z0
  rw [hj'] at z1 z2 z3
  have j1 : 1 ≤ jj := by
    by_cases y : jj < 1
    · exact absurd (nI_lt (b := 1) y (by decide)) z1
    · omega
  have j2 : jj ≤ 62 := by
    by_cases y : 62 < jj
    · exact absurd (nI_lt (a := 62) y hjj) z2
    · omega
  have dj : qz_D w jj := by
    refine ⟨j1, j2, ?_⟩
    by_cases y : w.toBitVec.getLsbD jj = true
    · exact y
    · exact absurd ((qz_bit w (by omega)).mpr (Bool.eq_false_iff.mpr y)) z3
  have F := K.2.2.2.2.2.1 mp hx
  unfold wL_law_362 wL_law_364
  have hk' : (qz_kd L' xs mp = 1 ∨ qz_kd L' xs mp = 7) ∨ qz_kd L' xs mp = 2 := by omega
  rcases hk' with hk | hk
  · obtain ⟨ho, ha, hb⟩ := (MC mp hmp).1 hk
    have h2 : ¬ nI (qz_kd L' xs mp) = 2 := by rcases hk with e | e <;> rw [e] <;> decide
    rw [ho] at F
    obtain ⟨-, -, g, g8, hc⟩ := (qc_F13 _ _ _).mp F
    obtain ⟨u2, R2, v2, W2⟩ := qz_pr13 (re := re) (lg := lg) (rg := rg) (tg := tg) K I hp hx Z hmL c0 ho ha hb h8 hc g8 j1 j2 hj' dj (by omega)
    exact qz_364 R2 (by omega) b0 W2 xx (.inr (.inr ⟨h2, v2⟩)) (H _ u2)
  · obtain ⟨ho, ha, hb⟩ := (MC mp hmp).2 hk
    rw [ho] at F
    obtain ⟨-, -, g, g8, hc⟩ := (qc_F14 _ _ _).mp F
    obtain ⟨u2, R2, v2, W2⟩ := qz_pr14 (re := re) (lg := lg) (rg := rg) (tg := tg) K I hp hx Z hmL c0 ho ha hb h8 hc g8 j1 j2 hj' dj (by omega)
    exact qz_364 R2 (by omega) b0 W2 xx (.inr (.inl ⟨by rw [hk]; rfl, v2⟩)) (H _ u2)
theorem qz_loop {L' : Nat} {xs : Nat → Int32} (hL : L' ≤ 260) {kc ks : Nat} (M : qz_M mL cl oo) (MC : qz_MC L' xs mL oo oa ob) (hm24 : mL ≤ 24) :
    ∀ (k j mp : Nat) (w : Int64) (u : St2), j + k = 300 → w.toBitVec.getLsbD 0 = false → qz_R mc cl oo oa ob oc j mp mL (qz_D w) u → qz_WL L' xs mc mL kc ks (k + 1) w mp j u := by
  intro k
  induction k with
  | zero =>
    intro j mp w u hj b0 R
    obtain ⟨_, _, _, _, _, _, _, _, _, _, _, _, _, _, _, _, _, _, _, _, _, _, rfl, -⟩ := R
    exact br_t (nI_le (a := 300) (by omega) (by omega)) rfl
  | succ k ih =>
    intro j mp w u hj b0 R
    obtain ⟨md, lc, cu, h, st, rt, re, lg, rg, tg, hd, d, s, lv, rs, bd, yr, p, q, n, m, L, rfl, K, S, C, I, Z⟩ := R
    refine br_f (nI_ge (b := 300) (by omega) (by decide)) ?_
    cases L with
    | nil =>
      have hs : ¬ st = 1 := by
        rcases S with S | S | S
        · exact absurd rfl S.2.2
        · rw [S.1]; decide
        · rcases S.1 with e | e <;> rw [e] <;> decide
      exact br_f hs rfl
    | cons c l =>
      have hcc : cu = c := C.1 c l rfl
      subst hcc
      obtain ⟨rfl, rfl⟩ : st = 1 ∧ rt = 0 := by
        rcases S with S | S | S
        · exact ⟨S.1, S.2.1⟩
        · exact absurd S.2.2 (by simp)
        · exact absurd S.2 (by simp)
      have c5 : cu < 5 := I.2.2.1 cu List.mem_cons_self
      have mple := (Z.2.2 (by simp)).2.2
      have H : ∀ (mp' : Nat) (u' : St2) (w' : Int64), w'.toBitVec.getLsbD 0 = false → qz_R mc cl oo oa ob oc (j + 1) mp' mL (qz_D w') u' → qz_WL L' xs mc mL kc ks (k + 1) w' mp' (j + 1) u' := fun mp' u' w' b' R' => ih (j + 1) mp' w' u' (by omega) b' R'
      refine br_t rfl (br_t rfl ⟨vp_in_nI c5 (by decide), ?_⟩)
      rw [qc_rd hd rfl (by omega)]
      obtain ⟨u', R', W⟩ := qz_run1 (re := re) (lg := lg) (rg := rg) (tg := tg) K I Z (by omega) M
      by_cases c0 : cu = 0
      · have e : qz_mp cu mp = mp + 1 := if_pos c0
        have xx : ((1 : Int32) = 0 → nI mp = nI (qz_mp cu mp)) ∧ (¬ (1 : Int32) = 0 → nI mp + 1 = nI (qz_mp cu mp)) := ⟨fun z => absurd z (by decide), fun _ => by rw [e, nI_1]⟩
        refine br_t (by rw [c0, Z.1.1]; rfl) (br_f (by decide) ?_)
        by_cases z : mL ≤ mp
        · refine br_t (nI_le z (by omega)) ?_
          unfold wL_law_364
          exact qz_364 R' (by omega) b0 W xx (.inl rfl) (H _ u')
        · refine br_f (nI_ge (by omega) (by omega)) ?_
          refine qz_kw _ (by omega) hL ?_
          have kl : qz_kd L' xs mp < 8 := Nat.mod_lt _ (by decide)
          by_cases k1 : qz_kd L' xs mp = 1
          · exact br_t (by rw [k1]; rfl) (qz_318 hL K I Z M MC (by omega) hm24 b0 c0 (by omega) (.inl k1) H)
          · refine br_f (fun y => k1 ((nI_eq (b := 1) (by omega) (by decide)).mp y)) ?_
            by_cases k2 : qz_kd L' xs mp = 2
            · exact br_t (by rw [k2]; rfl) (qz_318 hL K I Z M MC (by omega) hm24 b0 c0 (by omega) (.inr (.inr k2)) H)
            · refine br_f (fun y => k2 ((nI_eq (b := 2) (by omega) (by decide)).mp y)) ?_
              by_cases k7 : qz_kd L' xs mp = 7
              · exact br_t (by rw [k7]; rfl) (qz_318 hL K I Z M MC (by omega) hm24 b0 c0 (by omega) (.inr (.inl k7)) H)
              · refine br_f (fun y => k7 ((nI_eq (b := 7) (by omega) (by decide)).mp y)) ?_
                unfold wL_law_364
                exact qz_364 R' (by omega) b0 W xx (.inl rfl) (H _ u')
      · have e : qz_mp cu mp = mp := if_neg c0
        have hc1 := Z.1.2.1 cu c0 c5 (I.2.2.2.2.1.2.2.2.1 c0)
        have hjB : h ≤ j := K.2.2.2.2.1
        refine br_f (fun y => by have := (nI_eq (b := 0) (by omega) (by decide)).mp y; omega) (br_t rfl ?_)
        unfold wL_law_364
        exact qz_364 R' (by omega) b0 W ⟨fun _ => by rw [e], fun z => absurd rfl z⟩ (.inl rfl) (H _ u')
end
end
section
def qz_PC (L : Nat) (xs : Nat → Int32) (i : Nat) (oo oa ob : Nat → Int32) : Prop :=
  ∀ t, t < i → (oo t = 0 ∨ oo t = 1 ∨ oo t = 12 ∨ oo t = 13 ∨ oo t = 14 ∨ oo t = 16 ∨ oo t = 17) ∧ ((qz_kd L xs t = 1 ∨ qz_kd L xs t = 7) → oo t = 13 ∧ oa t = 2 ∧ ob t = nI (qz_hb L xs t)) ∧ (qz_kd L xs t = 2 → oo t = 14 ∧ oa t = 2 ∧ ob t = nI (qz_hb L xs t))
theorem qz_PCs {L : Nat} {xs : Nat → Int32} {i : Nat} {oo oa ob : Nat → Int32} {o a b : Int32} (h : qz_PC L xs i oo oa ob) (mi : qz_mi L xs i o a b) : qz_PC L xs (i + 1) (upd oo i o) (upd oa i a) (upd ob i b) := by
  intro t ht
  by_cases z : t = i
  · rw [z, pk_us, pk_us, pk_us]; exact mi.2
  · rw [pk_un z, pk_un z, pk_un z]; exact h t (by omega)
theorem qz_PCc {L : Nat} {xs : Nat → Int32} {i : Nat} {oo oa ob oo' oa' ob' : Nat → Int32} (h : qz_PC L xs i oo oa ob) (e : ∀ t, t < i → oo' t = oo t ∧ oa' t = oa t ∧ ob' t = ob t) : qz_PC L xs i oo' oa' ob' := by
  intro t ht
  obtain ⟨e1, e2, e3⟩ := e t ht
  rw [e1, e2, e3]
  exact h t ht
def qz_gL (w : Int64) : Prop := qz_g (fun _ => 0) (fun _ => 0) 0 w
section
variable {mc md cl lc cu h B mp mL : Nat} {st rt lh rd re : Int32} {D : Nat → Prop} {oo oa ob oc lg rg tg : Nat → Int32} {hd d s lv rs bd yr p q n m : Nat → Nat} {c r t x a b : Nat} {l L : List Nat}
theorem qz_chkL (P : Int64 → Prop) {w : Int64} (m1 : 1 ≤ mc) (m4 : mc ≤ 4) (hs : ∀ t, t < 5 → s t = 3) (g : qz_gL w) (H : ∀ w', qz_gL w' → P w') : wpL_check P (nI mc, nI md, nI cl, nI 0, 0, 0, nI 0, nI 0, 0, 0, oo, oa, ob, oc, (fun _ => 0), (fun zz => nI (((fun _ => 0)) zz)), (fun zz => nI (s zz)), (fun zz => nI (((fun _ => 0)) zz)), (fun zz => nI (((fun _ => 0)) zz)), (fun zz => nI (((fun _ => 0)) zz)), (fun zz => nI (((fun _ => 0)) zz)), (fun zz => nI (((fun _ => 0)) zz)), (fun _ => 0), (fun _ => 0)) w (nI mc) :=
  qz_check (lv := fun _ => 0) (hd := fun _ => 0) (h := 0) (rs := fun _ => 0) (bd := fun _ => 0) (d := fun _ => 0) (p := fun _ => 0) (n := fun _ => 0) P (fun t _ t5 => .inl ⟨hs t t5, rfl⟩) (fun t _ _ z => absurd z (by decide)) (by omega) (fun t t' _ _ _ _ z => absurd z (by decide)) m1 m4 (fun _ _ _ => rfl) g H
theorem qz_I0 (hs : ∀ t, t < 5 → s t = 3) : qc_I mc md oo oa ob (fun _ => 0) s (fun _ => 0) (fun _ => 0) (fun _ => 0) (fun _ => 0) (fun _ => 0) (fun _ => 0) (fun _ => 0) [] :=
  ⟨trivial, List.nodup_nil, fun t ht => absurd ht List.not_mem_nil, fun _ _ _ => rfl, fun t t5 => .inl ⟨hs t t5, rfl, rfl⟩⟩
theorem qz_149 {L' : Nat} {xs : Nat → Int32} (hL : L' ≤ 260) {kc ks bb ll : Nat} (m1 : 1 ≤ mc) (m4 : mc ≤ 4) (d1 : 1 ≤ md) (d6 : md ≤ 6) (hs : ∀ t, t < 5 → s t = 3) (hm24 : mL ≤ 24) (l1 : 1 ≤ ll) (l64 : ll ≤ 64) :
    ∀ (k j : Nat) (w : Int64) (cl : Nat) (oo oa ob oc : Nat → Int32), j + k = ll → mL < cl → cl ≤ 64 → (∀ i, i < cl → qc_Fit (oo i) (oa i) (ob i) (oc i)) → qz_PC L' xs mL oo oa ob → oo mL = 8 → qz_gL w →
      wL_law_149 (fun r => r = 1) L' xs (nI mc) (nI mL) (nI bb) (nI ll) kc ks (k + 1) w (nI j) (nI mc) (nI md) (nI cl) (nI 0) 0 0 (nI 0) (nI 0) 0 0 oo oa ob oc (fun _ => 0) (fun zz => nI (((fun _ => 0)) zz)) (fun zz => nI (s zz)) (fun zz => nI (((fun _ => 0)) zz)) (fun zz => nI (((fun _ => 0)) zz)) (fun zz => nI (((fun _ => 0)) zz)) (fun zz => nI (((fun _ => 0)) zz)) (fun zz => nI (((fun _ => 0)) zz)) (fun _ => 0) (fun _ => 0) := by
  intro k
  induction k with
  | zero =>
    intro j w cl oo oa ob oc hj hcl c64 fit pc o8 g
    refine br_t (nI_le (by omega) (by omega)) ?_
    refine qz_cw _ (k := 3) rfl (by omega) hL ?_
    generalize qz_cell L' xs 3 &&& 255 = v
    obtain ⟨-, I'⟩ := qc_tr_start (b := 0) d6 d1 (qz_I0 (mc := mc) (md := md) (oo := oo) (oa := oa) (ob := ob) hs) (by omega)
    have K : qc_K mc md cl 0 0 0 oo oa ob oc (fun _ => 0) (fun _ => 0) := ⟨⟨m1, m4⟩, ⟨d1, d6⟩, c64, by omega, by omega, fit, fun _ => (by decide : 0 < 64), rfl⟩
    have Z : ∀ w : Int64, qz_gL w → qz_Z (fun _ => 0) (fun _ => 0) (qc_u (fun _ => 0) 0 (0 + 1)) (qc_u (fun _ => 0) (0 * 6 + 0) 0) 0 0 mL (qz_D w) [0] := fun w g =>
      ⟨⟨rfl, fun t _ _ z => absurd (show (0 : Nat) = 1 from z) (by decide), fun t t' _ _ _ _ z => absurd (show (0 : Nat) = 1 from z) (by decide)⟩, fun j hj => g.2 j hj.1 hj.2.1 hj.2.2, fun _ => ⟨rfl, rfl, by omega⟩⟩
    refine br_t rfl (br_f (by decide) (br_t (nI_lt (a := 0) (by omega) (by omega)) (qc_xpush (t := 0) (d := fun _ => 0) (p := fun _ => 0) (n := fun _ => 0) (a := 0) _ v (by omega) (by decide) (nm_r (qc_uI _ 0 1) ?_))))
    refine qz_chk (B := 0) (mp := 0) (mL := mL) (L := [0]) (lv := fun _ => 0) (hd := fun _ => 0) (w := w) _ K (by omega) I' (Z w g) g.1 (fun w' b' Z' => br_t ((qz_b0 w').mpr b') ⟨301, ?_⟩)
    exact qz_loop (mc := mc) (cl := cl) (oo := oo) (oa := oa) (ob := ob) (oc := oc) (mL := mL) hL ⟨hcl, o8, fun i hi => (pc i hi).1⟩ (fun i hi => (pc i hi).2) hm24 300 0 0 w' _ (by omega) b' (qz_Rmk K I' Z')
  | succ k ih =>
    intro j w cl oo oa ob oc hj hcl c64 fit pc o8 g
    refine br_f (nI_ge (by omega) (by omega)) ?_
    refine qz_emB _ hL (by omega) l1 l64 c64 (fun cl' oo' oa' ob' oc' h1 h2 h3 h4 => ?_)
    refine qz_chkL _ m1 m4 hs g (fun w' g' => br_t ((qz_b0 w').mpr g'.1) (nm_r (nI_1 j) (ih (j + 1) w' cl' oo' oa' ob' oc' (by omega) (by omega) h2 (h4 fit) (qz_PCc pc (fun t ht => h3 t (by omega))) (by rw [(h3 mL hcl).1]; exact o8) g')))
theorem qz_89 {L' : Nat} {xs : Nat → Int32} (hL : L' ≤ 260) {kc ks bb ll : Nat} (m1 : 1 ≤ mc) (m4 : mc ≤ 4) (d1 : 1 ≤ md) (d6 : md ≤ 6) (hs : ∀ t, t < 5 → s t = 3) (hm24 : mL ≤ 24) (l1 : 1 ≤ ll) (hbl : bb + ll = 64) :
    ∀ (k i : Nat) (w : Int64) (oo oa ob oc : Nat → Int32), i + k = mL → (∀ t, t < i → qc_Fit (oo t) (oa t) (ob t) (oc t)) → qz_PC L' xs i oo oa ob → qz_gL w →
      wL_law_89 (fun r => r = 1) L' xs (nI mc) (nI mL) (nI bb) (nI ll) kc ks (k + 1) w (nI i) (nI mc) (nI md) (nI i) (nI 0) 0 0 (nI 0) (nI 0) 0 0 oo oa ob oc (fun _ => 0) (fun zz => nI (((fun _ => 0)) zz)) (fun zz => nI (s zz)) (fun zz => nI (((fun _ => 0)) zz)) (fun zz => nI (((fun _ => 0)) zz)) (fun zz => nI (((fun _ => 0)) zz)) (fun zz => nI (((fun _ => 0)) zz)) (fun zz => nI (((fun _ => 0)) zz)) (fun _ => 0) (fun _ => 0) := by
  intro k
  induction k with
  | zero =>
    intro i w oo oa ob oc hi fit pc g
    have e : i = mL := by omega
    subst e
    have F : qc_Fit 8 2 0 0 := (qc_F8 _ _ _).mpr ⟨2, by omega, rfl⟩
    refine br_t (nI_le (by omega) (by omega)) ?_
    refine qz_em (cl := i) (lc := 0) (cu := 0) (rt := 0) (lh := nI 0) (rd := 0) (re := 0) (lg := fun _ => 0) (rg := fun _ => 0) (tg := fun _ => 0) (hd := fun _ => 0) (rs := fun _ => 0) (bd := fun _ => 0) (d := fun _ => 0) (p := fun _ => 0) (n := fun _ => 0) _ _ _ _ _ (by omega) (fun _ _ => ⟨ll + 1, ?_⟩) (fun w => absurd ⟨by omega, F⟩ w)
    refine qz_149 hL m1 m4 d1 d6 hs hm24 l1 (by omega) ll 0 w (i + 1) _ _ _ _ (by omega) (by omega) (by omega) (fun t ht => ?_) (qz_PCc pc (fun t ht => ⟨pk_un (by omega), pk_un (by omega), pk_un (by omega)⟩)) pk_us g
    by_cases z : t = i
    · rw [z, pk_us, pk_us, pk_us, pk_us]; exact F
    · rw [pk_un z, pk_un z, pk_un z, pk_un z]; exact fit t (by omega)
  | succ k ih =>
    intro i w oo oa ob oc hi fit pc g
    refine br_f (nI_ge (by omega) (by omega)) ?_
    refine qz_emM (cl := i) _ hL (by omega) hbl l1 (by omega) (fun o v2 v3 mi => ?_)
    refine qz_chkL _ m1 m4 hs g (fun w' g' => br_t ((qz_b0 w').mpr g'.1) (nm_r (nI_1 i) (ih (i + 1) w' _ _ _ _ (by omega) (fun t ht => ?_) (qz_PCs pc mi) g')))
    by_cases z : t = i
    · rw [z, pk_us, pk_us, pk_us, pk_us]; exact mi.1
    · rw [pk_un z, pk_un z, pk_un z, pk_un z]; exact fit t (by omega)
theorem qz_inl (P : St2 → Prop) {m0 m2 kc ks : Nat} : ∀ (k j : Nat) (s : Nat → Nat), j + k = 5 → (∀ s' : Nat → Nat, (∀ t, j ≤ t → t < 5 → s' t = 3) → (∀ t, t < j → s' t = s t) → P (nI mc, nI md, nI cl, nI lc, st, rt, nI cu, lh, rd, re, oo, oa, ob, oc, lg, (fun zz => nI (hd zz)), (fun zz => nI (s' zz)), (fun zz => nI (rs zz)), (fun zz => nI (bd zz)), (fun zz => nI (d zz)), (fun zz => nI (p zz)), (fun zz => nI (n zz)), rg, tg)) → wX_init_135 P m0 m2 kc ks (nI mc) (nI md) (nI cl) (nI lc) st rt (nI cu) lh rd re (k + 1) (nI j) oo oa ob oc lg (fun zz => nI (hd zz)) (fun zz => nI (s zz)) (fun zz => nI (rs zz)) (fun zz => nI (bd zz)) (fun zz => nI (d zz)) (fun zz => nI (p zz)) (fun zz => nI (n zz)) rg tg := by
  intro k
  induction k with
  | zero =>
    intro j s hj H
    exact br_t (nI_le (a := 5) (by omega) (by omega)) (H s (fun t a b => by omega) (fun t _ => rfl))
  | succ k ih =>
    intro j s hj H
    refine br_f (nI_ge (b := 5) (by omega) (by decide)) ⟨vp_in_nI (by omega) (by decide), nm_r (qc_st (x := 3) rfl rfl (by omega)) (nm_r (nI_1 j) (ih (j + 1) _ (by omega) (fun s' h1 h2 => H s' (fun t a b => ?_) (fun t a => ?_))))⟩
    · by_cases z : t = j
      · rw [z, h2 j (by omega), qc_us]
      · exact h1 t (by omega) b
    · rw [h2 t (by omega), qc_uo (by omega)]
theorem qz_init (P : St2 → Prop) {x1 x2 : Int32} (h1 : ∀ Q : Int32 → Prop, Q (nI mc) → wpX_clamp Q () x1 1 4) (h2 : ∀ Q : Int32 → Prop, Q (nI md) → wpX_clamp Q () x2 1 6)
    (H : ∀ s : Nat → Nat, (∀ t, t < 5 → s t = 3) → P (nI mc, nI md, nI 0, nI 0, 0, 0, nI 0, nI 0, 0, 0, (fun _ => 0), (fun _ => 0), (fun _ => 0), (fun _ => 0), (fun _ => 0), (fun zz => nI (((fun _ => 0)) zz)), (fun zz => nI (s zz)), (fun zz => nI (((fun _ => 0)) zz)), (fun zz => nI (((fun _ => 0)) zz)), (fun zz => nI (((fun _ => 0)) zz)), (fun zz => nI (((fun _ => 0)) zz)), (fun zz => nI (((fun _ => 0)) zz)), (fun _ => 0), (fun _ => 0))) :
    wpX_init P 14 765 (0, 0, 0, 0, 0, 0, 0, 0, 0, 0) x1 x2 := by
  unfold wpX_init
  refine ⟨by omega, by omega, by omega, by omega, by omega, by omega, by omega, by omega, by omega, by omega, by omega, by omega, by omega, by omega, by omega, by omega, by omega, by omega, by omega, by omega, by omega, by omega, by omega, by omega, by omega, by omega, by omega, by omega, ?_⟩
  refine h1 _ (h2 _ ⟨6, ?_⟩)
  exact qz_inl (mc := mc) (md := md) (cl := 0) (lc := 0) (cu := 0) (hd := fun _ => 0) (rs := fun _ => 0) (bd := fun _ => 0) (d := fun _ => 0) (p := fun _ => 0) (n := fun _ => 0) P 5 0 (fun _ => 0) rfl (fun s' a b => H s' (fun t t5 => a t (Nat.zero_le t) t5))
end
theorem qz_cla (v M : Int32) (N : Nat) (hM : M.toInt = N) (hN : 1 ≤ N) (hN2 : N < 100) : ∃ j, 1 ≤ j ∧ j ≤ N ∧ (∀ P : Int32 → Prop, P (nI j) → wpX_clamp P () v 1 M) ∧ (∀ P : Int32 → Prop, P (nI j) → wpL_clamp P () v 1 M) := by
  by_cases z1 : 1 ≤ v
  · by_cases z2 : v ≤ M
    · obtain ⟨j, hj, e⟩ := nI_of2 (x := v) (M := M) hM (fun w => absurd (Int32.lt_of_le_of_lt z1 w) (by decide)) z2
      refine ⟨j, ?_, hj, fun P h => br_t z1 (br_t z2 (by rw [e]; exact h)), fun P h => br_t z1 (br_t z2 (by rw [e]; exact h))⟩
      by_cases j0 : j = 0
      · rw [e, j0] at z1
        exact absurd z1 (by decide)
      · omega
    · have e : M = nI N := Int32.toInt_inj.mp (by rw [hM, nI_toInt (by omega)])
      exact ⟨N, hN, Nat.le_refl _, fun P h => br_t z1 (br_f z2 (by rw [e]; exact h)), fun P h => br_t z1 (br_f z2 (by rw [e]; exact h))⟩
  · exact ⟨1, Nat.le_refl _, hN, fun P h => br_f z1 h, fun P h => br_f z1 h⟩
theorem i_vc (xs : Nat → Int32) (L : Nat) (hL : L ≤ 260) : wpL_law (fun r => r = 1) L xs := by
  unfold wpL_law
  refine qz_pw _ (k := 0) rfl (by omega) hL ⟨by decide, fun x1 _ => ?_⟩
  refine qz_pw _ (k := 1) rfl (by omega) hL ⟨by decide, fun x2 _ => ?_⟩
  obtain ⟨mc, m1, m4, cX, cL⟩ := qz_cla x1 4 4 (by decide) (by omega) (by omega)
  obtain ⟨md, d1, d6, eX, -⟩ := qz_cla x2 6 6 (by decide) (by omega) (by omega)
  refine cL _ ⟨14, 765, by omega, by omega, ?_⟩
  refine qz_init _ cX eX (fun s hs => ?_)
  have g0 : qz_gL 0 := ⟨by decide, fun j _ _ hj => by simp at hj⟩
  refine qz_chkL _ m1 m4 hs g0 (fun w g => br_t ((qz_b0 w).mpr g.1) ?_)
  refine qz_pw _ (k := 2) rfl (by omega) hL ⟨by decide, ?_⟩
  have hp := qz_pl L xs 2
  have e1 : nI (qz_pos L xs 2) - nI (qz_pos L xs 2) / 17 * 17 = nI (qz_pos L xs 2 % 17) := pk_rem hp (d := 17) (by decide) (by decide)
  have hr : qz_pos L xs 2 % 17 < 17 := Nat.mod_lt _ (by decide)
  generalize qz_pos L xs 2 % 17 = r at *
  have e2 : 8 + nI r = nI (8 + r) := nI_add 8 r
  have e3 : 64 - nI (8 + r + 1) = nI (64 - (8 + r + 1)) := pk_sub (a := 64) (by omega)
  refine nm_r (by rw [e1, e2]) (nm_r (nI_1 _) (nm_r e3 ⟨8 + r + 1, ?_⟩))
  exact qz_89 (mc := mc) (md := md) (s := s) (mL := 8 + r) (bb := 8 + r + 1) (ll := 64 - (8 + r + 1)) hL m1 m4 d1 d6 hs (by omega) (by omega) (by omega) (8 + r) 0 w _ _ _ _ (by omega) (fun t ht => absurd ht (Nat.not_lt_zero t)) (fun t ht => absurd ht (Nat.not_lt_zero t)) g
end
