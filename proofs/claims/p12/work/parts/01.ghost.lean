def qc_u (d : Nat → Nat) (k x : Nat) : Nat → Nat := fun j => if j = k then x else d j
theorem qc_us (d : Nat → Nat) (k x : Nat) : qc_u d k x k = x := by simp [qc_u]
theorem qc_uo {d : Nat → Nat} {k x j : Nat} (h : j ≠ k) : qc_u d k x j = d j := by simp [qc_u, h]
theorem qc_uI (d : Nat → Nat) (k x : Nat) : upd (fun t => nI (d t)) k (nI x) = fun t => nI (qc_u d k x t) := by
  funext j
  by_cases h : j = k
  · simp [upd, qc_u, h]
  · simp [upd, qc_u, h]
theorem qc_ue {d : Nat → Nat} {k x : Nat} (h : d k = x) : qc_u d k x = d := by
  funext j
  by_cases e : j = k
  · rw [e, qc_us, h]
  · exact qc_uo e

def qc_Lk (rs : Nat → Nat) : List Nat → Prop
  | [] => True
  | [x] => x = 0
  | x :: y :: l => x ≠ 0 ∧ rs x = y ∧ qc_Lk rs (y :: l)
theorem qc_Lk_t {rs : Nat → Nat} {x : Nat} {l : List Nat} (h : qc_Lk rs (x :: l)) : qc_Lk rs l := by
  cases l with
  | nil => trivial
  | cons y l => exact h.2.2
theorem qc_Lk_0 {rs : Nat → Nat} : ∀ (l : List Nat) (x : Nat), qc_Lk rs (x :: l) → 0 ∈ x :: l := by
  intro l
  induction l with
  | nil => intro x h; have h : x = 0 := h; simp [h]
  | cons y l ih => intro x h; exact List.mem_cons_of_mem _ (ih y h.2.2)
theorem qc_Lk_c {rs : Nat → Nat} {k v : Nat} : ∀ L : List Nat, k ∉ L → qc_Lk rs L → qc_Lk (qc_u rs k v) L := by
  intro L
  induction L with
  | nil => intro _ _; trivial
  | cons x l ih =>
    intro hk h
    cases l with
    | nil => exact h
    | cons y l =>
      have hx : x ≠ k := fun e => hk (by rw [e]; exact List.mem_cons_self)
      exact ⟨h.1, by rw [qc_uo hx]; exact h.2.1, ih (fun e => hk (List.mem_cons_of_mem _ e)) h.2.2⟩
theorem qc_Lk_1 {rs : Nat → Nat} {x : Nat} {l : List Nat} (h : qc_Lk rs (x :: l)) (hx : x ≠ 0) : ∃ r l', l = r :: l' ∧ rs x = r := by
  cases l with
  | nil => exact absurd h hx
  | cons y l => exact ⟨y, l, rfl, h.2.1⟩
theorem qc_Lk_2 {rs : Nat → Nat} {l : List Nat} (h : qc_Lk rs (0 :: l)) : l = [] := by
  cases l with
  | nil => rfl
  | cons y l => exact absurd rfl h.1
theorem qc_len {L : List Nat} (hn : L.Nodup) (h : ∀ t, t ∈ L → t < 5) : L.length ≤ 5 := by
  have := hn.length_le_of_subset (l₂ := List.range 5) (fun t ht => List.mem_range.mpr (h t ht))
  simpa using this

def qc_RA (A : Nat → Int32) (x : Nat) : Prop := 1 ≤ x ∧ x ≤ 64 ∧ ∃ a, a < 8 ∧ A (x - 1) = nI a
def qc_Th (A : Nat → Int32) (p q n m : Nat → Nat) (t dt : Nat) : Prop :=
  ∀ l, l < dt → q (t * 6 + l) = p (t * 6 + l) ∧ p (t * 6 + l) ≤ 64 ∧ m (t * 6 + l) = n (t * 6 + l) ∧ n (t * 6 + l) ≤ 4 ∧ (l + 1 < dt → qc_RA A (p (t * 6 + l)))
def qc_Tw (n m : Nat → Nat) (t dt : Nat) : Prop := ∀ l, l < dt → m (t * 6 + l) = n (t * 6 + l) ∧ n (t * 6 + l) ≤ 4
theorem qc_Tw_of {A : Nat → Int32} {p q n m : Nat → Nat} {t dt : Nat} (h : qc_Th A p q n m t dt) : qc_Tw n m t dt :=
  fun l hl => ⟨(h l hl).2.2.1, (h l hl).2.2.2.1⟩
def qc_H (md : Nat) (oa : Nat → Int32) (d s lv p q n m : Nat → Nat) (t : Nat) : Prop :=
  0 < d t ∧ d t ≤ md ∧ s t = 1 ∧ (t ≠ 0 → lv t = 1) ∧ qc_Th oa p q n m t (d t)
def qc_W (md : Nat) (d s lv n m : Nat → Nat) (t : Nat) : Prop :=
  0 < d t ∧ d t ≤ md ∧ s t = 1 ∧ (t ≠ 0 → lv t = 1) ∧ qc_Tw n m t (d t)
def qc_N (md : Nat) (oo oa : Nat → Int32) (d s lv p q n m : Nat → Nat) (t : Nat) : Prop :=
  0 < d t ∧ d t ≤ md ∧ s t = 2 ∧ (t ≠ 0 → lv t = 1) ∧ qc_Th oa p q n m t (d t) ∧
  qc_RA oa (p (t * 6 + d t - 1)) ∧ (oo (p (t * 6 + d t - 1) - 1) = 13 ∨ oo (p (t * 6 + d t - 1) - 1) = 14)
def qc_O (md : Nat) (oa ob : Nat → Int32) (d s lv yr p q n m : Nat → Nat) (t : Nat) : Prop :=
  (s t = 3 ∧ lv t = 0 ∧ d t = 0) ∨
  (t ≠ 0 ∧ s t = 0 ∧ lv t = 1 ∧ d t ≤ md ∧ qc_Th oa p q n m t (d t) ∧
    (0 < d t → 1 ≤ p (t * 6 + d t - 1) ∧ yr t < 8 ∧ ob (p (t * 6 + d t - 1) - 1) = nI (yr t)))
def qc_F (p q n m p' q' n' m' : Nat → Nat) (t : Nat) : Prop :=
  ∀ l, l < 6 → p' (t * 6 + l) = p (t * 6 + l) ∧ q' (t * 6 + l) = q (t * 6 + l) ∧ n' (t * 6 + l) = n (t * 6 + l) ∧ m' (t * 6 + l) = m (t * 6 + l)
def qc_E (d s lv yr p q n m d' s' lv' yr' p' q' n' m' : Nat → Nat) (t : Nat) : Prop :=
  d' t = d t ∧ s' t = s t ∧ lv' t = lv t ∧ yr' t = yr t ∧ qc_F p q n m p' q' n' m' t

section
variable {mc md : Nat} {oo oa ob : Nat → Int32} {d s lv rs yr p q n m d' s' lv' yr' p' q' n' m' : Nat → Nat}
theorem qc_Th_c {t dt : Nat} (hd : dt ≤ 6) (e : qc_F p q n m p' q' n' m' t) (h : qc_Th oa p q n m t dt) : qc_Th oa p' q' n' m' t dt := by
  intro l hl
  obtain ⟨e1, e2, e3, e4⟩ := e l (by omega)
  rw [e1, e2, e3, e4]
  exact h l hl
theorem qc_Tw_c {t dt : Nat} (hd : dt ≤ 6) (e : qc_F p q n m p' q' n' m' t) (h : qc_Tw n m t dt) : qc_Tw n' m' t dt := by
  intro l hl
  obtain ⟨e1, e2, e3, e4⟩ := e l (by omega)
  rw [e3, e4]
  exact h l hl
theorem qc_top {t dt : Nat} (h0 : 0 < dt) (hd : dt ≤ 6) (e : qc_F p q n m p' q' n' m' t) : p' (t * 6 + dt - 1) = p (t * 6 + dt - 1) := by
  have := (e (dt - 1) (by omega)).1
  have h : t * 6 + (dt - 1) = t * 6 + dt - 1 := by omega
  rw [h] at this
  exact this
theorem qc_H_c {t : Nat} (hm : md ≤ 6) (e : qc_E d s lv yr p q n m d' s' lv' yr' p' q' n' m' t) (h : qc_H md oa d s lv p q n m t) : qc_H md oa d' s' lv' p' q' n' m' t := by
  obtain ⟨e1, e2, e3, e4, e5⟩ := e
  obtain ⟨h1, h2, h3, h4, h5⟩ := h
  unfold qc_H
  rw [e1, e2, e3]
  exact ⟨h1, h2, h3, h4, qc_Th_c (by omega) e5 h5⟩
theorem qc_N_c {t : Nat} (hm : md ≤ 6) (e : qc_E d s lv yr p q n m d' s' lv' yr' p' q' n' m' t) (h : qc_N md oo oa d s lv p q n m t) : qc_N md oo oa d' s' lv' p' q' n' m' t := by
  obtain ⟨e1, e2, e3, e4, e5⟩ := e
  obtain ⟨h1, h2, h3, h4, h5, h6, h7⟩ := h
  unfold qc_N
  rw [e1, e2, e3, qc_top h1 (by omega) e5]
  exact ⟨h1, h2, h3, h4, qc_Th_c (by omega) e5 h5, h6, h7⟩
theorem qc_O_c {t : Nat} (hm : md ≤ 6) (e : qc_E d s lv yr p q n m d' s' lv' yr' p' q' n' m' t) (h : qc_O md oa ob d s lv yr p q n m t) : qc_O md oa ob d' s' lv' yr' p' q' n' m' t := by
  obtain ⟨e1, e2, e3, e4, e5⟩ := e
  unfold qc_O
  rw [e1, e2, e3, e4]
  rcases h with h | ⟨h0, h1, h2, h3, h4, h5⟩
  · exact .inl h
  · refine .inr ⟨h0, h1, h2, h3, qc_Th_c (by omega) e5 h4, fun z => ?_⟩
    rw [qc_top z (by omega) e5]
    exact h5 z

def qc_Hs (Hd Nn Oo : Nat → Prop) : List Nat → Prop
  | [] => ∀ t, t < 5 → Oo t
  | c :: l => Hd c ∧ (∀ t, t ∈ l → Nn t) ∧ ∀ t, t < 5 → t ∉ c :: l → Oo t
def qc_G (rs lv : Nat → Nat) (mc : Nat) (Hd Nn Oo : Nat → Prop) (L : List Nat) : Prop :=
  qc_Lk rs L ∧ L.Nodup ∧ (∀ t, t ∈ L → t < 5) ∧ (∀ t, mc < t → t < 5 → lv t = 0) ∧ qc_Hs Hd Nn Oo L
end
def qc_I (mc md : Nat) (oo oa ob : Nat → Int32) (d s lv rs yr p q n m : Nat → Nat) (L : List Nat) : Prop :=
  qc_G rs lv mc (qc_H md oa d s lv p q n m) (qc_N md oo oa d s lv p q n m) (qc_O md oa ob d s lv yr p q n m) L
def qc_J (mc md : Nat) (oo oa ob : Nat → Int32) (d s lv rs yr p q n m : Nat → Nat) (L : List Nat) : Prop :=
  qc_G rs lv mc (qc_W md d s lv n m) (qc_N md oo oa d s lv p q n m) (qc_O md oa ob d s lv yr p q n m) L

section
variable {mc md : Nat} {oo oa ob : Nat → Int32} {d s lv rs yr p q n m d' s' lv' yr' p' q' n' m' : Nat → Nat} {c r t : Nat} {l : List Nat}
theorem qc_W_of (h : qc_H md oa d s lv p q n m t) : qc_W md d s lv n m t := ⟨h.1, h.2.1, h.2.2.1, h.2.2.2.1, qc_Tw_of h.2.2.2.2⟩
theorem qc_J_of (I : qc_I mc md oo oa ob d s lv rs yr p q n m (c :: l)) : qc_J mc md oo oa ob d s lv rs yr p q n m (c :: l) :=
  ⟨I.1, I.2.1, I.2.2.1, I.2.2.2.1, qc_W_of I.2.2.2.2.1, I.2.2.2.2.2.1, I.2.2.2.2.2.2⟩
/-- only the head thread's own data change -/
theorem qc_I_hd (hm : md ≤ 6) (I : qc_J mc md oo oa ob d s lv rs yr p q n m (c :: l))
    (e : ∀ t, t < 5 → t ≠ c → qc_E d s lv yr p q n m d' s lv yr p' q' n' m' t)
    (h : qc_H md oa d' s lv p' q' n' m' c) : qc_I mc md oo oa ob d' s lv rs yr p' q' n' m' (c :: l) := by
  obtain ⟨i1, i2, i3, i4, i5, i6, i7⟩ := I
  have hc : c ∉ l := (List.nodup_cons.mp i2).1
  refine ⟨i1, i2, i3, i4, h, fun t ht => ?_, fun t h5 ht => ?_⟩
  · exact qc_N_c hm (e t (i3 t (List.mem_cons_of_mem _ ht)) (fun z => hc (z ▸ ht))) (i6 t ht)
  · exact qc_O_c hm (e t h5 (fun z => ht (by rw [z]; exact List.mem_cons_self))) (i7 t h5 ht)
theorem qc_J_hd (hm : md ≤ 6) (I : qc_J mc md oo oa ob d s lv rs yr p q n m (c :: l))
    (e : ∀ t, t < 5 → t ≠ c → qc_E d s lv yr p q n m d' s lv yr p' q' n' m' t)
    (h : qc_W md d' s lv n' m' c) : qc_J mc md oo oa ob d' s lv rs yr p' q' n' m' (c :: l) := by
  obtain ⟨i1, i2, i3, i4, i5, i6, i7⟩ := I
  have hc : c ∉ l := (List.nodup_cons.mp i2).1
  refine ⟨i1, i2, i3, i4, h, fun t ht => ?_, fun t h5 ht => ?_⟩
  · exact qc_N_c hm (e t (i3 t (List.mem_cons_of_mem _ ht)) (fun z => hc (z ▸ ht))) (i6 t ht)
  · exact qc_O_c hm (e t h5 (fun z => ht (by rw [z]; exact List.mem_cons_self))) (i7 t h5 ht)
/-- the head leaves the chain for its resumer -/
theorem qc_I_lv (hm : md ≤ 6) (I : qc_J mc md oo oa ob d s lv rs yr p q n m (c :: r :: l))
    (e : ∀ t, t < 5 → t ≠ c → t ≠ r → qc_E d s lv yr p q n m d' s' lv' yr' p' q' n' m' t)
    (er : d' r = d r ∧ lv' r = lv r ∧ qc_F p q n m p' q' n' m' r) (hs : s' r = 1)
    (ho : qc_O md oa ob d' s' lv' yr' p' q' n' m' c) :
    qc_I mc md oo oa ob d' s' lv' rs yr' p' q' n' m' (r :: l) := by
  obtain ⟨i1, i2, i3, i4, i5, i6, i7⟩ := I
  have hc : c ∉ r :: l := (List.nodup_cons.mp i2).1
  have i2' := (List.nodup_cons.mp i2).2
  have hr : r ∉ l := (List.nodup_cons.mp i2').1
  have hrc : r ≠ c := fun z => hc (by rw [z]; exact List.mem_cons_self)
  have c0 : c ≠ 0 := i1.1
  have hcm : ¬ mc < c := fun z => by
    have a := i4 c z (i3 c List.mem_cons_self)
    have b := i5.2.2.2.1 c0
    omega
  refine ⟨qc_Lk_t i1, i2', fun t ht => i3 t (List.mem_cons_of_mem _ ht), fun t h1 h5 => ?_, ?_, fun t ht => ?_, fun t h5 ht => ?_⟩
  · by_cases z : t = c
    · exact absurd (z ▸ h1) hcm
    · by_cases y : t = r
      · rw [y, er.2.1]; exact i4 r (y ▸ h1) (y ▸ h5)
      · rw [(e t h5 z y).2.2.1]; exact i4 t h1 h5
  · obtain ⟨h1, h2, h3, h4, h5, h6, h7⟩ := i6 r List.mem_cons_self
    unfold qc_H
    rw [er.1, er.2.1]
    exact ⟨h1, h2, hs, h4, qc_Th_c (by omega) er.2.2 h5⟩
  · have tc : t ≠ c := fun z => hc (z ▸ List.mem_cons_of_mem _ ht)
    have tr : t ≠ r := fun z => hr (z ▸ ht)
    exact qc_N_c hm (e t (i3 t (List.mem_cons_of_mem _ (List.mem_cons_of_mem _ ht))) tc tr) (i6 t (List.mem_cons_of_mem _ ht))
  · by_cases z : t = c
    · rw [z]; exact ho
    · have tr : t ≠ r := fun y => ht (by rw [y]; exact List.mem_cons_self)
      refine qc_O_c hm (e t h5 z tr) (i7 t h5 fun y => ?_)
      rcases List.mem_cons.mp y with y | y
      · exact z y
      · exact ht y
/-- the main thread ends -/
theorem qc_I_end (hm : md ≤ 6) (I : qc_J mc md oo oa ob d s lv rs yr p q n m [c])
    (e : ∀ t, t < 5 → t ≠ c → qc_E d s lv yr p q n m d' s' lv' yr' p' q' n' m' t)
    (ho : qc_O md oa ob d' s' lv' yr' p' q' n' m' c) :
    qc_I mc md oo oa ob d' s' lv' rs yr' p' q' n' m' [] := by
  obtain ⟨i1, i2, i3, i4, i5, i6, i7⟩ := I
  have c0 : c = 0 := i1
  refine ⟨trivial, List.nodup_nil, fun t ht => absurd ht List.not_mem_nil, fun t h1 h5 => ?_, fun t h5 => ?_⟩
  · rw [(e t h5 (by omega)).2.2.1]; exact i4 t h1 h5
  · by_cases z : t = c
    · rw [z]; exact ho
    · exact qc_O_c hm (e t h5 z) (i7 t h5 (by simpa using z))
/-- a thread outside the chain is entered -/
theorem qc_I_en (hm : md ≤ 6) (I : qc_I mc md oo oa ob d s lv rs yr p q n m (c :: l)) (h5 : t < 5) (h0 : t ≠ 0) (ht : t ∉ c :: l)
    (e : ∀ x, x < 5 → x ≠ c → x ≠ t → qc_E d s lv yr p q n m d' s' lv yr p' q' n' m' x)
    (hN : qc_N md oo oa d' s' lv p' q' n' m' c) (hH : qc_H md oa d' s' lv p' q' n' m' t) :
    qc_I mc md oo oa ob d' s' lv (qc_u rs t c) yr p' q' n' m' (t :: c :: l) := by
  obtain ⟨i1, i2, i3, i4, i5, i6, i7⟩ := I
  have hc : c ∉ l := (List.nodup_cons.mp i2).1
  refine ⟨⟨h0, qc_us _ _ _, qc_Lk_c _ ht i1⟩, List.nodup_cons.mpr ⟨ht, i2⟩, fun x hx => ?_, i4, hH, fun x hx => ?_, fun x x5 hx => ?_⟩
  · rcases List.mem_cons.mp hx with y | y
    · rw [y]; exact h5
    · exact i3 x y
  · rcases List.mem_cons.mp hx with y | y
    · rw [y]; exact hN
    · exact qc_N_c hm (e x (i3 x hx) (fun z => hc (z ▸ y)) (fun z => ht (z ▸ hx))) (i6 x y)
  · have h1 : x ∉ c :: l := fun z => hx (List.mem_cons_of_mem _ z)
    exact qc_O_c hm (e x x5 (fun z => h1 (by rw [z]; exact List.mem_cons_self)) (fun z => hx (by rw [z]; exact List.mem_cons_self))) (i7 x x5 h1)
/-- a thread outside the chain changes -/
theorem qc_I_out (hm : md ≤ 6) (I : qc_I mc md oo oa ob d s lv rs yr p q n m (c :: l)) (ht : t ∉ c :: l)
    (e : ∀ x, x < 5 → x ≠ t → qc_E d s lv yr p q n m d' s' lv' yr' p' q' n' m' x)
    (hl : t < 5 → mc < t → lv' t = 0) (ho : t < 5 → qc_O md oa ob d' s' lv' yr' p' q' n' m' t) :
    qc_I mc md oo oa ob d' s' lv' rs yr' p' q' n' m' (c :: l) := by
  obtain ⟨i1, i2, i3, i4, i5, i6, i7⟩ := I
  have nt : ∀ x, x ∈ c :: l → x ≠ t := fun x hx z => ht (z ▸ hx)
  refine ⟨i1, i2, i3, fun x h1 x5 => ?_, ?_, fun x hx => ?_, fun x x5 hx => ?_⟩
  · by_cases z : x = t
    · rw [z]; exact hl (z ▸ x5) (z ▸ h1)
    · rw [(e x x5 z).2.2.1]; exact i4 x h1 x5
  · exact qc_H_c hm (e c (i3 c List.mem_cons_self) (nt c List.mem_cons_self)) i5
  · exact qc_N_c hm (e x (i3 x (List.mem_cons_of_mem _ hx)) (nt x (List.mem_cons_of_mem _ hx))) (i6 x hx)
  · by_cases z : x = t
    · rw [z]; exact ho (z ▸ x5)
    · exact qc_O_c hm (e x x5 z) (i7 x x5 hx)
/-- the program starts -/
theorem qc_I_beg (hm : md ≤ 6) (I : qc_I mc md oo oa ob d s lv rs yr p q n m [])
    (e : ∀ x, x < 5 → x ≠ 0 → qc_E d s lv yr p q n m d' s' lv yr p' q' n' m' x)
    (hH : qc_H md oa d' s' lv p' q' n' m' 0) :
    qc_I mc md oo oa ob d' s' lv rs yr p' q' n' m' [0] := by
  obtain ⟨i1, i2, i3, i4, i5⟩ := I
  refine ⟨rfl, by simp, fun x hx => ?_, i4, hH, fun x hx => absurd hx List.not_mem_nil, fun x x5 hx => ?_⟩
  · have : x = 0 := by simpa using hx
    omega
  · exact qc_O_c hm (e x x5 (by simpa using hx)) (i5 x x5)
end
