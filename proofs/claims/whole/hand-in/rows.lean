section
theorem pk_us {f : Nat → Int32} {k : Nat} {x : Int32} : upd f k x k = x := if_pos rfl
theorem pk_un {f : Nat → Int32} {k j : Nat} {x : Int32} (h : j ≠ k) : upd f k x j = f j := if_neg h
theorem pk_sub {a b : Nat} (h : b ≤ a) : nI a - nI b = nI (a - b) := by
  obtain ⟨c, rfl⟩ : ∃ c, a = c + b := ⟨a - b, by omega⟩
  rw [← nI_add, Int32.add_sub_cancel, Nat.add_sub_cancel]
theorem pk_m1 (n : Nat) : nI (n + 1) + (-1) = nI n := by
  rw [← nI_1, Int32.add_assoc, show (1 : Int32) + (-1) = 0 from rfl, Int32.add_zero]
theorem pk_mul (a b : Nat) : nI a * nI b = nI (a * b) := (Int32.ofNat_mul a b).symm
theorem pk_div {a d : Nat} (ha : a < 2 ^ 31) (h0 : 0 < d) (hd : d < 2 ^ 31) : nI a / nI d = nI (a / d) := by
  apply Int32.toInt_inj.mp
  rw [lg_idiv_nonneg (by rw [nI_toInt ha]; omega) (by rw [nI_toInt hd]; omega), nI_toInt ha, nI_toInt hd, nI_toInt (Nat.lt_of_le_of_lt (Nat.div_le_self a d) ha)]
  first | rfl | exact (Int.natCast_ediv _ _).symm
theorem pk_rem {a d : Nat} (ha : a < 2 ^ 31) (h0 : 0 < d) (hd : d < 2 ^ 31) : nI a - nI a / nI d * nI d = nI (a % d) := by
  rw [pk_div ha h0 hd, pk_mul, pk_sub (Nat.div_mul_le_self a d)]
  exact congrArg nI (by have := Nat.div_add_mod' a d; omega)
theorem pk_ix (x : Int32) {n : Nat} (hn : n < 2 ^ 31) : x < 0 ∨ nI n ≤ x ∨ ∃ j : Nat, j < n ∧ x = nI j := by
  by_cases h : x < 0
  · exact Or.inl h
  · obtain ⟨j, hj, rfl⟩ := nI_of h
    by_cases h2 : j < n
    · exact Or.inr (Or.inr ⟨j, h2, rfl⟩)
    · exact Or.inr (Or.inl (nI_le (by omega) hj))
theorem pk_le {x y : Int32} {A B : Prop} (a b : Nat) (f : a ≤ b → A) (g : b < a → B) (hx : x = nI a := by rfl) (hy : y = nI b := by rfl) (ha : a < 2 ^ 31 := by omega) (hb : b < 2 ^ 31 := by omega) : (x ≤ y → A) ∧ (¬ x ≤ y → B) := by
  subst hx hy
  rw [nI_leI ha hb]
  exact ⟨f, fun z => g (by omega)⟩
theorem pk_lt {x y : Int32} {A B : Prop} (a b : Nat) (f : a < b → A) (g : b ≤ a → B) (hx : x = nI a := by rfl) (hy : y = nI b := by rfl) (ha : a < 2 ^ 31 := by omega) (hb : b < 2 ^ 31 := by omega) : (x < y → A) ∧ (¬ x < y → B) := by
  subst hx hy
  rw [nI_ltI ha hb]
  exact ⟨f, fun z => g (by omega)⟩
theorem pk_eq {x y : Int32} {A B : Prop} (a b : Nat) (f : a = b → A) (g : a ≠ b → B) (hx : x = nI a := by rfl) (hy : y = nI b := by rfl) (ha : a < 2 ^ 31 := by omega) (hb : b < 2 ^ 31 := by omega) : (x = y → A) ∧ (¬ x = y → B) := by
  subst hx hy
  rw [nI_eq ha hb]
  exact ⟨f, g⟩
theorem pk_in {x : Int32} (n N : Nat) (h : n < N) (hx : x = nI n := by rfl) (hN : N < 2 ^ 31 := by omega) : vp_in x N := by
  subst hx
  exact vp_in_nI h hN
theorem pk_cl {x : Int32} (n : Nat) (hx : x = nI n := by rfl) (h : n < 2 ^ 31 := by omega) : x.toNatClampNeg = n := by
  subst hx
  exact nI_clamp h
theorem pk_tn {n : Nat} (h : n < 2 ^ 32) : (nI n).toBitVec.toNat = n := Nat.mod_eq_of_lt h
theorem pk_and (x : Int32) {m : Int32} (k : Nat) (hm : m.toBitVec.toNat = 2 ^ k - 1) : x &&& m = nI (x.toBitVec.toNat % 2 ^ k) := by
  apply Int32.toBitVec_inj.mp
  apply BitVec.eq_of_toNat_eq
  rw [Int32.toBitVec_and, BitVec.toNat_and, hm, Nat.and_two_pow_sub_one_eq_mod]
  show _ = (BitVec.ofNat 32 _).toNat
  rw [BitVec.toNat_ofNat]
  exact (Nat.mod_eq_of_lt (Nat.lt_of_le_of_lt (Nat.mod_le _ _) x.toBitVec.isLt)).symm
theorem pk_andN {n : Nat} (h : n < 2 ^ 32) {m : Int32} (k : Nat) (hm : m.toBitVec.toNat = 2 ^ k - 1) : nI n &&& m = nI (n % 2 ^ k) := by
  rw [pk_and _ k hm, pk_tn h]
end
section
def qc_u (d : Nat → Nat) (k x : Nat) : Nat → Nat := fun j => if j = k then x else d j
theorem qc_us (d : Nat → Nat) (k x : Nat) : qc_u d k x k = x := by simp [qc_u]
theorem qc_uo {d : Nat → Nat} {k x j : Nat} (h : j ≠ k) : qc_u d k x j = d j := by simp [qc_u, h]
theorem qc_uI (d : Nat → Nat) (k x : Nat) : upd (fun t => nI (d t)) k (nI x) = fun t => nI (qc_u d k x t) := by
  funext j
  by_cases h : j = k
  · simp [upd, qc_u, h]
  · simp [upd, qc_u, h]
theorem qc_ue {d : Nat → Nat} {k x : Nat} (h : d k = x) : qc_u d k x = d := by
  funext j
  by_cases e : j = k
  · rw [e, qc_us, h]
  · exact qc_uo e

def qc_Lk (rs : Nat → Nat) : List Nat → Prop
  | [] => True
  | [x] => x = 0
  | x :: y :: l => x ≠ 0 ∧ rs x = y ∧ qc_Lk rs (y :: l)
theorem qc_Lk_t {rs : Nat → Nat} {x : Nat} {l : List Nat} (h : qc_Lk rs (x :: l)) : qc_Lk rs l := by
  cases l with
  | nil => trivial
  | cons y l => exact h.2.2
theorem qc_Lk_0 {rs : Nat → Nat} : ∀ (l : List Nat) (x : Nat), qc_Lk rs (x :: l) → 0 ∈ x :: l := by
  intro l
  induction l with
  | nil => intro x h; have h : x = 0 := h; simp [h]
  | cons y l ih => intro x h; exact List.mem_cons_of_mem _ (ih y h.2.2)
theorem qc_Lk_c {rs : Nat → Nat} {k v : Nat} : ∀ L : List Nat, k ∉ L → qc_Lk rs L → qc_Lk (qc_u rs k v) L := by
  intro L
  induction L with
  | nil => intro _ _; trivial
  | cons x l ih =>
    intro hk h
    cases l with
    | nil => exact h
    | cons y l =>
      have hx : x ≠ k := fun e => hk (by rw [e]; exact List.mem_cons_self)
      exact ⟨h.1, by rw [qc_uo hx]; exact h.2.1, ih (fun e => hk (List.mem_cons_of_mem _ e)) h.2.2⟩
theorem qc_Lk_1 {rs : Nat → Nat} {x : Nat} {l : List Nat} (h : qc_Lk rs (x :: l)) (hx : x ≠ 0) : ∃ r l', l = r :: l' ∧ rs x = r := by
  cases l with
  | nil => exact absurd h hx
  | cons y l => exact ⟨y, l, rfl, h.2.1⟩
theorem qc_Lk_2 {rs : Nat → Nat} {l : List Nat} (h : qc_Lk rs (0 :: l)) : l = [] := by
  cases l with
  | nil => rfl
  | cons y l => exact absurd rfl h.1
theorem qc_len {L : List Nat} (hn : L.Nodup) (h : ∀ t, t ∈ L → t < 5) : L.length ≤ 5 := by
  have := hn.length_le_of_subset (l₂ := List.range 5) (fun t ht => List.mem_range.mpr (h t ht))
  simpa using this

def qc_RA (A : Nat → Int32) (x : Nat) : Prop := 1 ≤ x ∧ x ≤ 64 ∧ ∃ a, a < 8 ∧ A (x - 1) = nI a
def qc_Th (A : Nat → Int32) (p q n m : Nat → Nat) (t dt : Nat) : Prop :=
  ∀ l, l < dt → q (t * 6 + l) = p (t * 6 + l) ∧ p (t * 6 + l) ≤ 64 ∧ m (t * 6 + l) = n (t * 6 + l) ∧ n (t * 6 + l) ≤ 4 ∧ (l + 1 < dt → qc_RA A (p (t * 6 + l)))
def qc_Tw (n m : Nat → Nat) (t dt : Nat) : Prop := ∀ l, l < dt → m (t * 6 + l) = n (t * 6 + l) ∧ n (t * 6 + l) ≤ 4
theorem qc_Tw_of {A : Nat → Int32} {p q n m : Nat → Nat} {t dt : Nat} (h : qc_Th A p q n m t dt) : qc_Tw n m t dt :=
  fun l hl => ⟨(h l hl).2.2.1, (h l hl).2.2.2.1⟩
def qc_H (md : Nat) (oa : Nat → Int32) (d s lv p q n m : Nat → Nat) (t : Nat) : Prop :=
  0 < d t ∧ d t ≤ md ∧ s t = 1 ∧ (t ≠ 0 → lv t = 1) ∧ qc_Th oa p q n m t (d t)
def qc_W (md : Nat) (d s lv n m : Nat → Nat) (t : Nat) : Prop :=
  0 < d t ∧ d t ≤ md ∧ s t = 1 ∧ (t ≠ 0 → lv t = 1) ∧ qc_Tw n m t (d t)
def qc_N (md : Nat) (oo oa : Nat → Int32) (d s lv p q n m : Nat → Nat) (t : Nat) : Prop :=
  0 < d t ∧ d t ≤ md ∧ s t = 2 ∧ (t ≠ 0 → lv t = 1) ∧ qc_Th oa p q n m t (d t) ∧
  qc_RA oa (p (t * 6 + d t - 1)) ∧ (oo (p (t * 6 + d t - 1) - 1) = 13 ∨ oo (p (t * 6 + d t - 1) - 1) = 14)
def qc_O (md : Nat) (oa ob : Nat → Int32) (d s lv yr p q n m : Nat → Nat) (t : Nat) : Prop :=
  (s t = 3 ∧ lv t = 0 ∧ d t = 0) ∨
  (t ≠ 0 ∧ s t = 0 ∧ lv t = 1 ∧ d t ≤ md ∧ qc_Th oa p q n m t (d t) ∧
    (0 < d t → 1 ≤ p (t * 6 + d t - 1) ∧ yr t < 8 ∧ ob (p (t * 6 + d t - 1) - 1) = nI (yr t)))
def qc_F (p q n m p' q' n' m' : Nat → Nat) (t : Nat) : Prop :=
  ∀ l, l < 6 → p' (t * 6 + l) = p (t * 6 + l) ∧ q' (t * 6 + l) = q (t * 6 + l) ∧ n' (t * 6 + l) = n (t * 6 + l) ∧ m' (t * 6 + l) = m (t * 6 + l)
def qc_E (d s lv yr p q n m d' s' lv' yr' p' q' n' m' : Nat → Nat) (t : Nat) : Prop :=
  d' t = d t ∧ s' t = s t ∧ lv' t = lv t ∧ yr' t = yr t ∧ qc_F p q n m p' q' n' m' t

section
variable {mc md : Nat} {oo oa ob : Nat → Int32} {d s lv rs yr p q n m d' s' lv' yr' p' q' n' m' : Nat → Nat}
theorem qc_Th_c {t dt : Nat} (hd : dt ≤ 6) (e : qc_F p q n m p' q' n' m' t) (h : qc_Th oa p q n m t dt) : qc_Th oa p' q' n' m' t dt := by
  intro l hl
  obtain ⟨e1, e2, e3, e4⟩ := e l (by omega)
  rw [e1, e2, e3, e4]
  exact h l hl
theorem qc_Tw_c {t dt : Nat} (hd : dt ≤ 6) (e : qc_F p q n m p' q' n' m' t) (h : qc_Tw n m t dt) : qc_Tw n' m' t dt := by
  intro l hl
  obtain ⟨e1, e2, e3, e4⟩ := e l (by omega)
  rw [e3, e4]
  exact h l hl
theorem qc_top {t dt : Nat} (h0 : 0 < dt) (hd : dt ≤ 6) (e : qc_F p q n m p' q' n' m' t) : p' (t * 6 + dt - 1) = p (t * 6 + dt - 1) := by
  have := (e (dt - 1) (by omega)).1
  have h : t * 6 + (dt - 1) = t * 6 + dt - 1 := by omega
  rw [h] at this
  exact this
theorem qc_H_c {t : Nat} (hm : md ≤ 6) (e : qc_E d s lv yr p q n m d' s' lv' yr' p' q' n' m' t) (h : qc_H md oa d s lv p q n m t) : qc_H md oa d' s' lv' p' q' n' m' t := by
  obtain ⟨e1, e2, e3, e4, e5⟩ := e
  obtain ⟨h1, h2, h3, h4, h5⟩ := h
  unfold qc_H
  rw [e1, e2, e3]
  exact ⟨h1, h2, h3, h4, qc_Th_c (by omega) e5 h5⟩
theorem qc_N_c {t : Nat} (hm : md ≤ 6) (e : qc_E d s lv yr p q n m d' s' lv' yr' p' q' n' m' t) (h : qc_N md oo oa d s lv p q n m t) : qc_N md oo oa d' s' lv' p' q' n' m' t := by
  obtain ⟨e1, e2, e3, e4, e5⟩ := e
  obtain ⟨h1, h2, h3, h4, h5, h6, h7⟩ := h
  unfold qc_N
  rw [e1, e2, e3, qc_top h1 (by omega) e5]
  exact ⟨h1, h2, h3, h4, qc_Th_c (by omega) e5 h5, h6, h7⟩
theorem qc_O_c {t : Nat} (hm : md ≤ 6) (e : qc_E d s lv yr p q n m d' s' lv' yr' p' q' n' m' t) (h : qc_O md oa ob d s lv yr p q n m t) : qc_O md oa ob d' s' lv' yr' p' q' n' m' t := by
  obtain ⟨e1, e2, e3, e4, e5⟩ := e
  unfold qc_O
  rw [e1, e2, e3, e4]
  rcases h with h | ⟨h0, h1, h2, h3, h4, h5⟩
  · exact .inl h
  · refine .inr ⟨h0, h1, h2, h3, qc_Th_c (by omega) e5 h4, fun z => ?_⟩
    rw [qc_top z (by omega) e5]
    exact h5 z

def qc_Hs (Hd Nn Oo : Nat → Prop) : List Nat → Prop
  | [] => ∀ t, t < 5 → Oo t
  | c :: l => Hd c ∧ (∀ t, t ∈ l → Nn t) ∧ ∀ t, t < 5 → t ∉ c :: l → Oo t
def qc_G (rs lv : Nat → Nat) (mc : Nat) (Hd Nn Oo : Nat → Prop) (L : List Nat) : Prop :=
  qc_Lk rs L ∧ L.Nodup ∧ (∀ t, t ∈ L → t < 5) ∧ (∀ t, mc < t → t < 5 → lv t = 0) ∧ qc_Hs Hd Nn Oo L
end
def qc_I (mc md : Nat) (oo oa ob : Nat → Int32) (d s lv rs yr p q n m : Nat → Nat) (L : List Nat) : Prop :=
  qc_G rs lv mc (qc_H md oa d s lv p q n m) (qc_N md oo oa d s lv p q n m) (qc_O md oa ob d s lv yr p q n m) L
def qc_J (mc md : Nat) (oo oa ob : Nat → Int32) (d s lv rs yr p q n m : Nat → Nat) (L : List Nat) : Prop :=
  qc_G rs lv mc (qc_W md d s lv n m) (qc_N md oo oa d s lv p q n m) (qc_O md oa ob d s lv yr p q n m) L

section
variable {mc md : Nat} {oo oa ob : Nat → Int32} {d s lv rs yr p q n m d' s' lv' yr' p' q' n' m' : Nat → Nat} {c r t : Nat} {l : List Nat}
theorem qc_W_of (h : qc_H md oa d s lv p q n m t) : qc_W md d s lv n m t := ⟨h.1, h.2.1, h.2.2.1, h.2.2.2.1, qc_Tw_of h.2.2.2.2⟩
theorem qc_J_of (I : qc_I mc md oo oa ob d s lv rs yr p q n m (c :: l)) : qc_J mc md oo oa ob d s lv rs yr p q n m (c :: l) :=
  ⟨I.1, I.2.1, I.2.2.1, I.2.2.2.1, qc_W_of I.2.2.2.2.1, I.2.2.2.2.2.1, I.2.2.2.2.2.2⟩
/-- only the head thread's own data change -/
theorem qc_I_hd (hm : md ≤ 6) (I : qc_J mc md oo oa ob d s lv rs yr p q n m (c :: l))
    (e : ∀ t, t < 5 → t ≠ c → qc_E d s lv yr p q n m d' s lv yr p' q' n' m' t)
    (h : qc_H md oa d' s lv p' q' n' m' c) : qc_I mc md oo oa ob d' s lv rs yr p' q' n' m' (c :: l) := by
  obtain ⟨i1, i2, i3, i4, i5, i6, i7⟩ := I
  have hc : c ∉ l := (List.nodup_cons.mp i2).1
  refine ⟨i1, i2, i3, i4, h, fun t ht => ?_, fun t h5 ht => ?_⟩
  · exact qc_N_c hm (e t (i3 t (List.mem_cons_of_mem _ ht)) (fun z => hc (z ▸ ht))) (i6 t ht)
  · exact qc_O_c hm (e t h5 (fun z => ht (by rw [z]; exact List.mem_cons_self))) (i7 t h5 ht)
theorem qc_J_hd (hm : md ≤ 6) (I : qc_J mc md oo oa ob d s lv rs yr p q n m (c :: l))
    (e : ∀ t, t < 5 → t ≠ c → qc_E d s lv yr p q n m d' s lv yr p' q' n' m' t)
    (h : qc_W md d' s lv n' m' c) : qc_J mc md oo oa ob d' s lv rs yr p' q' n' m' (c :: l) := by
  obtain ⟨i1, i2, i3, i4, i5, i6, i7⟩ := I
  have hc : c ∉ l := (List.nodup_cons.mp i2).1
  refine ⟨i1, i2, i3, i4, h, fun t ht => ?_, fun t h5 ht => ?_⟩
  · exact qc_N_c hm (e t (i3 t (List.mem_cons_of_mem _ ht)) (fun z => hc (z ▸ ht))) (i6 t ht)
  · exact qc_O_c hm (e t h5 (fun z => ht (by rw [z]; exact List.mem_cons_self))) (i7 t h5 ht)
/-- the head leaves the chain for its resumer -/
theorem qc_I_lv (hm : md ≤ 6) (I : qc_J mc md oo oa ob d s lv rs yr p q n m (c :: r :: l))
    (e : ∀ t, t < 5 → t ≠ c → t ≠ r → qc_E d s lv yr p q n m d' s' lv' yr' p' q' n' m' t)
    (er : d' r = d r ∧ lv' r = lv r ∧ qc_F p q n m p' q' n' m' r) (hs : s' r = 1)
    (ho : qc_O md oa ob d' s' lv' yr' p' q' n' m' c) :
    qc_I mc md oo oa ob d' s' lv' rs yr' p' q' n' m' (r :: l) := by
  obtain ⟨i1, i2, i3, i4, i5, i6, i7⟩ := I
  have hc : c ∉ r :: l := (List.nodup_cons.mp i2).1
  have i2' := (List.nodup_cons.mp i2).2
  have hr : r ∉ l := (List.nodup_cons.mp i2').1
  have hrc : r ≠ c := fun z => hc (by rw [z]; exact List.mem_cons_self)
  have c0 : c ≠ 0 := i1.1
  have hcm : ¬ mc < c := fun z => by
    have a := i4 c z (i3 c List.mem_cons_self)
    have b := i5.2.2.2.1 c0
    omega
  refine ⟨qc_Lk_t i1, i2', fun t ht => i3 t (List.mem_cons_of_mem _ ht), fun t h1 h5 => ?_, ?_, fun t ht => ?_, fun t h5 ht => ?_⟩
  · by_cases z : t = c
    · exact absurd (z ▸ h1) hcm
    · by_cases y : t = r
      · rw [y, er.2.1]; exact i4 r (y ▸ h1) (y ▸ h5)
      · rw [(e t h5 z y).2.2.1]; exact i4 t h1 h5
  · obtain ⟨h1, h2, h3, h4, h5, h6, h7⟩ := i6 r List.mem_cons_self
    unfold qc_H
    rw [er.1, er.2.1]
    exact ⟨h1, h2, hs, h4, qc_Th_c (by omega) er.2.2 h5⟩
  · have tc : t ≠ c := fun z => hc (z ▸ List.mem_cons_of_mem _ ht)
    have tr : t ≠ r := fun z => hr (z ▸ ht)
    exact qc_N_c hm (e t (i3 t (List.mem_cons_of_mem _ (List.mem_cons_of_mem _ ht))) tc tr) (i6 t (List.mem_cons_of_mem _ ht))
  · by_cases z : t = c
    · rw [z]; exact ho
    · have tr : t ≠ r := fun y => ht (by rw [y]; exact List.mem_cons_self)
      refine qc_O_c hm (e t h5 z tr) (i7 t h5 fun y => ?_)
      rcases List.mem_cons.mp y with y | y
      · exact z y
      · exact ht y
/-- the main thread ends -/
theorem qc_I_end (hm : md ≤ 6) (I : qc_J mc md oo oa ob d s lv rs yr p q n m [c])
    (e : ∀ t, t < 5 → t ≠ c → qc_E d s lv yr p q n m d' s' lv' yr' p' q' n' m' t)
    (ho : qc_O md oa ob d' s' lv' yr' p' q' n' m' c) :
    qc_I mc md oo oa ob d' s' lv' rs yr' p' q' n' m' [] := by
  obtain ⟨i1, i2, i3, i4, i5, i6, i7⟩ := I
  have c0 : c = 0 := i1
  refine ⟨trivial, List.nodup_nil, fun t ht => absurd ht List.not_mem_nil, fun t h1 h5 => ?_, fun t h5 => ?_⟩
  · rw [(e t h5 (by omega)).2.2.1]; exact i4 t h1 h5
  · by_cases z : t = c
    · rw [z]; exact ho
    · exact qc_O_c hm (e t h5 z) (i7 t h5 (by simpa using z))
/-- a thread outside the chain is entered -/
theorem qc_I_en (hm : md ≤ 6) (I : qc_I mc md oo oa ob d s lv rs yr p q n m (c :: l)) (h5 : t < 5) (h0 : t ≠ 0) (ht : t ∉ c :: l)
    (e : ∀ x, x < 5 → x ≠ c → x ≠ t → qc_E d s lv yr p q n m d' s' lv yr p' q' n' m' x)
    (hN : qc_N md oo oa d' s' lv p' q' n' m' c) (hH : qc_H md oa d' s' lv p' q' n' m' t) :
    qc_I mc md oo oa ob d' s' lv (qc_u rs t c) yr p' q' n' m' (t :: c :: l) := by
  obtain ⟨i1, i2, i3, i4, i5, i6, i7⟩ := I
  have hc : c ∉ l := (List.nodup_cons.mp i2).1
  refine ⟨⟨h0, qc_us _ _ _, qc_Lk_c _ ht i1⟩, List.nodup_cons.mpr ⟨ht, i2⟩, fun x hx => ?_, i4, hH, fun x hx => ?_, fun x x5 hx => ?_⟩
  · rcases List.mem_cons.mp hx with y | y
    · rw [y]; exact h5
    · exact i3 x y
  · rcases List.mem_cons.mp hx with y | y
    · rw [y]; exact hN
    · exact qc_N_c hm (e x (i3 x hx) (fun z => hc (z ▸ y)) (fun z => ht (z ▸ hx))) (i6 x y)
  · have h1 : x ∉ c :: l := fun z => hx (List.mem_cons_of_mem _ z)
    exact qc_O_c hm (e x x5 (fun z => h1 (by rw [z]; exact List.mem_cons_self)) (fun z => hx (by rw [z]; exact List.mem_cons_self))) (i7 x x5 h1)
/-- a thread outside the chain changes -/
theorem qc_I_out (hm : md ≤ 6) (I : qc_I mc md oo oa ob d s lv rs yr p q n m (c :: l)) (ht : t ∉ c :: l)
    (e : ∀ x, x < 5 → x ≠ t → qc_E d s lv yr p q n m d' s' lv' yr' p' q' n' m' x)
    (hl : t < 5 → mc < t → lv' t = 0) (ho : t < 5 → qc_O md oa ob d' s' lv' yr' p' q' n' m' t) :
    qc_I mc md oo oa ob d' s' lv' rs yr' p' q' n' m' (c :: l) := by
  obtain ⟨i1, i2, i3, i4, i5, i6, i7⟩ := I
  have nt : ∀ x, x ∈ c :: l → x ≠ t := fun x hx z => ht (z ▸ hx)
  refine ⟨i1, i2, i3, fun x h1 x5 => ?_, ?_, fun x hx => ?_, fun x x5 hx => ?_⟩
  · by_cases z : x = t
    · rw [z]; exact hl (z ▸ x5) (z ▸ h1)
    · rw [(e x x5 z).2.2.1]; exact i4 x h1 x5
  · exact qc_H_c hm (e c (i3 c List.mem_cons_self) (nt c List.mem_cons_self)) i5
  · exact qc_N_c hm (e x (i3 x (List.mem_cons_of_mem _ hx)) (nt x (List.mem_cons_of_mem _ hx))) (i6 x hx)
  · by_cases z : x = t
    · rw [z]; exact ho (z ▸ x5)
    · exact qc_O_c hm (e x x5 z) (i7 x x5 hx)
/-- the program starts -/
theorem qc_I_beg (hm : md ≤ 6) (I : qc_I mc md oo oa ob d s lv rs yr p q n m [])
    (e : ∀ x, x < 5 → x ≠ 0 → qc_E d s lv yr p q n m d' s' lv yr p' q' n' m' x)
    (hH : qc_H md oa d' s' lv p' q' n' m' 0) :
    qc_I mc md oo oa ob d' s' lv rs yr p' q' n' m' [0] := by
  obtain ⟨i1, i2, i3, i4, i5⟩ := I
  refine ⟨rfl, by simp, fun x hx => ?_, i4, hH, fun x hx => absurd hx List.not_mem_nil, fun x x5 hx => ?_⟩
  · have : x = 0 := by simpa using hx
    omega
  · exact qc_O_c hm (e x x5 (by simpa using hx)) (i5 x x5)
end
end
section
def qc_ap (x : (Nat → Int32) × Nat) (v : Int32) : (Nat → Int32) × Nat := if x.2 < 64 then (upd x.1 x.2 v, x.2 + 1) else x
def qc_cl (tg : Nat → Int32) (f : Nat) : Nat → (Nat → Int32) × Nat → (Nat → Int32) × Nat
  | 0, x => x
  | k + 1, x => qc_cl tg f k (qc_ap x (tg (f * 4 + k)))
def qc_uw (tg : Nat → Int32) (n : Nat → Nat) (t : Nat) : Nat → (Nat → Int32) × Nat → (Nat → Int32) × Nat
  | 0, x => x
  | l + 1, x => qc_uw tg n t l (qc_cl tg (t * 6 + l) (n (t * 6 + l)) x)
theorem qc_ap_le {x : (Nat → Int32) × Nat} {v : Int32} (h : x.2 ≤ 64) : (qc_ap x v).2 ≤ 64 := by
  unfold qc_ap
  split
  · show x.2 + 1 ≤ 64
    omega
  · exact h
theorem qc_cl_le {tg : Nat → Int32} {f : Nat} : ∀ (k : Nat) (x : (Nat → Int32) × Nat), x.2 ≤ 64 → (qc_cl tg f k x).2 ≤ 64 := by
  intro k
  induction k with
  | zero => intro x h; exact h
  | succ k ih => intro x h; exact ih _ (qc_ap_le h)
theorem qc_uw_le {tg : Nat → Int32} {n : Nat → Nat} {t : Nat} : ∀ (l : Nat) (x : (Nat → Int32) × Nat), x.2 ≤ 64 → (qc_uw tg n t l x).2 ≤ 64 := by
  intro k
  induction k with
  | zero => intro x h; exact h
  | succ k ih => intro x h; exact ih _ (qc_cl_le _ _ h)
theorem qc_uw_c {tg : Nat → Int32} {n m : Nat → Nat} {t : Nat} : ∀ (l : Nat) (x : (Nat → Int32) × Nat), (∀ i, i < l → m (t * 6 + i) = n (t * 6 + i)) → qc_uw tg m t l x = qc_uw tg n t l x := by
  intro l
  induction l with
  | zero => intro x _; rfl
  | succ l ih =>
    intro x h
    show qc_uw tg m t l (qc_cl tg (t * 6 + l) (m (t * 6 + l)) x) = qc_uw tg n t l (qc_cl tg (t * 6 + l) (n (t * 6 + l)) x)
    rw [h l (by omega), ih _ (fun i hi => h i (by omega))]
def qc_mz (t : Nat) : Nat → (Nat → Nat) → (Nat → Nat)
  | 0, m => m
  | l + 1, m => qc_mz t l (qc_u m (t * 6 + l) 0)
theorem qc_mz_o {t j : Nat} : ∀ (l : Nat) (m : Nat → Nat), (∀ i, i < l → j ≠ t * 6 + i) → qc_mz t l m j = m j := by
  intro l
  induction l with
  | zero => intro m _; rfl
  | succ l ih =>
    intro m h
    show qc_mz t l (qc_u m (t * 6 + l) 0) j = m j
    rw [ih _ (fun i hi => h i (by omega)), qc_uo (h l (by omega))]
def qc_z (rg : Nat → Int32) (b r : Nat) : Nat → Int32 := fun j => if b + r ≤ j ∧ j < b + 8 then 0 else rg j
theorem qc_z8 (rg : Nat → Int32) (b : Nat) : qc_z rg b 8 = rg := by
  funext j
  unfold qc_z
  rw [if_neg (by omega)]
theorem qc_zs (rg : Nat → Int32) {b r : Nat} (h : r < 8) : qc_z (upd rg (b + r) 0) b (r + 1) = qc_z rg b r := by
  funext j
  unfold qc_z upd
  by_cases h1 : b + (r + 1) ≤ j ∧ j < b + 8
  · rw [if_pos h1, if_pos (by omega)]
  · rw [if_neg h1]
    by_cases h2 : j = b + r
    · rw [if_pos h2, if_pos (by omega)]
    · rw [if_neg h2, if_neg (by omega)]
def qc_pr (rg : Nat → Int32) (b : Nat) (v : Int32) : Nat → Int32 := upd (qc_z rg b 0) b v
theorem qc_pr_x (rg : Nat → Int32) (b : Nat) (v : Int32) : qc_z (upd rg b v) b 1 = qc_pr rg b v := by
  funext j
  simp only [qc_pr, qc_z, upd]
  (repeat' split) <;> first | rfl | (exfalso; omega)
theorem qc_m8 (t : Nat) : nI t * 8 = nI (t * 8) := pk_mul t 8
theorem qc_m6 (t : Nat) : nI t * 6 = nI (t * 6) := pk_mul t 6
theorem qc_m4 (t : Nat) : nI t * 4 = nI (t * 4) := pk_mul t 4
theorem qc_s1 {t : Nat} (h : 1 ≤ t) : nI t - 1 = nI (t - 1) := pk_sub (b := 1) h
theorem qc_tf {t dt : Nat} (h : 1 ≤ dt) : nI t * 6 + nI dt - 1 = nI (t * 6 + dt - 1) := by
  rw [qc_m6, nI_add, qc_s1 (by omega)]
theorem qc_a7 {a : Nat} (h : a < 8) : nI a &&& 7 = nI a := by
  rw [pk_andN (by omega) 3 (by decide), Nat.mod_eq_of_lt (by omega)]
theorem qc_a17 {a : Nat} (h : a < 8) : (nI a + 1) &&& 7 = nI ((a + 1) % 8) := by
  rw [nI_1, pk_andN (by omega) 3 (by decide)]
theorem qc_r8 {a : Nat} (h : a < 8) : (nI a + 1) - (nI a + 1) / 8 * 8 = nI ((a + 1) % 8) := by
  rw [nI_1]
  exact pk_rem (d := 8) (by omega) (by decide) (by decide)
def qc_sm (f : Nat → Nat) : Nat → Nat → Nat
  | 0, _ => 0
  | k + 1, j => f j + qc_sm f k (j + 1)
def qc_fr (f : Nat → Nat) : Nat → Nat → Nat
  | 0, j => j
  | k + 1, j => if f j = 0 then j else qc_fr f k (j + 1)
theorem qc_fr_in {f : Nat → Nat} : ∀ k j, j ≤ qc_fr f k j ∧ qc_fr f k j ≤ j + k ∧ (qc_fr f k j < j + k → f (qc_fr f k j) = 0) := by
  intro k
  induction k with
  | zero => intro j; exact ⟨Nat.le_refl _, Nat.le_refl _, fun h => absurd h (Nat.lt_irrefl _)⟩
  | succ k ih =>
    intro j
    unfold qc_fr
    split
    · rename_i h
      exact ⟨Nat.le_refl _, by omega, fun _ => h⟩
    · obtain ⟨a, b, c⟩ := ih (j + 1)
      exact ⟨by omega, by omega, fun h => c (by omega)⟩
theorem qc_fr_s {f : Nat → Nat} : ∀ k j, qc_fr f (k + 1) j = if qc_fr f k j < j + k then qc_fr f k j else if f (j + k) = 0 then j + k else j + k + 1 := by
  intro k
  induction k with
  | zero =>
    intro j
    show (if f j = 0 then j else j + 1) = if j < j + 0 then j else if f (j + 0) = 0 then j + 0 else j + 0 + 1
    rw [if_neg (show ¬ j < j + 0 by omega)]
    rfl
  | succ k ih =>
    intro j
    show (if f j = 0 then j else qc_fr f (k + 1) (j + 1)) = if (if f j = 0 then j else qc_fr f k (j + 1)) < j + (k + 1) then (if f j = 0 then j else qc_fr f k (j + 1)) else if f (j + (k + 1)) = 0 then j + (k + 1) else j + (k + 1) + 1
    by_cases h : f j = 0
    · rw [if_pos h, if_pos h, if_pos (by omega)]
    · rw [if_neg h, if_neg h, ih (j + 1)]
      have e : j + 1 + k = j + (k + 1) := by omega
      rw [e]
theorem qc_free {lv : Nat → Nat} {mc : Nat} (h1 : 1 ≤ mc) (h4 : mc ≤ 4) (hl : ∀ t, t < 5 → lv t ≤ 1) (hz : ∀ t, mc < t → t < 5 → lv t = 0) :
    (qc_fr lv mc 1 ≤ mc → qc_fr lv 4 1 = qc_fr lv mc 1 ∧ qc_sm lv 4 1 < mc) ∧ (¬ qc_fr lv mc 1 ≤ mc → mc ≤ qc_sm lv 4 1) := by
  have a1 := hl 1 (by omega)
  have a2 := hl 2 (by omega)
  have a3 := hl 3 (by omega)
  have a4 := hl 4 (by omega)
  have z2 := hz 2
  have z3 := hz 3
  have z4 := hz 4
  have e : mc = 1 ∨ mc = 2 ∨ mc = 3 ∨ mc = 4 := by omega
  have b1 : lv 1 = 0 ∨ lv 1 = 1 := by omega
  have b2 : lv 2 = 0 ∨ lv 2 = 1 := by omega
  have b3 : lv 3 = 0 ∨ lv 3 = 1 := by omega
  have b4 : lv 4 = 0 ∨ lv 4 = 1 := by omega
  clear a1 a2 a3 a4 hl hz h1 h4
  rcases e with rfl | rfl | rfl | rfl <;> rcases b1 with b1 | b1 <;> rcases b2 with b2 | b2 <;> rcases b3 with b3 | b3 <;> rcases b4 with b4 | b4 <;> first | omega | simp [qc_fr, qc_sm, b1, b2, b3, b4]
end
section
section
variable {mc md : Nat} {oo oa ob : Nat → Int32} {d s lv rs yr p q n m : Nat → Nat} {c r t x b : Nat} {l : List Nat}
theorem qc_uf {p : Nat → Nat} {f v t i c : Nat} (h1 : c * 6 ≤ f) (h2 : f < c * 6 + 6) (ht : t ≠ c) (hl : i < 6) : qc_u p f v (t * 6 + i) = p (t * 6 + i) := qc_uo (by omega)
theorem qc_uu (d : Nat → Nat) (k x y : Nat) : qc_u (qc_u d k x) k y = qc_u d k y := by
  funext j
  by_cases h : j = k
  · rw [h, qc_us, qc_us]
  · rw [qc_uo h, qc_uo h, qc_uo h]
theorem qc_tr_pc (hm : md ≤ 6) (I : qc_I mc md oo oa ob d s lv rs yr p q n m (c :: l)) (hx : x ≤ 64) :
    qc_I mc md oo oa ob d s lv rs yr (qc_u p (c * 6 + d c - 1) x) (qc_u q (c * 6 + d c - 1) x) n m (c :: l) := by
  obtain ⟨h1, h2, h3, h4, h5⟩ := I.2.2.2.2.1
  refine qc_I_hd hm (qc_J_of I) (fun t t5 ht => ⟨rfl, rfl, rfl, rfl, fun i hi => ⟨?_, ?_, rfl, rfl⟩⟩) ⟨h1, h2, h3, h4, fun i hi => ?_⟩
  · exact qc_uf (by omega) (by omega) ht hi
  · exact qc_uf (by omega) (by omega) ht hi
  · by_cases z : i = d c - 1
    · have e : c * 6 + i = c * 6 + d c - 1 := by omega
      have h := h5 i hi
      rw [e] at h ⊢
      rw [qc_us, qc_us]
      exact ⟨rfl, hx, h.2.2.1, h.2.2.2.1, fun y => by omega⟩
    · rw [qc_uo (by omega), qc_uo (by omega)]
      exact h5 i hi
theorem qc_tr_j (hm : md ≤ 6) (I : qc_I mc md oo oa ob d s lv rs yr p q n m (c :: l)) :
    qc_J mc md oo oa ob d s lv rs yr (qc_u p (c * 6 + d c - 1) x) q n m (c :: l) := by
  obtain ⟨h1, h2, h3, h4, h5⟩ := I.2.2.2.2.1
  refine qc_J_hd hm (qc_J_of I) (fun t t5 ht => ⟨rfl, rfl, rfl, rfl, fun i hi => ⟨?_, rfl, rfl, rfl⟩⟩) ⟨h1, h2, h3, h4, qc_Tw_of h5⟩
  exact qc_uf (by omega) (by omega) ht hi
theorem qc_tr_call (hm : md ≤ 6) (I : qc_I mc md oo oa ob d s lv rs yr p q n m (c :: l)) (hd : d c < md) (hx : qc_RA oa x) (hb : b ≤ 64) :
    qc_I mc md oo oa ob (qc_u d c (d c + 1)) s lv rs yr (qc_u (qc_u p (c * 6 + d c - 1) x) (c * 6 + d c) b) (qc_u (qc_u q (c * 6 + d c - 1) x) (c * 6 + d c) b)
      (qc_u n (c * 6 + d c) 0) (qc_u m (c * 6 + d c) 0) (c :: l) := by
  obtain ⟨h1, h2, h3, h4, h5⟩ := I.2.2.2.2.1
  refine qc_I_hd hm (qc_J_of I) (fun t t5 ht => ⟨qc_uo ht, rfl, rfl, rfl, fun i hi => ⟨?_, ?_, ?_, ?_⟩⟩) ⟨?_, ?_, h3, h4, fun i hi => ?_⟩
  · rw [qc_uf (c := c) (by omega) (by omega) ht hi, qc_uf (c := c) (by omega) (by omega) ht hi]
  · rw [qc_uf (c := c) (by omega) (by omega) ht hi, qc_uf (c := c) (by omega) (by omega) ht hi]
  · exact qc_uf (by omega) (by omega) ht hi
  · exact qc_uf (by omega) (by omega) ht hi
  · rw [qc_us]; omega
  · rw [qc_us]; omega
  · rw [qc_us] at hi ⊢
    by_cases z : i = d c
    · rw [z, qc_us, qc_us, qc_us, qc_us]
      exact ⟨rfl, hb, rfl, by omega, fun y => by omega⟩
    · rw [qc_uo (k := c * 6 + d c) (by omega), qc_uo (k := c * 6 + d c) (by omega), qc_uo (k := c * 6 + d c) (by omega), qc_uo (k := c * 6 + d c) (by omega)]
      by_cases y : i = d c - 1
      · have e : c * 6 + i = c * 6 + d c - 1 := by omega
        have h := h5 i (by omega)
        rw [e] at h ⊢
        rw [qc_us, qc_us]
        exact ⟨rfl, hx.2.1, h.2.2.1, h.2.2.2.1, fun _ => hx⟩
      · rw [qc_uo (by omega), qc_uo (by omega)]
        have h := h5 i (by omega)
        exact ⟨h.1, h.2.1, h.2.2.1, h.2.2.2.1, fun _ => h.2.2.2.2 (by omega)⟩
theorem qc_tr_ret1 (hm : md ≤ 6) (I : qc_I mc md oo oa ob d s lv rs yr p q n m (c :: l)) (hd : 1 < d c) :
    qc_I mc md oo oa ob (qc_u d c (d c - 1)) s lv rs yr (qc_u p (c * 6 + d c - 1) x) q n (qc_u m (c * 6 + d c - 1) 0) (c :: l) := by
  obtain ⟨h1, h2, h3, h4, h5⟩ := I.2.2.2.2.1
  refine qc_I_hd hm (qc_J_of I) (fun t t5 ht => ⟨qc_uo ht, rfl, rfl, rfl, fun i hi => ⟨?_, rfl, rfl, ?_⟩⟩) ⟨?_, ?_, h3, h4, fun i hi => ?_⟩
  · exact qc_uf (by omega) (by omega) ht hi
  · exact qc_uf (by omega) (by omega) ht hi
  · rw [qc_us]; omega
  · rw [qc_us]; omega
  · rw [qc_us] at hi ⊢
    rw [qc_uo (k := c * 6 + d c - 1) (by omega), qc_uo (k := c * 6 + d c - 1) (by omega)]
    have h := h5 i (by omega)
    exact ⟨h.1, h.2.1, h.2.2.1, h.2.2.2.1, fun y => h.2.2.2.2 (by omega)⟩
theorem qc_tr_ret2 (hm : md ≤ 6) (I : qc_I mc md oo oa ob d s lv rs yr p q n m (c :: r :: l)) (hd : d c = 1) :
    qc_I mc md oo oa ob (qc_u d c (d c - 1)) (qc_u (qc_u s c 3) r 1) (qc_u lv c 0) rs yr (qc_u p (c * 6 + d c - 1) x) q n (qc_u m (c * 6 + d c - 1) 0) (r :: l) := by
  have hc : c ∉ r :: l := (List.nodup_cons.mp I.2.1).1
  have hcr : c ≠ r := fun z => hc (by rw [z]; exact List.mem_cons_self)
  refine qc_I_lv hm (qc_J_of I) (fun t t5 ht hr => ⟨qc_uo ht, ?_, qc_uo ht, rfl, fun i hi => ⟨?_, rfl, rfl, ?_⟩⟩) ⟨qc_uo hcr.symm, qc_uo hcr.symm, fun i hi => ⟨?_, rfl, rfl, ?_⟩⟩ (qc_us _ _ _) (.inl ⟨?_, qc_us _ _ _, ?_⟩)
  · rw [qc_uo hr, qc_uo ht]
  · exact qc_uf (by omega) (by omega) ht hi
  · exact qc_uf (by omega) (by omega) ht hi
  · exact qc_uf (by omega) (by omega) hcr.symm hi
  · exact qc_uf (by omega) (by omega) hcr.symm hi
  · rw [qc_uo hcr, qc_us]
  · rw [qc_us]; omega
theorem qc_tr_ret3 (hm : md ≤ 6) (I : qc_I mc md oo oa ob d s lv rs yr p q n m [0]) (h0 : lv 0 = 0) (hd : d 0 = 1) :
    qc_I mc md oo oa ob (qc_u d 0 (d 0 - 1)) (qc_u s 0 3) lv rs yr (qc_u p (0 * 6 + d 0 - 1) x) q n (qc_u m (0 * 6 + d 0 - 1) 0) [] := by
  refine qc_I_end hm (qc_J_of I) (fun t t5 ht => ⟨qc_uo ht, qc_uo ht, rfl, rfl, fun i hi => ⟨?_, rfl, rfl, ?_⟩⟩) (.inl ⟨qc_us _ _ _, h0, ?_⟩)
  · exact qc_uf (c := 0) (by omega) (by omega) ht hi
  · exact qc_uf (c := 0) (by omega) (by omega) ht hi
  · rw [qc_us]; omega
theorem qc_tr_yield (hm : md ≤ 6) (I : qc_I mc md oo oa ob d s lv rs yr p q n m (c :: r :: l)) (hx : 1 ≤ x) (hx' : x ≤ 64) (hb : b < 8) (he : ob (x - 1) = nI b) :
    qc_I mc md oo oa ob d (qc_u (qc_u s c 0) r 1) lv rs (qc_u yr c b) (qc_u p (c * 6 + d c - 1) x) (qc_u q (c * 6 + d c - 1) x) n m (r :: l) := by
  have hc : c ∉ r :: l := (List.nodup_cons.mp I.2.1).1
  have hcr : c ≠ r := fun z => hc (by rw [z]; exact List.mem_cons_self)
  have I' := qc_tr_pc hm I hx'
  obtain ⟨h1, h2, h3, h4, h5⟩ := I'.2.2.2.2.1
  refine qc_I_lv hm (qc_J_of I') (fun t t5 ht hr => ⟨rfl, ?_, rfl, qc_uo ht, fun i hi => ⟨rfl, rfl, rfl, rfl⟩⟩) ⟨rfl, rfl, fun i hi => ⟨rfl, rfl, rfl, rfl⟩⟩ (qc_us _ _ _) (.inr ⟨I.1.1, ?_, h4 I.1.1, h2, h5, fun _ => ?_⟩)
  · rw [qc_uo hr, qc_uo ht]
  · rw [qc_uo hcr, qc_us]
  · rw [qc_us, qc_us]
    exact ⟨hx, hb, he⟩
theorem qc_tr_raise (hm : md ≤ 6) (I : qc_J mc md oo oa ob d s lv rs yr p q n m (c :: r :: l)) :
    qc_I mc md oo oa ob (qc_u d c 0) (qc_u (qc_u s c 3) r 1) (qc_u lv c 0) rs yr p q n (qc_mz c (d c) m) (r :: l) := by
  have hc : c ∉ r :: l := (List.nodup_cons.mp I.2.1).1
  have hcr : c ≠ r := fun z => hc (by rw [z]; exact List.mem_cons_self)
  have hd : d c ≤ md := I.2.2.2.2.1.2.1
  refine qc_I_lv hm I (fun t t5 ht hr => ⟨qc_uo ht, ?_, qc_uo ht, rfl, fun i hi => ⟨rfl, rfl, rfl, ?_⟩⟩) ⟨qc_uo hcr.symm, qc_uo hcr.symm, fun i hi => ⟨rfl, rfl, rfl, ?_⟩⟩ (qc_us _ _ _) (.inl ⟨?_, qc_us _ _ _, qc_us _ _ _⟩)
  · rw [qc_uo hr, qc_uo ht]
  · exact qc_mz_o _ _ (fun k hk => by omega)
  · exact qc_mz_o _ _ (fun k hk => by omega)
  · rw [qc_uo hcr, qc_us]
theorem qc_tr_raise0 (hm : md ≤ 6) (I : qc_J mc md oo oa ob d s lv rs yr p q n m [0]) (h0 : lv 0 = 0) :
    qc_I mc md oo oa ob (qc_u d 0 0) (qc_u s 0 3) lv rs yr p q n (qc_mz 0 (d 0) m) [] := by
  have hd : d 0 ≤ md := I.2.2.2.2.1.2.1
  refine qc_I_end hm I (fun t t5 ht => ⟨qc_uo ht, qc_uo ht, rfl, rfl, fun i hi => ⟨rfl, rfl, rfl, ?_⟩⟩) (.inl ⟨qc_us _ _ _, h0, qc_us _ _ _⟩)
  exact qc_mz_o _ _ (fun k hk => by omega)
theorem qc_tr_N (hm : md ≤ 6) (I : qc_I mc md oo oa ob d s lv rs yr p q n m (c :: l)) (hx : qc_RA oa x) (ho : oo (x - 1) = 13 ∨ oo (x - 1) = 14) {s' : Nat → Nat} (hs : s' c = 2) :
    qc_N md oo oa d s' lv (qc_u p (c * 6 + d c - 1) x) (qc_u q (c * 6 + d c - 1) x) n m c := by
  obtain ⟨h1, h2, h3, h4, h5⟩ := (qc_tr_pc hm I hx.2.1).2.2.2.2.1
  refine ⟨h1, h2, hs, h4, h5, ?_, ?_⟩
  · rw [qc_us]; exact hx
  · rw [qc_us]; exact ho
theorem qc_tr_en1 (hm : md ≤ 6) (h1m : 1 ≤ md) (I : qc_I mc md oo oa ob d s lv rs yr p q n m (c :: l)) (hx : qc_RA oa x) (ho : oo (x - 1) = 13 ∨ oo (x - 1) = 14)
    (t5 : t < 5) (ht : t ∉ c :: l) (hs : s t = 0) (hd : d t = 0) (hb : b ≤ 64) :
    qc_I mc md oo oa ob (qc_u d t (d t + 1)) (qc_u (qc_u s c 2) t 1) lv (qc_u rs t c) yr (qc_u (qc_u p (c * 6 + d c - 1) x) (t * 6 + d t) b) (qc_u (qc_u q (c * 6 + d c - 1) x) (t * 6 + d t) b)
      (qc_u n (t * 6 + d t) 0) (qc_u m (t * 6 + d t) 0) (t :: c :: l) := by
  have htc : t ≠ c := fun z => ht (by rw [z]; exact List.mem_cons_self)
  have I' := qc_tr_pc hm I hx.2.1
  rcases I.2.2.2.2.2.2 t t5 ht with o | ⟨t0, o1, o2, o3, o4, o5⟩
  · omega
  refine qc_I_en hm I' t5 t0 ht (fun y y5 hc hy => ⟨qc_uo hy, ?_, rfl, rfl, fun i hi => ⟨?_, ?_, ?_, ?_⟩⟩) ?_ ⟨?_, ?_, qc_us _ _ _, fun _ => o2, fun i hi => ?_⟩
  · rw [qc_uo hy, qc_uo hc]
  · exact qc_uf (by omega) (by omega) hy hi
  · exact qc_uf (by omega) (by omega) hy hi
  · exact qc_uf (by omega) (by omega) hy hi
  · exact qc_uf (by omega) (by omega) hy hi
  · refine qc_N_c hm (s := qc_u (qc_u s c 2) t 1) (yr := yr) (yr' := yr) ⟨qc_uo htc.symm, rfl, rfl, rfl, fun i hi => ⟨?_, ?_, ?_, ?_⟩⟩ (qc_tr_N hm I hx ho ?_)
    · exact qc_uf (by omega) (by omega) htc.symm hi
    · exact qc_uf (by omega) (by omega) htc.symm hi
    · exact qc_uf (by omega) (by omega) htc.symm hi
    · exact qc_uf (by omega) (by omega) htc.symm hi
    · rw [qc_uo htc.symm, qc_us]
  · rw [qc_us]; omega
  · rw [qc_us]; omega
  · rw [qc_us] at hi ⊢
    have e : i = d t := by omega
    rw [e, qc_us, qc_us, qc_us, qc_us]
    exact ⟨rfl, hb, rfl, by omega, fun y => by omega⟩
theorem qc_tr_en2 (hm : md ≤ 6) (I : qc_I mc md oo oa ob d s lv rs yr p q n m (c :: l)) (hx : qc_RA oa x) (ho : oo (x - 1) = 13 ∨ oo (x - 1) = 14)
    (t5 : t < 5) (ht : t ∉ c :: l) (hs : s t = 0) (hd : 0 < d t) :
    qc_I mc md oo oa ob d (qc_u (qc_u s c 2) t 1) lv (qc_u rs t c) yr (qc_u p (c * 6 + d c - 1) x) (qc_u q (c * 6 + d c - 1) x) n m (t :: c :: l) := by
  have htc : t ≠ c := fun z => ht (by rw [z]; exact List.mem_cons_self)
  have I' := qc_tr_pc hm I hx.2.1
  rcases I'.2.2.2.2.2.2 t t5 ht with o | ⟨t0, o1, o2, o3, o4, o5⟩
  · omega
  refine qc_I_en hm I' t5 t0 ht (fun y y5 hc hy => ⟨rfl, ?_, rfl, rfl, fun i hi => ⟨rfl, rfl, rfl, rfl⟩⟩) (qc_tr_N hm I hx ho ?_) ⟨hd, o3, qc_us _ _ _, fun _ => o2, o4⟩
  · rw [qc_uo hy, qc_uo hc]
  · rw [qc_uo htc.symm, qc_us]
theorem qc_tr_create (hm : md ≤ 6) (I : qc_I mc md oo oa ob d s lv rs yr p q n m (c :: l)) (t5 : t < 5) (t0 : t ≠ 0) (htm : t ≤ mc) (hs : s t = 3) :
    d t = 0 ∧ qc_I mc md oo oa ob d (qc_u s t 0) (qc_u lv t 1) rs yr p q n m (c :: l) := by
  have ht : t ∉ c :: l := by
    intro z
    rcases List.mem_cons.mp z with z | z
    · have := I.2.2.2.2.1.2.2.1
      rw [← z] at this
      omega
    · have := (I.2.2.2.2.2.1 t z).2.2.1
      omega
  rcases I.2.2.2.2.2.2 t t5 ht with ⟨o1, o2, o3⟩ | o
  · refine ⟨o3, qc_I_out hm I ht (fun y y5 hy => ⟨rfl, qc_uo hy, qc_uo hy, rfl, fun i hi => ⟨rfl, rfl, rfl, rfl⟩⟩) (fun _ z => by omega) (fun _ => .inr ⟨t0, qc_us _ _ _, qc_us _ _ _, by omega, fun i hi => by omega, fun z => by omega⟩)⟩
  · omega
theorem qc_tr_close (hm : md ≤ 6) (I : qc_I mc md oo oa ob d s lv rs yr p q n m (c :: l)) (ht : t ∉ c :: l) (hd : d t ≤ 6) :
    qc_I mc md oo oa ob (qc_u d t 0) (qc_u s t 3) (qc_u lv t 0) rs yr p q n (qc_mz t (d t) m) (c :: l) := by
  refine qc_I_out hm I ht (fun y y5 hy => ⟨qc_uo hy, qc_uo hy, qc_uo hy, rfl, fun i hi => ⟨rfl, rfl, rfl, ?_⟩⟩) (fun _ _ => qc_us _ _ _) (fun _ => .inl ⟨qc_us _ _ _, qc_us _ _ _, qc_us _ _ _⟩)
  exact qc_mz_o _ _ (fun k hk => by omega)
theorem qc_tr_defer (hm : md ≤ 6) (I : qc_I mc md oo oa ob d s lv rs yr p q n m (c :: l)) (hx : x ≤ 4) :
    qc_I mc md oo oa ob d s lv rs yr p q (qc_u n (c * 6 + d c - 1) x) (qc_u m (c * 6 + d c - 1) x) (c :: l) := by
  obtain ⟨h1, h2, h3, h4, h5⟩ := I.2.2.2.2.1
  refine qc_I_hd hm (qc_J_of I) (fun t t5 ht => ⟨rfl, rfl, rfl, rfl, fun i hi => ⟨rfl, rfl, ?_, ?_⟩⟩) ⟨h1, h2, h3, h4, fun i hi => ?_⟩
  · exact qc_uf (by omega) (by omega) ht hi
  · exact qc_uf (by omega) (by omega) ht hi
  · have h := h5 i hi
    by_cases z : i = d c - 1
    · have e : c * 6 + i = c * 6 + d c - 1 := by omega
      rw [e] at h ⊢
      rw [qc_us, qc_us]
      exact ⟨h.1, h.2.1, rfl, hx, fun y => by omega⟩
    · rw [qc_uo (k := c * 6 + d c - 1) (by omega), qc_uo (k := c * 6 + d c - 1) (by omega)]
      exact h
theorem qc_tr_start (hm : md ≤ 6) (h1m : 1 ≤ md) (I : qc_I mc md oo oa ob d s lv rs yr p q n m []) (hb : b ≤ 64) :
    d 0 = 0 ∧ qc_I mc md oo oa ob (qc_u d 0 (d 0 + 1)) (qc_u s 0 1) lv rs yr (qc_u p (0 * 6 + d 0) b) (qc_u q (0 * 6 + d 0) b) (qc_u n (0 * 6 + d 0) 0) (qc_u m (0 * 6 + d 0) 0) [0] := by
  have h0 : d 0 = 0 := by
    rcases I.2.2.2.2 0 (by omega) with ⟨o1, o2, o3⟩ | o
    · exact o3
    · exact absurd rfl o.1
  refine ⟨h0, qc_I_beg hm I (fun y y5 hy => ⟨qc_uo hy, qc_uo hy, rfl, rfl, fun i hi => ⟨?_, ?_, ?_, ?_⟩⟩) ⟨?_, ?_, qc_us _ _ _, fun z => absurd rfl z, fun i hi => ?_⟩⟩
  · exact qc_uf (c := 0) (by omega) (by omega) hy hi
  · exact qc_uf (c := 0) (by omega) (by omega) hy hi
  · exact qc_uf (c := 0) (by omega) (by omega) hy hi
  · exact qc_uf (c := 0) (by omega) (by omega) hy hi
  · rw [qc_us]; omega
  · rw [qc_us]; omega
  · rw [qc_us] at hi ⊢
    have e : i = d 0 := by omega
    rw [e, qc_us, qc_us, qc_us, qc_us]
    exact ⟨rfl, hb, rfl, by omega, fun y => by omega⟩
end
end
section
def qc_R8 (x : Int32) : Prop := ∃ a, a < 8 ∧ x = nI a
def qc_A6 (x : Int32) : Prop := ∃ a, a < 64 ∧ x = nI a
def qc_Fit (o a b c : Int32) : Prop :=
  ((o = 0 ∨ o = 8 ∨ o = 9 ∨ o = 10 ∨ o = 11 ∨ o = 18) ∧ qc_R8 a) ∨
  ((o = 1 ∨ o = 15 ∨ o = 16 ∨ o = 17) ∧ qc_R8 a ∧ qc_R8 b) ∨
  ((o = 2 ∨ o = 3 ∨ o = 4 ∨ o = 13 ∨ o = 14) ∧ qc_R8 a ∧ qc_R8 b ∧ qc_R8 c) ∨
  (o = 5 ∧ qc_A6 a) ∨
  ((o = 6 ∨ o = 12) ∧ qc_R8 a ∧ qc_A6 b) ∨
  (o = 7 ∧ qc_R8 a ∧ qc_A6 b ∧ qc_R8 c)
def qc_K (mc md cl lc h B : Nat) (oo oa ob oc : Nat → Int32) (lv bd : Nat → Nat) : Prop :=
  (1 ≤ mc ∧ mc ≤ 4) ∧ (1 ≤ md ∧ md ≤ 6) ∧ cl ≤ 64 ∧ lc ≤ 64 ∧ h ≤ B ∧ (∀ i, i < cl → qc_Fit (oo i) (oa i) (ob i) (oc i)) ∧ (∀ t, bd t < 64) ∧ lv 0 = 0
def qc_S (st rt : Int32) (L : List Nat) : Prop :=
  (st = 1 ∧ rt = 0 ∧ L ≠ []) ∨ (st = 0 ∧ rt = 0 ∧ L = []) ∨ ((st = 2 ∨ st = 3) ∧ L = [])
def qc_cy : List Nat → Int32
  | [] => -1
  | c :: _ => nI c
def qc_R (B : Nat) (u : SX) (v : SY) : Prop :=
  ∃ (mc md cl lc cu h : Nat) (st rt re : Int32) (oo oa ob oc lg hn rg tg : Nat → Int32) (d s lv rs bd yr p q n m : Nat → Nat) (L : List Nat),
    u = (nI mc, nI md, nI cl, nI lc, st, rt, nI cu, nI h, 0, re, oo, oa, ob, oc, lg, hn, (fun zz => nI (s zz)), (fun zz => nI (rs zz)), (fun zz => nI (bd zz)), (fun zz => nI (d zz)), (fun zz => nI (p zz)), (fun zz => nI (n zz)), rg, tg) ∧
    v = (nI mc, nI md, st, rt, qc_cy L, nI h, nI cl, nI lc, oo, oa, ob, oc, lg, hn, (fun zz => nI (d zz)), (fun zz => nI (rs zz)), (fun zz => nI (bd zz)), (fun zz => nI (yr zz)), (fun zz => nI (lv zz)), rg, (fun zz => nI (q zz)), (fun zz => nI (m zz)), tg) ∧
    qc_K mc md cl lc h B oo oa ob oc lv bd ∧ qc_S st rt L ∧ ((∀ c l, L = c :: l → cu = c) ∧ (st = 0 → ∀ t, t < 5 → s t = 3)) ∧
    qc_I mc md oo oa ob d s lv rs yr p q n m L
def qc_Q (B : Nat) (u : SX) (v : SY) (c : Nat) (e : Int32) : Prop :=
  ∃ (mc md cl lc h : Nat) (oo oa ob oc lg hn rg tg : Nat → Int32) (d s lv rs bd yr p q n m : Nat → Nat) (l : List Nat),
    u = (nI mc, nI md, nI cl, nI lc, 1, 0, nI c, nI h, 1, e, oo, oa, ob, oc, lg, hn, (fun zz => nI (s zz)), (fun zz => nI (rs zz)), (fun zz => nI (bd zz)), (fun zz => nI (d zz)), (fun zz => nI (p zz)), (fun zz => nI (n zz)), rg, tg) ∧
    v = (nI mc, nI md, 1, 0, nI c, nI h, nI cl, nI lc, oo, oa, ob, oc, lg, hn, (fun zz => nI (d zz)), (fun zz => nI (rs zz)), (fun zz => nI (bd zz)), (fun zz => nI (yr zz)), (fun zz => nI (lv zz)), rg, (fun zz => nI (q zz)), (fun zz => nI (m zz)), tg) ∧
    qc_K mc md cl lc h B oo oa ob oc lv bd ∧
    qc_J mc md oo oa ob d s lv rs yr p q n m (c :: l)
def i_Rel (k : Nat) (u : SX) (v : SY) : Prop := qc_R (1000 * k) u v
end
section
theorem qc_st {d : Nat → Nat} {k x : Nat} {i V : Int32} (hi : i = nI k) (hV : V = nI x) (hk : k < 2 ^ 31) : upd (fun zz => nI (d zz)) i.toNatClampNeg V = fun zz => nI (qc_u d k x zz) := by
  subst hi hV
  rw [nI_clamp hk]
  exact qc_uI d k x
theorem qc_sr {f : Nat → Int32} {k : Nat} {i V W : Int32} (hi : i = nI k) (hk : k < 2 ^ 31) (hV : V = W) : upd f i.toNatClampNeg V = upd f k W := by
  subst hi hV
  rw [nI_clamp hk]
theorem qc_rr {f : Nat → Int32} {k : Nat} {i : Int32} (hi : i = nI k) (hk : k < 2 ^ 31) : f i.toNatClampNeg = f k := by
  subst hi
  rw [nI_clamp hk]
theorem qc_rd (d : Nat → Nat) {k : Nat} {i : Int32} (hi : i = nI k) (hk : k < 2 ^ 31) : (fun zz => nI (d zz)) i.toNatClampNeg = nI (d k) := by
  subst hi
  show nI (d _) = _
  rw [nI_clamp hk]
theorem qc_vi {i : Int32} {k N : Nat} (hi : i = nI k) (hk : k < N) (hN : N < 2 ^ 31) : vp_in i N := by
  subst hi
  exact vp_in_nI hk hN
theorem qc_in1 {V : Int32} {x : Nat} (h : V = nI x) : V + 1 = nI (x + 1) := by rw [h, nI_1]
theorem qc_de1 {V : Int32} {x : Nat} (h : V = nI x) (h1 : 1 ≤ x) : V - 1 = nI (x - 1) := by rw [h, qc_s1 h1]
theorem qc_fr8 {f a : Nat} {F A : Int32} (hF : F = nI f) (hA : A = nI a) : F * 8 + A = nI (f * 8 + a) := by rw [hF, hA, qc_m8, nI_add]
theorem qc_fr4 {f a : Nat} {F A : Int32} (hF : F = nI f) (hA : A = nI a) : F * 4 + A = nI (f * 4 + a) := by rw [hF, hA, qc_m4, nI_add]
section
variable {mc md cl lc cu h B : Nat} {st rt lh rd re cy : Int32} {oo oa ob oc lg hn rg tg : Nat → Int32} {d s lv rs bd yr p q n m : Nat → Nat} {c r t x a b : Nat} {l L : List Nat}
theorem qc_xap (P : SX → Prop) {v w : Int32} (hv : v = w) (hl : lc ≤ 64) (h : P (nI mc, nI md, nI cl, nI ((qc_ap (lg, lc) w).2), st, rt, nI cu, lh, rd, re, oo, oa, ob, oc, (qc_ap (lg, lc) w).1, hn, (fun zz => nI (s zz)), (fun zz => nI (rs zz)), (fun zz => nI (bd zz)), (fun zz => nI (d zz)), (fun zz => nI (p zz)), (fun zz => nI (n zz)), rg, tg)) : wpX_appendLog P (nI mc, nI md, nI cl, nI lc, st, rt, nI cu, lh, rd, re, oo, oa, ob, oc, lg, hn, (fun zz => nI (s zz)), (fun zz => nI (rs zz)), (fun zz => nI (bd zz)), (fun zz => nI (d zz)), (fun zz => nI (p zz)), (fun zz => nI (n zz)), rg, tg) v := by
  subst hv
  by_cases z : lc < 64
  · have e : qc_ap (lg, lc) v = (upd lg lc v, lc + 1) := if_pos z
    rw [e] at h
    exact br_f (nI_ge (b := 64) z (by decide)) ⟨vp_in_nI z (by decide), nm_r (qc_sr rfl (by omega) rfl) (nm_r (nI_1 lc) h)⟩
  · have e : qc_ap (lg, lc) v = (lg, lc) := if_neg z
    rw [e] at h
    exact br_t (nI_le (a := 64) (by omega) (by omega)) h
theorem qc_xtf (P : Int32 → Prop) (t5 : t < 5) (h1 : 1 ≤ d t) (h : P (nI (t * 6 + d t - 1))) : wpX_topFrame P (nI mc, nI md, nI cl, nI lc, st, rt, nI cu, lh, rd, re, oo, oa, ob, oc, lg, hn, (fun zz => nI (s zz)), (fun zz => nI (rs zz)), (fun zz => nI (bd zz)), (fun zz => nI (d zz)), (fun zz => nI (p zz)), (fun zz => nI (n zz)), rg, tg) (nI t) := by
  refine ⟨vp_in_nI t5 (by decide), ?_⟩
  show P (nI t * 6 + nI (d (nI t).toNatClampNeg) - 1)
  rw [nI_clamp (by omega), qc_tf h1]
  exact h
theorem qc_xpl (P : SX → Prop) {f : Nat} (hf : f < 30) : ∀ (k r : Nat) (rg : Nat → Int32), r + k = 8 → P (nI mc, nI md, nI cl, nI lc, st, rt, nI cu, lh, rd, re, oo, oa, ob, oc, lg, hn, (fun zz => nI (s zz)), (fun zz => nI (rs zz)), (fun zz => nI (bd zz)), (fun zz => nI (d zz)), (fun zz => nI (p zz)), (fun zz => nI (n zz)), (qc_z rg (f * 8) r), tg) → wX_pushFrame_47 P (nI f) (nI mc) (nI md) (nI cl) (nI lc) st rt (nI cu) lh rd re (k + 1) (nI r) oo oa ob oc lg hn (fun zz => nI (s zz)) (fun zz => nI (rs zz)) (fun zz => nI (bd zz)) (fun zz => nI (d zz)) (fun zz => nI (p zz)) (fun zz => nI (n zz)) rg tg := by
  intro k
  induction k with
  | zero =>
    intro r rg hr h
    have e : r = 8 := by omega
    subst e
    rw [qc_z8] at h
    exact br_t (nI_le (a := 8) (b := 8) (by omega) (by decide)) h
  | succ k ih =>
    intro r rg hr h
    have e : nI f * 8 + nI r = nI (f * 8 + r) := qc_fr8 rfl rfl
    refine br_f (nI_ge (b := 8) (by omega) (by decide)) ⟨qc_vi e (by omega) (by decide), nm_r (qc_sr e (by omega) rfl) (nm_r (nI_1 r) (ih (r + 1) _ (by omega) ?_))⟩
    rw [qc_zs _ (by omega)]
    exact h
theorem qc_xpush (P : SX → Prop) (v : Int32) (t5 : t < 5) (hd : d t < 6)
    (h : P (nI mc, nI md, nI cl, nI lc, st, rt, nI cu, lh, rd, re, oo, oa, ob, oc, lg, hn, (fun zz => nI (s zz)), (fun zz => nI (rs zz)), (fun zz => nI (bd zz)), (fun zz => nI ((qc_u d t (d t + 1)) zz)), (fun zz => nI ((qc_u p (t * 6 + d t) a) zz)), (fun zz => nI ((qc_u n (t * 6 + d t) 0) zz)), (qc_pr rg ((t * 6 + d t) * 8) v), tg)) : wpX_pushFrame P (nI mc, nI md, nI cl, nI lc, st, rt, nI cu, lh, rd, re, oo, oa, ob, oc, lg, hn, (fun zz => nI (s zz)), (fun zz => nI (rs zz)), (fun zz => nI (bd zz)), (fun zz => nI (d zz)), (fun zz => nI (p zz)), (fun zz => nI (n zz)), rg, tg) (nI t) (nI a) v := by
  refine ⟨vp_in_nI t5 (by decide), vp_in_nI t5 (by decide), nm_r (qc_st rfl (qc_in1 (qc_rd d rfl (by omega))) (by omega)) ?_⟩
  have e : t * 6 + qc_u d t (d t + 1) t - 1 = t * 6 + d t := by rw [qc_us]; omega
  refine qc_xtf (d := qc_u d t (d t + 1)) _ t5 (by rw [qc_us]; omega) ?_
  rw [e]
  refine ⟨vp_in_nI (by omega) (by decide), nm_r (qc_st rfl rfl (by omega)) ⟨vp_in_nI (by omega) (by decide), nm_r (qc_st (x := 0) rfl rfl (by omega)) ⟨qc_vi (qc_m8 _) (by omega) (by decide), nm_r (qc_sr (qc_m8 _) (by omega) rfl) ⟨8, ?_⟩⟩⟩⟩
  refine qc_xpl P (by omega) 7 1 _ rfl ?_
  rw [qc_pr_x]
  exact h
theorem qc_xpopl (P : SX → Prop) {f : Nat} (t5 : t < 5) (hf : f < 30) (h1 : 1 ≤ d t) (h6 : d t ≤ 6) : ∀ (k lc : Nat) (lg : Nat → Int32) (x3 : Int32), x3 = nI k - 1 → k ≤ 4 → lc ≤ 64 →
    P (nI mc, nI md, nI cl, nI ((qc_cl tg f k (lg, lc)).2), st, rt, nI cu, lh, rd, re, oo, oa, ob, oc, (qc_cl tg f k (lg, lc)).1, hn, (fun zz => nI (s zz)), (fun zz => nI (rs zz)), (fun zz => nI (bd zz)), (fun zz => nI ((qc_u d t (d t - 1)) zz)), (fun zz => nI (p zz)), (fun zz => nI (n zz)), rg, tg) → wX_popFrame_15 P (nI t) (nI f) (k + 1) x3 (nI mc) (nI md) (nI cl) (nI lc) st rt (nI cu) lh rd re oo oa ob oc lg hn (fun zz => nI (s zz)) (fun zz => nI (rs zz)) (fun zz => nI (bd zz)) (fun zz => nI (d zz)) (fun zz => nI (p zz)) (fun zz => nI (n zz)) rg tg := by
  intro k
  induction k with
  | zero =>
    intro lc lg x3 hx hk hl h
    subst hx
    exact br_t (by decide) ⟨vp_in_nI t5 (by decide), vp_in_nI t5 (by decide), nm_r (qc_st rfl (qc_de1 (qc_rd d rfl (by omega)) h1) (by omega)) h⟩
  | succ k ih =>
    intro lc lg x3 hx hk hl h
    rw [nI_pred] at hx
    subst hx
    have e : nI f * 4 + nI k = nI (f * 4 + k) := qc_fr4 rfl rfl
    refine br_f (nI_pos (by omega)) ⟨qc_vi e (by omega) (by decide), qc_xap _ (qc_rr e (by omega)) hl (nm_e (ih _ _ _ (Int32.sub_eq_add_neg ..).symm (by omega) (qc_ap_le hl) ?_))⟩
    exact h
theorem qc_xpop (P : SX → Prop) (t5 : t < 5) (h1 : 1 ≤ d t) (h6 : d t ≤ 6) (h4 : n (t * 6 + d t - 1) ≤ 4) (hl : lc ≤ 64)
    (h : P (nI mc, nI md, nI cl, nI ((qc_cl tg (t * 6 + d t - 1) (n (t * 6 + d t - 1)) (lg, lc)).2), st, rt, nI cu, lh, rd, re, oo, oa, ob, oc, (qc_cl tg (t * 6 + d t - 1) (n (t * 6 + d t - 1)) (lg, lc)).1, hn, (fun zz => nI (s zz)), (fun zz => nI (rs zz)), (fun zz => nI (bd zz)), (fun zz => nI ((qc_u d t (d t - 1)) zz)), (fun zz => nI (p zz)), (fun zz => nI (n zz)), rg, tg)) : wpX_popFrame P (nI mc, nI md, nI cl, nI lc, st, rt, nI cu, lh, rd, re, oo, oa, ob, oc, lg, hn, (fun zz => nI (s zz)), (fun zz => nI (rs zz)), (fun zz => nI (bd zz)), (fun zz => nI (d zz)), (fun zz => nI (p zz)), (fun zz => nI (n zz)), rg, tg) (nI t) := by
  unfold wpX_popFrame
  refine qc_xtf _ t5 h1 ?_
  exact ⟨vp_in_nI (by omega) (by decide), nm_e ⟨_, qc_xpopl P t5 (by omega) h1 h6 _ _ _ _ (congrArg (· - 1) (qc_rd n rfl (by omega))) h4 hl h⟩⟩
theorem qc_xunl (P : SX → Prop) {D : Nat} (t5 : t < 5) (hD : D ≤ 6) : ∀ (j i lc : Nat) (lg : Nat → Int32) (d : Nat → Nat), i + j = D → d t = j → (∀ i, i < j → n (t * 6 + i) ≤ 4) → lc ≤ 64 →
    P (nI mc, nI md, nI cl, nI ((qc_uw tg n t j (lg, lc)).2), st, rt, nI cu, lh, rd, re, oo, oa, ob, oc, (qc_uw tg n t j (lg, lc)).1, hn, (fun zz => nI (s zz)), (fun zz => nI (rs zz)), (fun zz => nI (bd zz)), (fun zz => nI ((qc_u d t 0) zz)), (fun zz => nI (p zz)), (fun zz => nI (n zz)), rg, tg) → wX_unwind_9 P (nI t) (nI D) (j + 1) (nI i) (nI mc) (nI md) (nI cl) (nI lc) st rt (nI cu) lh rd re oo oa ob oc lg hn (fun zz => nI (s zz)) (fun zz => nI (rs zz)) (fun zz => nI (bd zz)) (fun zz => nI (d zz)) (fun zz => nI (p zz)) (fun zz => nI (n zz)) rg tg := by
  intro j
  induction j with
  | zero =>
    intro i lc lg d hi hd h4 hl h
    rw [qc_ue hd] at h
    exact br_t (nI_le (by omega) (by omega)) h
  | succ j ih =>
    intro i lc lg d hi hd h4 hl h
    have e : t * 6 + d t - 1 = t * 6 + j := by omega
    have hj := h4 j (by omega)
    refine br_f (nI_ge (by omega) (by omega)) (qc_xpop _ t5 (by omega) (by omega) (by rw [e]; exact hj) hl (nm_r (nI_1 i) (ih (i + 1) _ _ (qc_u d t (d t - 1)) (by omega) (by rw [qc_us]; omega) (fun i hi => h4 i (by omega)) (qc_cl_le _ _ hl) ?_)))
    rw [e, qc_uu]
    exact h
theorem qc_xunw (P : SX → Prop) (t5 : t < 5) (h6 : d t ≤ 6) (h4 : ∀ i, i < d t → n (t * 6 + i) ≤ 4) (hl : lc ≤ 64)
    (h : P (nI mc, nI md, nI cl, nI ((qc_uw tg n t (d t) (lg, lc)).2), st, rt, nI cu, lh, rd, re, oo, oa, ob, oc, (qc_uw tg n t (d t) (lg, lc)).1, hn, (fun zz => nI (s zz)), (fun zz => nI (rs zz)), (fun zz => nI (bd zz)), (fun zz => nI ((qc_u d t 0) zz)), (fun zz => nI (p zz)), (fun zz => nI (n zz)), rg, tg)) : wpX_unwind P (nI mc, nI md, nI cl, nI lc, st, rt, nI cu, lh, rd, re, oo, oa, ob, oc, lg, hn, (fun zz => nI (s zz)), (fun zz => nI (rs zz)), (fun zz => nI (bd zz)), (fun zz => nI (d zz)), (fun zz => nI (p zz)), (fun zz => nI (n zz)), rg, tg) (nI t) :=
  ⟨vp_in_nI t5 (by decide), nm_r (qc_rd d rfl (by omega)) ⟨_, qc_xunl P t5 h6 (d t) 0 _ _ _ (by omega) rfl h4 hl h⟩⟩
theorem qc_xc64 (P : SX → Prop) {f : Nat} (hf : f < 30) (hx : x < 64) (ha : oa x = nI a) (a8 : a < 8) (v sc w z : Int32)
    (h1 : ¬ z = 0 → P (nI mc, nI md, nI cl, nI lc, st, rt, nI cu, lh, rd, re, oo, oa, ob, oc, lg, hn, (fun zz => nI (s zz)), (fun zz => nI (rs zz)), (fun zz => nI (bd zz)), (fun zz => nI (d zz)), (fun zz => nI (p zz)), (fun zz => nI (n zz)), (upd rg (f * 8 + a) v), tg))
    (h2 : z = 0 → (sc = 0 → w = 0) ∧ (¬ sc = 0 → w = 1) ∧ P (nI mc, nI md, nI cl, nI lc, st, rt, nI cu, lh, rd, re, oo, oa, ob, oc, lg, hn, (fun zz => nI (s zz)), (fun zz => nI (rs zz)), (fun zz => nI (bd zz)), (fun zz => nI (d zz)), (fun zz => nI (p zz)), (fun zz => nI (n zz)), (upd (upd rg (f * 8 + a) v) (f * 8 + (a + 1) % 8) w), tg)) :
    wX_complete_64 P sc v (nI f) (nI x) z (nI mc) (nI md) (nI cl) (nI lc) st rt (nI cu) lh rd re oo oa ob oc lg hn (fun zz => nI (s zz)) (fun zz => nI (rs zz)) (fun zz => nI (bd zz)) (fun zz => nI (d zz)) (fun zz => nI (p zz)) (fun zz => nI (n zz)) rg tg := by
  have e1 : nI f * 8 + nI a = nI (f * 8 + a) := qc_fr8 rfl rfl
  have e2 : nI f * 8 + ((nI a + 1) - (nI a + 1) / 8 * 8) = nI (f * 8 + (a + 1) % 8) := qc_fr8 rfl (qc_r8 a8)
  refine ⟨vp_in_nI hx (by decide), nm_r ((qc_rr rfl (by omega)).trans ha) ⟨qc_vi e1 (by omega) (by decide), nm_r (qc_sr e1 (by omega) rfl) (br_c (fun hz => ⟨by decide, br_c (fun hs => ?_) (fun hs => ?_)⟩) (fun hz => h1 hz))⟩⟩
  · obtain ⟨w0, w1, h⟩ := h2 hz
    rw [w0 hs] at h
    exact ⟨qc_vi e2 (by omega) (by decide), nm_r (qc_sr e2 (by omega) rfl) h⟩
  · obtain ⟨w0, w1, h⟩ := h2 hz
    rw [w1 hs] at h
    exact ⟨qc_vi e2 (by omega) (by decide), nm_r (qc_sr e2 (by omega) rfl) h⟩
theorem qc_xcp (P : SX → Prop) (r5 : r < 5) (h1 : 1 ≤ d r) (h6 : d r ≤ 6) (hp : p (r * 6 + d r - 1) = x) (x1 : 1 ≤ x) (x64 : x ≤ 64) (v sc : Int32)
    (H : ((oo (x - 1) = 14 → wX_complete_47 P sc v (nI (r * 6 + d r - 1)) (nI (x - 1)) 1 (nI mc) (nI md) (nI cl) (nI lc) st rt (nI r) lh rd re oo oa ob oc lg hn (fun zz => nI ((qc_u s r 1) zz)) (fun zz => nI (rs zz)) (fun zz => nI (bd zz)) (fun zz => nI (d zz)) (fun zz => nI (p zz)) (fun zz => nI (n zz)) rg tg) ∧ (¬ oo (x - 1) = 14 → wX_complete_47 P sc v (nI (r * 6 + d r - 1)) (nI (x - 1)) 0 (nI mc) (nI md) (nI cl) (nI lc) st rt (nI r) lh rd re oo oa ob oc lg hn (fun zz => nI ((qc_u s r 1) zz)) (fun zz => nI (rs zz)) (fun zz => nI (bd zz)) (fun zz => nI (d zz)) (fun zz => nI (p zz)) (fun zz => nI (n zz)) rg tg))) :
    wpX_complete P (nI mc, nI md, nI cl, nI lc, st, rt, nI cu, lh, rd, re, oo, oa, ob, oc, lg, hn, (fun zz => nI (s zz)), (fun zz => nI (rs zz)), (fun zz => nI (bd zz)), (fun zz => nI (d zz)), (fun zz => nI (p zz)), (fun zz => nI (n zz)), rg, tg) (nI r) sc v := by
  refine ⟨vp_in_nI r5 (by decide), nm_r (qc_st (x := 1) rfl rfl (by omega)) (qc_xtf (cu := r) (s := qc_u s r 1) _ r5 h1 ⟨vp_in_nI (by omega) (by decide), nm_r (qc_de1 ((qc_rd p rfl (by omega)).trans (congrArg nI hp)) x1) ⟨vp_in_nI (by omega) (by decide), ?_⟩⟩)⟩
  rw [nI_clamp (by omega)]
  exact H
theorem qc_xc13 (P : SX → Prop) (r5 : r < 5) (h1 : 1 ≤ d r) (h6 : d r ≤ 6) (hp : p (r * 6 + d r - 1) = x) (x1 : 1 ≤ x) (x64 : x ≤ 64) (ha : oa (x - 1) = nI a) (a8 : a < 8) (ho : oo (x - 1) = 13) (v sc w : Int32) (w0 : sc = 0 → w = 0) (w1 : ¬ sc = 0 → w = 1)
    (h : P (nI mc, nI md, nI cl, nI lc, st, rt, nI r, lh, rd, re, oo, oa, ob, oc, lg, hn, (fun zz => nI ((qc_u s r 1) zz)), (fun zz => nI (rs zz)), (fun zz => nI (bd zz)), (fun zz => nI (d zz)), (fun zz => nI (p zz)), (fun zz => nI (n zz)), (upd (upd rg ((r * 6 + d r - 1) * 8 + a) v) ((r * 6 + d r - 1) * 8 + (a + 1) % 8) w), tg)) :
    wpX_complete P (nI mc, nI md, nI cl, nI lc, st, rt, nI cu, lh, rd, re, oo, oa, ob, oc, lg, hn, (fun zz => nI (s zz)), (fun zz => nI (rs zz)), (fun zz => nI (bd zz)), (fun zz => nI (d zz)), (fun zz => nI (p zz)), (fun zz => nI (n zz)), rg, tg) (nI r) sc v :=
  qc_xcp P r5 h1 h6 hp x1 x64 v sc (br_f (by rw [ho]; decide) (br_t rfl (qc_xc64 P (by omega) (by omega) ha a8 v sc w 0 (fun z => absurd rfl z) (fun _ => ⟨w0, w1, h⟩))))
theorem qc_xc14 (P : SX → Prop) (r5 : r < 5) (h1 : 1 ≤ d r) (h6 : d r ≤ 6) (hp : p (r * 6 + d r - 1) = x) (x1 : 1 ≤ x) (x64 : x ≤ 64) (ha : oa (x - 1) = nI a) (a8 : a < 8) (ho : oo (x - 1) = 14) (v sc : Int32) (hs : ¬ sc = 0)
    (h : P (nI mc, nI md, nI cl, nI lc, st, rt, nI r, lh, rd, re, oo, oa, ob, oc, lg, hn, (fun zz => nI ((qc_u s r 1) zz)), (fun zz => nI (rs zz)), (fun zz => nI (bd zz)), (fun zz => nI (d zz)), (fun zz => nI (p zz)), (fun zz => nI (n zz)), (upd rg ((r * 6 + d r - 1) * 8 + a) v), tg)) :
    wpX_complete P (nI mc, nI md, nI cl, nI lc, st, rt, nI cu, lh, rd, re, oo, oa, ob, oc, lg, hn, (fun zz => nI (s zz)), (fun zz => nI (rs zz)), (fun zz => nI (bd zz)), (fun zz => nI (d zz)), (fun zz => nI (p zz)), (fun zz => nI (n zz)), rg, tg) (nI r) sc v :=
  qc_xcp P r5 h1 h6 hp x1 x64 v sc (br_t ho (br_f (by decide) (br_f hs (qc_xc64 P (by omega) (by omega) ha a8 v sc 0 1 (fun _ => h) (fun z => absurd z (by decide))))))
theorem qc_xcr (P : SX → Prop) (r5 : r < 5) (h1 : 1 ≤ d r) (h6 : d r ≤ 6) (hp : p (r * 6 + d r - 1) = x) (x1 : 1 ≤ x) (x64 : x ≤ 64) (ho : oo (x - 1) = 14) (v : Int32)
    (h : P (nI mc, nI md, nI cl, nI lc, st, rt, nI r, lh, 1, v, oo, oa, ob, oc, lg, hn, (fun zz => nI ((qc_u s r 1) zz)), (fun zz => nI (rs zz)), (fun zz => nI (bd zz)), (fun zz => nI (d zz)), (fun zz => nI (p zz)), (fun zz => nI (n zz)), rg, tg)) :
    wpX_complete P (nI mc, nI md, nI cl, nI lc, st, rt, nI cu, lh, rd, re, oo, oa, ob, oc, lg, hn, (fun zz => nI (s zz)), (fun zz => nI (rs zz)), (fun zz => nI (bd zz)), (fun zz => nI (d zz)), (fun zz => nI (p zz)), (fun zz => nI (n zz)), rg, tg) (nI r) 0 v :=
  qc_xcp P r5 h1 h6 hp x1 x64 v 0 (br_t ho (br_f (by decide) (br_t rfl h)))
end
end
section
section
variable {mc md cl lc cu h B : Nat} {st rt lh rd re cy : Int32} {oo oa ob oc lg hn rg tg : Nat → Int32} {d s lv rs bd yr p q n m : Nat → Nat} {c r t x a b : Nat} {l L : List Nat}
theorem qc_yap (P : SY → Prop) {v w : Int32} (hv : v = w) (hl : lc ≤ 64) (h : P (nI mc, nI md, st, rt, cy, lh, nI cl, nI ((qc_ap (lg, lc) w).2), oo, oa, ob, oc, (qc_ap (lg, lc) w).1, hn, (fun zz => nI (d zz)), (fun zz => nI (rs zz)), (fun zz => nI (bd zz)), (fun zz => nI (yr zz)), (fun zz => nI (lv zz)), rg, (fun zz => nI (q zz)), (fun zz => nI (m zz)), tg)) : wpY_append P (nI mc, nI md, st, rt, cy, lh, nI cl, nI lc, oo, oa, ob, oc, lg, hn, (fun zz => nI (d zz)), (fun zz => nI (rs zz)), (fun zz => nI (bd zz)), (fun zz => nI (yr zz)), (fun zz => nI (lv zz)), rg, (fun zz => nI (q zz)), (fun zz => nI (m zz)), tg) v := by
  subst hv
  by_cases z : lc < 64
  · have e : qc_ap (lg, lc) v = (upd lg lc v, lc + 1) := if_pos z
    rw [e] at h
    exact br_f (nI_ge (b := 64) z (by decide)) ⟨vp_in_nI z (by decide), nm_r (qc_sr rfl (by omega) rfl) (nm_r (nI_1 lc) h)⟩
  · have e : qc_ap (lg, lc) v = (lg, lc) := if_neg z
    rw [e] at h
    exact br_t (nI_le (a := 64) (by omega) (by omega)) h
theorem qc_ypl (P : SY → Prop) {f : Nat} (v : Int32) (t5 : t < 5) (hf : f < 30) : ∀ (k r : Nat) (rg : Nat → Int32), r + k = 8 →
    P (nI mc, nI md, st, rt, cy, lh, nI cl, nI lc, oo, oa, ob, oc, lg, hn, (fun zz => nI ((qc_u d t (x + 1)) zz)), (fun zz => nI (rs zz)), (fun zz => nI (bd zz)), (fun zz => nI (yr zz)), (fun zz => nI (lv zz)), (upd (qc_z rg (f * 8) r) (f * 8) v), (fun zz => nI ((qc_u q f a) zz)), (fun zz => nI ((qc_u m f 0) zz)), tg) → wY_pushFrame_33 P (nI t) v (nI a) (nI x) (nI f) (nI mc) (nI md) st rt cy lh (nI cl) (nI lc) (k + 1) (nI r) oo oa ob oc lg hn (fun zz => nI (d zz)) (fun zz => nI (rs zz)) (fun zz => nI (bd zz)) (fun zz => nI (yr zz)) (fun zz => nI (lv zz)) rg (fun zz => nI (q zz)) (fun zz => nI (m zz)) tg := by
  intro k
  induction k with
  | zero =>
    intro r rg hr h
    have e : r = 8 := by omega
    subst e
    rw [qc_z8] at h
    exact br_t (nI_le (a := 8) (b := 8) (by omega) (by decide)) ⟨qc_vi (qc_m8 _) (by omega) (by decide), nm_r (qc_sr (qc_m8 _) (by omega) rfl) ⟨vp_in_nI hf (by decide), nm_r (qc_st rfl rfl (by omega)) ⟨vp_in_nI hf (by decide), nm_r (qc_st (x := 0) rfl rfl (by omega)) ⟨vp_in_nI t5 (by decide), nm_r (qc_st rfl (nI_1 x) (by omega)) h⟩⟩⟩⟩
  | succ k ih =>
    intro r rg hr h
    have e : nI f * 8 + nI r = nI (f * 8 + r) := qc_fr8 rfl rfl
    refine br_f (nI_ge (b := 8) (by omega) (by decide)) ⟨qc_vi e (by omega) (by decide), nm_r (qc_sr e (by omega) rfl) (nm_r (nI_1 r) (ih (r + 1) _ (by omega) ?_))⟩
    rw [qc_zs _ (by omega)]
    exact h
theorem qc_ypush (P : SY → Prop) (v : Int32) (t5 : t < 5) (hd : d t < 6)
    (h : P (nI mc, nI md, st, rt, cy, lh, nI cl, nI lc, oo, oa, ob, oc, lg, hn, (fun zz => nI ((qc_u d t (d t + 1)) zz)), (fun zz => nI (rs zz)), (fun zz => nI (bd zz)), (fun zz => nI (yr zz)), (fun zz => nI (lv zz)), (qc_pr rg ((t * 6 + d t) * 8) v), (fun zz => nI ((qc_u q (t * 6 + d t) a) zz)), (fun zz => nI ((qc_u m (t * 6 + d t) 0) zz)), tg)) : wpY_pushFrame P (nI mc, nI md, st, rt, cy, lh, nI cl, nI lc, oo, oa, ob, oc, lg, hn, (fun zz => nI (d zz)), (fun zz => nI (rs zz)), (fun zz => nI (bd zz)), (fun zz => nI (yr zz)), (fun zz => nI (lv zz)), rg, (fun zz => nI (q zz)), (fun zz => nI (m zz)), tg) (nI t) v (nI a) :=
  ⟨vp_in_nI t5 (by decide), nm_r (qc_rd d rfl (by omega)) (br_f (nI_pos (by omega)) (br_t (nI_lt (b := 6) hd (by decide)) (nm_r (show nI t * 6 + nI (d t) = nI (t * 6 + d t) by rw [qc_m6, nI_add]) ⟨9, qc_ypl P v t5 (by omega) 8 0 _ rfl h⟩)))⟩
theorem qc_ypcl (P : SY → Prop) {f : Nat} (hf : f < 30) (h4 : m f ≤ 4) : ∀ (k lc : Nat) (lg : Nat → Int32) (x2 : Int32), x2 = nI k - 1 → k ≤ 4 → lc ≤ 64 →
    P (nI mc, nI md, st, rt, cy, lh, nI cl, nI ((qc_cl tg f (min k (m f)) (lg, lc)).2), oo, oa, ob, oc, (qc_cl tg f (min k (m f)) (lg, lc)).1, hn, (fun zz => nI (d zz)), (fun zz => nI (rs zz)), (fun zz => nI (bd zz)), (fun zz => nI (yr zz)), (fun zz => nI (lv zz)), rg, (fun zz => nI (q zz)), (fun zz => nI ((qc_u m f 0) zz)), tg) → wY_performCleanups_2 P (nI f) (k + 1) x2 (nI mc) (nI md) st rt cy lh (nI cl) (nI lc) oo oa ob oc lg hn (fun zz => nI (d zz)) (fun zz => nI (rs zz)) (fun zz => nI (bd zz)) (fun zz => nI (yr zz)) (fun zz => nI (lv zz)) rg (fun zz => nI (q zz)) (fun zz => nI (m zz)) tg := by
  intro k
  induction k with
  | zero =>
    intro lc lg x2 hx hk hl h
    subst hx
    rw [Nat.zero_min] at h
    exact br_t (by decide) ⟨vp_in_nI hf (by decide), nm_r (qc_st (x := 0) rfl rfl (by omega)) h⟩
  | succ k ih =>
    intro lc lg x2 hx hk hl h
    rw [nI_pred] at hx
    subst hx
    have e : nI f * 4 + nI k = nI (f * 4 + k) := qc_fr4 rfl rfl
    refine br_f (nI_pos (by omega)) ⟨vp_in_nI hf (by decide), ?_⟩
    by_cases z : m f ≤ k
    · refine br_t ?_ (nm_e (ih _ _ _ (Int32.sub_eq_add_neg ..).symm (by omega) hl ?_))
      · rw [qc_rd m rfl (by omega)]
        exact nI_le z (by omega)
      · rw [Nat.min_eq_right z]
        rw [Nat.min_eq_right (by omega)] at h
        exact h
    · refine br_f ?_ ⟨qc_vi e (by omega) (by decide), qc_yap _ (qc_rr e (by omega)) hl (nm_e (ih _ _ _ (Int32.sub_eq_add_neg ..).symm (by omega) (qc_ap_le hl) ?_))⟩
      · rw [qc_rd m rfl (by omega)]
        exact nI_ge (by omega) (by omega)
      · rw [Nat.min_eq_left (by omega)]
        rw [Nat.min_eq_left (by omega)] at h
        exact h
theorem qc_ypc (P : SY → Prop) {f : Nat} (hf : f < 30) (h4 : m f ≤ 4) (hl : lc ≤ 64)
    (h : P (nI mc, nI md, st, rt, cy, lh, nI cl, nI ((qc_cl tg f (m f) (lg, lc)).2), oo, oa, ob, oc, (qc_cl tg f (m f) (lg, lc)).1, hn, (fun zz => nI (d zz)), (fun zz => nI (rs zz)), (fun zz => nI (bd zz)), (fun zz => nI (yr zz)), (fun zz => nI (lv zz)), rg, (fun zz => nI (q zz)), (fun zz => nI ((qc_u m f 0) zz)), tg)) : wpY_performCleanups P (nI mc, nI md, st, rt, cy, lh, nI cl, nI lc, oo, oa, ob, oc, lg, hn, (fun zz => nI (d zz)), (fun zz => nI (rs zz)), (fun zz => nI (bd zz)), (fun zz => nI (yr zz)), (fun zz => nI (lv zz)), rg, (fun zz => nI (q zz)), (fun zz => nI (m zz)), tg) (nI f) := by
  refine ⟨5, qc_ypcl P hf h4 4 _ _ _ (by decide) (by omega) hl ?_⟩
  rw [Nat.min_eq_right h4]
  exact h
theorem qc_yunl (P : SY → Prop) (t5 : t < 5) : ∀ (j i lc : Nat) (lg : Nat → Int32) (d m : Nat → Nat), i + j ≤ 6 → d t = j → (∀ i, i < j → m (t * 6 + i) ≤ 4) → lc ≤ 64 →
    P (nI mc, nI md, st, rt, cy, lh, nI cl, nI ((qc_uw tg m t j (lg, lc)).2), oo, oa, ob, oc, (qc_uw tg m t j (lg, lc)).1, hn, (fun zz => nI ((qc_u d t 0) zz)), (fun zz => nI (rs zz)), (fun zz => nI (bd zz)), (fun zz => nI (yr zz)), (fun zz => nI (lv zz)), rg, (fun zz => nI (q zz)), (fun zz => nI ((qc_mz t j m) zz)), tg) → wY_unwind_2 P (nI t) (j + 1) (nI i) (nI mc) (nI md) st rt cy lh (nI cl) (nI lc) oo oa ob oc lg hn (fun zz => nI (d zz)) (fun zz => nI (rs zz)) (fun zz => nI (bd zz)) (fun zz => nI (yr zz)) (fun zz => nI (lv zz)) rg (fun zz => nI (q zz)) (fun zz => nI (m zz)) tg := by
  intro j
  induction j with
  | zero =>
    intro i lc lg d m hi hd h4 hl h
    rw [qc_ue hd] at h
    by_cases z : i = 6
    · exact br_t (nI_le (a := 6) (by omega) (by omega)) h
    · refine br_f (nI_ge (b := 6) (by omega) (by decide)) ⟨vp_in_nI t5 (by decide), br_f ?_ h⟩
      rw [qc_rd d rfl (by omega), hd]
      decide
  | succ j ih =>
    intro i lc lg d m hi hd h4 hl h
    have e : nI t * 6 + (fun zz => nI (d zz)) (nI t).toNatClampNeg - 1 = nI (t * 6 + j) := by
      rw [qc_rd d rfl (by omega), qc_tf (by omega), hd]
      rfl
    refine br_f (nI_ge (b := 6) (by omega) (by decide)) ⟨vp_in_nI t5 (by decide), br_t ?_ ⟨vp_in_nI t5 (by decide), ?_⟩⟩
    · rw [qc_rd d rfl (by omega), hd]
      exact nI_lt (a := 0) (by omega) (by omega)
    · rw [e]
      refine qc_ypc _ (by omega) (h4 j (by omega)) hl ⟨vp_in_nI t5 (by decide), vp_in_nI t5 (by decide), nm_r (qc_st rfl (qc_de1 (qc_rd d rfl (by omega)) (by omega)) (by omega)) (nm_r (nI_1 i) (ih (i + 1) _ _ (qc_u d t (d t - 1)) (qc_u m (t * 6 + j) 0) (by omega) (by rw [qc_us]; omega) (fun k hk => by rw [qc_uo (by omega)]; exact h4 k (by omega)) (qc_cl_le _ _ hl) ?_))⟩
      rw [qc_uu, qc_uw_c (n := m) j _ (fun k hk => qc_uo (by omega))]
      exact h
theorem qc_yunw (P : SY → Prop) (t5 : t < 5) (h6 : d t ≤ 6) (h4 : ∀ i, i < d t → m (t * 6 + i) ≤ 4) (hl : lc ≤ 64)
    (h : P (nI mc, nI md, st, rt, cy, lh, nI cl, nI ((qc_uw tg m t (d t) (lg, lc)).2), oo, oa, ob, oc, (qc_uw tg m t (d t) (lg, lc)).1, hn, (fun zz => nI ((qc_u d t 0) zz)), (fun zz => nI (rs zz)), (fun zz => nI (bd zz)), (fun zz => nI (yr zz)), (fun zz => nI (lv zz)), rg, (fun zz => nI (q zz)), (fun zz => nI ((qc_mz t (d t) m) zz)), tg)) : wpY_unwind P (nI mc, nI md, st, rt, cy, lh, nI cl, nI lc, oo, oa, ob, oc, lg, hn, (fun zz => nI (d zz)), (fun zz => nI (rs zz)), (fun zz => nI (bd zz)), (fun zz => nI (yr zz)), (fun zz => nI (lv zz)), rg, (fun zz => nI (q zz)), (fun zz => nI (m zz)), tg) (nI t) :=
  ⟨_, qc_yunl P t5 (d t) 0 _ _ _ _ (by omega) rfl h4 hl h⟩
theorem qc_ycs (P : SY → Prop) (r5 : r < 5) (h1 : 1 ≤ d r) (h6 : d r ≤ 6) (hp : q (r * 6 + d r - 1) = x) (x1 : 1 ≤ x) (x64 : x ≤ 64) (ha : oa (x - 1) = nI a) (a8 : a < 8) (v : Int32)
    (H : (oo (x - 1) = 13 → P (nI mc, nI md, st, rt, nI r, lh, nI cl, nI lc, oo, oa, ob, oc, lg, hn, (fun zz => nI (d zz)), (fun zz => nI (rs zz)), (fun zz => nI (bd zz)), (fun zz => nI (yr zz)), (fun zz => nI (lv zz)), (upd (upd rg ((r * 6 + d r - 1) * 8 + a) v) ((r * 6 + d r - 1) * 8 + (a + 1) % 8) 1), (fun zz => nI (q zz)), (fun zz => nI (m zz)), tg)) ∧ (¬ oo (x - 1) = 13 → P (nI mc, nI md, st, rt, nI r, lh, nI cl, nI lc, oo, oa, ob, oc, lg, hn, (fun zz => nI (d zz)), (fun zz => nI (rs zz)), (fun zz => nI (bd zz)), (fun zz => nI (yr zz)), (fun zz => nI (lv zz)), (upd rg ((r * 6 + d r - 1) * 8 + a) v), (fun zz => nI (q zz)), (fun zz => nI (m zz)), tg))) :
    wpY_completeSuccess P (nI mc, nI md, st, rt, cy, lh, nI cl, nI lc, oo, oa, ob, oc, lg, hn, (fun zz => nI (d zz)), (fun zz => nI (rs zz)), (fun zz => nI (bd zz)), (fun zz => nI (yr zz)), (fun zz => nI (lv zz)), rg, (fun zz => nI (q zz)), (fun zz => nI (m zz)), tg) (nI r) v := by
  have e1 : nI (r * 6 + d r - 1) * 8 + nI a = nI ((r * 6 + d r - 1) * 8 + a) := qc_fr8 rfl rfl
  have e2 : nI (r * 6 + d r - 1) * 8 + ((nI a + 1) &&& 7) = nI ((r * 6 + d r - 1) * 8 + (a + 1) % 8) := qc_fr8 rfl (qc_a17 a8)
  have e0 : nI r * 6 + (fun zz => nI (d zz)) (nI r).toNatClampNeg - 1 = nI (r * 6 + d r - 1) := by
    rw [qc_rd d rfl (by omega), qc_tf h1]
  refine ⟨vp_in_nI r5 (by decide), br_t ?_ ⟨vp_in_nI r5 (by decide), nm_r e0 ⟨vp_in_nI (by omega) (by decide), nm_r (qc_de1 ((qc_rd q rfl (by omega)).trans (congrArg nI hp)) x1) (br_f (nI_pos (by omega)) (br_t (nI_lt (b := 64) (by omega) (by decide)) ⟨vp_in_nI (by omega) (by decide), nm_r ?_ ⟨qc_vi e1 (by omega) (by decide), nm_r (qc_sr e1 (by omega) rfl) ⟨vp_in_nI (by omega) (by decide), ?_⟩⟩⟩))⟩⟩⟩
  · rw [qc_rd d rfl (by omega)]
    exact nI_lt (a := 0) (by omega) (by omega)
  · rw [nI_clamp (by omega), ha, qc_a7 a8]
  · rw [nI_clamp (by omega)]
    exact br_c (fun z => ⟨qc_vi e2 (by omega) (by decide), nm_r (qc_sr e2 (by omega) rfl) (H.1 z)⟩) (fun z => H.2 z)
end
end
section
section
variable {mc md cl lc cu h B : Nat} {st rt lh rd re cy : Int32} {oo oa ob oc lg hn rg tg : Nat → Int32} {d s lv rs bd yr p q n m : Nat → Nat} {c r t x a b : Nat} {l L : List Nat}
theorem qc_al (I : qc_I mc md oo oa ob d s lv rs yr p q n m L) (t0 : t ≠ 0) (t5 : t < 5) : (s t = 3 ∧ lv t = 0) ∨ (s t < 3 ∧ lv t = 1) := by
  have o : qc_O md oa ob d s lv yr p q n m t → (s t = 3 ∧ lv t = 0) ∨ (s t < 3 ∧ lv t = 1) := by
    intro o
    rcases o with o | o
    · exact .inl ⟨o.1, o.2.1⟩
    · exact .inr ⟨by have := o.2.1; omega, o.2.2.1⟩
  cases L with
  | nil => exact o (I.2.2.2.2 t t5)
  | cons c l =>
    obtain ⟨i1, i2, i3, i4, i5, i6, i7⟩ := I
    by_cases z : t ∈ c :: l
    · rcases List.mem_cons.mp z with y | y
      · subst y
        exact .inr ⟨by have := i5.2.2.1; omega, i5.2.2.2.1 t0⟩
      · exact .inr ⟨by have := (i6 t y).2.2.1; omega, (i6 t y).2.2.2.1 t0⟩
    · exact o (i7 t t5 z)
theorem qc_sin (I : qc_I mc md oo oa ob d s lv rs yr p q n m (c :: l)) (z : t ∈ c :: l) : (t = c → s t = 1) ∧ (t ≠ c → s t = 2) := by
  obtain ⟨i1, i2, i3, i4, i5, i6, i7⟩ := I
  have hc : c ∉ l := (List.nodup_cons.mp i2).1
  refine ⟨fun e => ?_, fun e => ?_⟩
  · rw [e]; exact i5.2.2.1
  · rcases List.mem_cons.mp z with y | y
    · exact absurd y e
    · exact (i6 t y).2.2.1
theorem qc_s0 (I : qc_I mc md oo oa ob d s lv rs yr p q n m (c :: l)) (hs : s t = 0) : t ∉ c :: l ∧ t ≠ 0 := by
  have a : t ∉ c :: l := fun z => by
    have h := qc_sin I z
    by_cases e : t = c
    · have := h.1 e; omega
    · have := h.2 e; omega
  exact ⟨a, fun e => a (e ▸ qc_Lk_0 l c I.1)⟩
theorem qc_s00 (I : qc_I mc md oo oa ob d s lv rs yr p q n m (c :: l)) : s 0 = 1 ∨ s 0 = 2 := by
  have h := qc_sin I (qc_Lk_0 l c I.1)
  by_cases e : 0 = c
  · exact .inl (h.1 e)
  · exact .inr (h.2 e)
theorem qc_thl (al : ∀ t, t ≠ 0 → t < 5 → (s t = 3 ∧ lv t = 0) ∨ (s t < 3 ∧ lv t = 1)) (g : Int32) : ∀ k j, j + k = 5 → j ≠ 0 →
    (∃ t, t < 5 ∧ t ≠ 0 ∧ lv t = 1 ∧ s t < 3 ∧ (∀ P : Int32 → Prop, P (nI t) → wX_threadOf_8 P g (nI mc) (nI md) (nI cl) (nI lc) st rt (nI cu) lh rd re oo oa ob oc lg hn (fun zz => nI (s zz)) (fun zz => nI (rs zz)) (fun zz => nI (bd zz)) (fun zz => nI (d zz)) (fun zz => nI (p zz)) (fun zz => nI (n zz)) rg tg (k + 1) (nI j)) ∧ (∀ P : Int32 → Prop, P (nI t) → wY_slotOf_8 P g (nI mc) (nI md) st rt cy lh (nI cl) (nI lc) oo oa ob oc lg hn (fun zz => nI (d zz)) (fun zz => nI (rs zz)) (fun zz => nI (bd zz)) (fun zz => nI (yr zz)) (fun zz => nI (lv zz)) rg (fun zz => nI (q zz)) (fun zz => nI (m zz)) tg (k + 1) (nI j))) ∨
    ((∀ P : Int32 → Prop, P (-1) → wX_threadOf_8 P g (nI mc) (nI md) (nI cl) (nI lc) st rt (nI cu) lh rd re oo oa ob oc lg hn (fun zz => nI (s zz)) (fun zz => nI (rs zz)) (fun zz => nI (bd zz)) (fun zz => nI (d zz)) (fun zz => nI (p zz)) (fun zz => nI (n zz)) rg tg (k + 1) (nI j)) ∧ (∀ P : Int32 → Prop, P (-1) → wY_slotOf_8 P g (nI mc) (nI md) st rt cy lh (nI cl) (nI lc) oo oa ob oc lg hn (fun zz => nI (d zz)) (fun zz => nI (rs zz)) (fun zz => nI (bd zz)) (fun zz => nI (yr zz)) (fun zz => nI (lv zz)) rg (fun zz => nI (q zz)) (fun zz => nI (m zz)) tg (k + 1) (nI j))) := by
  intro k
  induction k with
  | zero =>
    intro j hj _
    have e : j = 5 := by omega
    subst e
    exact .inr ⟨fun P h => br_t (nI_le (a := 5) (b := 5) (by omega) (by decide)) h, fun P h => br_t (nI_lt (a := 4) (b := 5) (by omega) (by decide)) h⟩
  | succ k ih =>
    intro j hj j0
    have hx : ¬ (5 : Int32) ≤ nI j := nI_ge (b := 5) (by omega) (by decide)
    have hy : ¬ (4 : Int32) < nI j := nI_nlt (a := 4) (by omega) (by decide)
    have hi : vp_in (nI j) 5 := vp_in_nI (by omega) (by decide)
    have es : (fun zz => nI (s zz)) (nI j).toNatClampNeg = nI (s j) := qc_rd s rfl (by omega)
    have el : (fun zz => nI (lv zz)) (nI j).toNatClampNeg = nI (lv j) := qc_rd lv rfl (by omega)
    have eh : hn (nI j).toNatClampNeg = hn j := qc_rr rfl (by omega)
    rcases al j j0 (by omega) with ⟨a1, a2⟩ | ⟨a1, a2⟩
    · have cx : (fun zz => nI (s zz)) (nI j).toNatClampNeg = 3 := by rw [es, a1]; rfl
      have cy : (fun zz => nI (lv zz)) (nI j).toNatClampNeg = 0 := by rw [el, a2]; rfl
      rcases ih (j + 1) (by omega) (by omega) with ⟨t, b1, b2, b3, b4, b5, b6⟩ | ⟨b5, b6⟩
      · exact .inl ⟨t, b1, b2, b3, b4, fun P h => br_f hx ⟨hi, br_t cx (nm_r (nI_1 j) (b5 P h))⟩, fun P h => br_f hy ⟨hi, br_t cy (nm_r (nI_1 j) (b6 P h))⟩⟩
      · exact .inr ⟨fun P h => br_f hx ⟨hi, br_t cx (nm_r (nI_1 j) (b5 P h))⟩, fun P h => br_f hy ⟨hi, br_t cy (nm_r (nI_1 j) (b6 P h))⟩⟩
    · have cx : ¬ (fun zz => nI (s zz)) (nI j).toNatClampNeg = 3 := by
        rw [es]
        exact fun z => by have := (nI_eq (b := 3) (by omega) (by decide)).mp z; omega
      have cy : ¬ (fun zz => nI (lv zz)) (nI j).toNatClampNeg = 0 := by rw [el, a2]; decide
      by_cases z : hn j = g
      · exact .inl ⟨j, by omega, j0, a2, a1, fun P h => br_f hx ⟨hi, br_f cx ⟨hi, br_t (eh.trans z) h⟩⟩, fun P h => br_f hy ⟨hi, br_f cy ⟨hi, br_t (eh.trans z) h⟩⟩⟩
      · have ch : ¬ hn (nI j).toNatClampNeg = g := by rw [eh]; exact z
        rcases ih (j + 1) (by omega) (by omega) with ⟨t, b1, b2, b3, b4, b5, b6⟩ | ⟨b5, b6⟩
        · exact .inl ⟨t, b1, b2, b3, b4, fun P h => br_f hx ⟨hi, br_f cx ⟨hi, br_f ch (nm_r (nI_1 j) (b5 P h))⟩⟩, fun P h => br_f hy ⟨hi, br_f cy ⟨hi, br_f ch (nm_r (nI_1 j) (b6 P h))⟩⟩⟩
        · exact .inr ⟨fun P h => br_f hx ⟨hi, br_f cx ⟨hi, br_f ch (nm_r (nI_1 j) (b5 P h))⟩⟩, fun P h => br_f hy ⟨hi, br_f cy ⟨hi, br_f ch (nm_r (nI_1 j) (b6 P h))⟩⟩⟩
theorem qc_thr (al : ∀ t, t ≠ 0 → t < 5 → (s t = 3 ∧ lv t = 0) ∨ (s t < 3 ∧ lv t = 1)) (g : Int32) :
    (∃ t, t < 5 ∧ (t = 0 ↔ g = 0) ∧ (t ≠ 0 → lv t = 1 ∧ s t < 3) ∧ (∀ P : Int32 → Prop, P (nI t) → wpX_threadOf P (nI mc, nI md, nI cl, nI lc, st, rt, nI cu, lh, rd, re, oo, oa, ob, oc, lg, hn, (fun zz => nI (s zz)), (fun zz => nI (rs zz)), (fun zz => nI (bd zz)), (fun zz => nI (d zz)), (fun zz => nI (p zz)), (fun zz => nI (n zz)), rg, tg) g) ∧ (∀ P : Int32 → Prop, P (nI t) → wpY_slotOf P (nI mc, nI md, st, rt, cy, lh, nI cl, nI lc, oo, oa, ob, oc, lg, hn, (fun zz => nI (d zz)), (fun zz => nI (rs zz)), (fun zz => nI (bd zz)), (fun zz => nI (yr zz)), (fun zz => nI (lv zz)), rg, (fun zz => nI (q zz)), (fun zz => nI (m zz)), tg) g)) ∨
    (g ≠ 0 ∧ (∀ P : Int32 → Prop, P (-1) → wpX_threadOf P (nI mc, nI md, nI cl, nI lc, st, rt, nI cu, lh, rd, re, oo, oa, ob, oc, lg, hn, (fun zz => nI (s zz)), (fun zz => nI (rs zz)), (fun zz => nI (bd zz)), (fun zz => nI (d zz)), (fun zz => nI (p zz)), (fun zz => nI (n zz)), rg, tg) g) ∧ (∀ P : Int32 → Prop, P (-1) → wpY_slotOf P (nI mc, nI md, st, rt, cy, lh, nI cl, nI lc, oo, oa, ob, oc, lg, hn, (fun zz => nI (d zz)), (fun zz => nI (rs zz)), (fun zz => nI (bd zz)), (fun zz => nI (yr zz)), (fun zz => nI (lv zz)), rg, (fun zz => nI (q zz)), (fun zz => nI (m zz)), tg) g)) := by
  by_cases z : g = 0
  · exact .inl ⟨0, by omega, ⟨fun _ => z, fun _ => rfl⟩, fun z => absurd rfl z, fun P h => br_t z h, fun P h => br_t z h⟩
  · rcases qc_thl (mc := mc) (md := md) (cl := cl) (lc := lc) (cu := cu) (st := st) (rt := rt) (lh := lh) (rd := rd) (re := re) (cy := cy) (oo := oo) (oa := oa) (ob := ob) (oc := oc) (lg := lg) (hn := hn) (rg := rg) (tg := tg) (d := d) (rs := rs) (bd := bd) (yr := yr) (p := p) (q := q) (n := n) (m := m) al g 4 1 rfl (by omega) with ⟨t, b1, b2, b3, b4, b5, b6⟩ | ⟨b5, b6⟩
    · exact .inl ⟨t, b1, ⟨fun y => absurd y b2, fun y => absurd y z⟩, fun _ => ⟨b3, b4⟩, fun P h => br_f z ⟨5, b5 P h⟩, fun P h => br_f z ⟨5, b6 P h⟩⟩
    · exact .inr ⟨z, fun P h => br_f z ⟨5, b5 P h⟩, fun P h => br_f z ⟨5, b6 P h⟩⟩
theorem qc_ywk (P : Int32 → Prop) (t5 : t < 5) (t0 : t ≠ 0) : ∀ (l : List Nat) (x k : Nat), qc_Lk rs (x :: l) → (∀ y, y ∈ x :: l → y < 5) → k + l.length ≤ 5 →
    (t = x → k = 0 → P 1) → (t ∈ x :: l → ¬ (t = x ∧ k = 0) → P 2) → (t ∉ x :: l → P 0) → wY_coStatus_48 P (nI t) (nI mc) (nI md) st rt cy lh (nI cl) (nI lc) oo oa ob oc lg hn (fun zz => nI (d zz)) (fun zz => nI (rs zz)) (fun zz => nI (bd zz)) (fun zz => nI (yr zz)) (fun zz => nI (lv zz)) rg (fun zz => nI (q zz)) (fun zz => nI (m zz)) tg (l.length + 1) (nI x) (nI k) := by
  intro l
  induction l with
  | nil =>
    intro x k hL h5 hk p1 p2 p0
    have x0 : x = 0 := hL
    subst x0
    exact br_f (nI_ge (b := 6) (by simp at hk; omega) (by decide)) (br_f (by decide) (br_t (by decide) (br_f (fun z => t0 ((nI_eq (a := 0) (by omega) (by omega)).mp z).symm) (br_t rfl (p0 (by simpa using t0))))))
  | cons y l ih =>
    intro x k hL h5 hk p1 p2 p0
    have x5 : x < 5 := h5 x List.mem_cons_self
    have hk' : k + l.length + 1 ≤ 5 := by simp at hk; omega
    refine br_f (nI_ge (b := 6) (by omega) (by decide)) (br_f (nI_pos (by omega)) (br_t (nI_le (b := 4) (by omega) (by decide)) ?_))
    by_cases z : x = t
    · refine br_t (by rw [z]) (pk_eq k 0 (fun k0 => p1 z.symm k0) (fun k0 => p2 (by rw [z]; exact List.mem_cons_self) (fun w => k0 w.2)))
    · refine br_f (fun w => z ((nI_eq (by omega) (by omega)).mp w)) (br_f (fun w => hL.1 ((nI_eq (b := 0) (by omega) (by omega)).mp w)) ⟨vp_in_nI x5 (by decide), nm_r ((qc_rd rs rfl (by omega)).trans (congrArg nI hL.2.1)) (nm_r (nI_1 k) (ih y (k + 1) hL.2.2 (fun a ha => h5 a (List.mem_cons_of_mem _ ha)) (by omega) (fun _ w => by omega) (fun w _ => p2 (List.mem_cons_of_mem _ w) (fun u => z u.1.symm)) (fun w => p0 (fun u => ?_))))⟩)
      rcases List.mem_cons.mp u with u | u
      · exact z u.symm
      · exact w u
theorem qc_yco (I : qc_I mc md oo oa ob d s lv rs yr p q n m L) (S : qc_S st rt L) (g : Int32) {mc' md' cl lc : Nat} {lh : Int32} {oo' oa' ob' oc lg hn rg tg : Nat → Int32} {d' bd yr' lv' q' m' : Nat → Nat} (t5 : t < 5) (hg : t = 0 ↔ g = 0) (ha : t ≠ 0 → lv t = 1 ∧ s t < 3)
    (H : ∀ P : Int32 → Prop, P (nI t) → wpY_slotOf P (nI mc', nI md', st, rt, qc_cy L, lh, nI cl, nI lc, oo', oa', ob', oc, lg, hn, (fun zz => nI (d' zz)), (fun zz => nI (rs zz)), (fun zz => nI (bd zz)), (fun zz => nI (yr' zz)), (fun zz => nI (lv' zz)), rg, (fun zz => nI (q' zz)), (fun zz => nI (m' zz)), tg) g) :
    ∀ P : Int32 → Prop, P (nI (s t)) → wpY_coStatus P (nI mc', nI md', st, rt, qc_cy L, lh, nI cl, nI lc, oo', oa', ob', oc, lg, hn, (fun zz => nI (d' zz)), (fun zz => nI (rs zz)), (fun zz => nI (bd zz)), (fun zz => nI (yr' zz)), (fun zz => nI (lv' zz)), rg, (fun zz => nI (q' zz)), (fun zz => nI (m' zz)), tg) g := by
  intro P hP
  cases L with
  | nil =>
    by_cases z : g = 0
    · have t0 := hg.mpr z
      subst t0
      have s3 : s 0 = 3 := by
        rcases I.2.2.2.2 0 (by omega) with o | o
        · exact o.1
        · exact absurd rfl o.1
      rw [s3] at hP
      have hs : ¬ st = 1 := by
        rcases S with S | S | S
        · exact absurd rfl S.2.2
        · rw [S.1]; decide
        · rcases S.1 with e | e <;> rw [e] <;> decide
      exact br_t z (br_f hs hP)
    · have t0 : t ≠ 0 := fun y => z (hg.mp y)
      have s0 : s t = 0 := by
        rcases I.2.2.2.2 t t5 with o | o
        · have := (ha t0).2; omega
        · exact o.2.1
      rw [s0] at hP
      exact br_f z (H _ (br_t (nI_le (a := 1) (by omega) (by omega)) ⟨1, br_f (by decide) (br_t (by decide) hP)⟩))
  | cons c l =>
    have hs : st = 1 := by
      rcases S with S | S | S
      · exact S.1
      · exact absurd S.2.2 (by simp)
      · exact absurd S.2 (by simp)
    have c5 : c < 5 := I.2.2.1 c List.mem_cons_self
    by_cases z : g = 0
    · have t0 := hg.mpr z
      subst t0
      have h := qc_sin I (qc_Lk_0 l c I.1)
      refine br_t z (br_t hs ?_)
      by_cases e : c = 0
      · rw [h.1 e.symm] at hP
        exact br_t (by show nI c = 0; rw [e]; rfl) hP
      · rw [h.2 (fun w => e w.symm)] at hP
        exact br_f (fun w => e ((nI_eq (b := 0) (by omega) (by omega)).mp w)) hP
    · have t0 : t ≠ 0 := fun y => z (hg.mp y)
      refine br_f z (H _ (br_t (nI_le (a := 1) (by omega) (by omega)) ⟨l.length + 1, qc_ywk P t5 t0 l c 0 I.1 I.2.2.1 (by have := qc_len I.2.1 I.2.2.1; simp at this; omega) (fun e _ => ?_) (fun e w => ?_) (fun e => ?_)⟩))
      · rw [(qc_sin I (by rw [e]; exact List.mem_cons_self)).1 e] at hP
        exact hP
      · rw [(qc_sin I e).2 (fun y => w ⟨y, rfl⟩)] at hP
        exact hP
      · have s0 : s t = 0 := by
          rcases I.2.2.2.2.2.2 t t5 e with o | o
          · have := (ha t0).2; omega
          · exact o.2.1
        rw [s0] at hP
        exact hP
end
end
section
theorem qc_nb0 : vp_nar .boolean 0 = nI 0 := by first | rfl | decide
theorem qc_nb1 : vp_nar .boolean 1 = nI 1 := by first | rfl | decide
section
variable {mc md cl lc cu h B : Nat} {st rt lh rd re cy : Int32} {oo oa ob oc lg hn rg tg : Nat → Int32} {d s lv rs bd yr p q n m : Nat → Nat} {c r t x a b : Nat} {l L : List Nat}
theorem qc_K_c {lc' : Nat} {lv' : Nat → Nat} (K : qc_K mc md cl lc h B oo oa ob oc lv bd) (hl : lc' ≤ 64) (hv : lv' 0 = 0) : qc_K mc md cl lc' h B oo oa ob oc lv' bd :=
  ⟨K.1, K.2.1, K.2.2.1, hl, K.2.2.2.2.1, K.2.2.2.2.2.1, K.2.2.2.2.2.2.1, hv⟩
theorem qc_sr0 (P : SX → Prop) {j : Nat} (k : Nat) (hj : j ≤ 5) (hP : P (nI mc, nI md, nI cl, nI lc, st, rt, nI cu, lh, 0, re, oo, oa, ob, oc, lg, hn, (fun zz => nI (s zz)), (fun zz => nI (rs zz)), (fun zz => nI (bd zz)), (fun zz => nI (d zz)), (fun zz => nI (p zz)), (fun zz => nI (n zz)), rg, tg)) : wX_settleRaise_2 P (k + 1) (nI j) (nI mc) (nI md) (nI cl) (nI lc) st rt (nI cu) lh 0 re oo oa ob oc lg hn (fun zz => nI (s zz)) (fun zz => nI (rs zz)) (fun zz => nI (bd zz)) (fun zz => nI (d zz)) (fun zz => nI (p zz)) (fun zz => nI (n zz)) rg tg := by
  by_cases z : j = 5
  · exact br_t (nI_le (a := 5) (by omega) (by omega)) hP
  · exact br_f (nI_ge (b := 5) (by omega) (by decide)) (br_t rfl hP)
theorem qc_set {e : Int32} : ∀ (l : List Nat) (c i lc : Nat) (lg rg : Nat → Int32) (d s lv m : Nat → Nat), i + l.length ≤ 4 → qc_K mc md cl lc h B oo oa ob oc lv bd →
    qc_J mc md oo oa ob d s lv rs yr p q n m (c :: l) →
    ∃ (u' : SX) (v' : SY), qc_R B u' v' ∧ (∀ P : SX → Prop, P u' → wX_settleRaise_2 P (l.length + 2) (nI i) (nI mc) (nI md) (nI cl) (nI lc) 1 0 (nI c) (nI h) 1 e oo oa ob oc lg hn (fun zz => nI (s zz)) (fun zz => nI (rs zz)) (fun zz => nI (bd zz)) (fun zz => nI (d zz)) (fun zz => nI (p zz)) (fun zz => nI (n zz)) rg tg) ∧
      (∀ P : SY → Prop, P v' → wY_raise_2 P e (l.length + 1) (nI c) (nI i) (nI mc) (nI md) 1 0 (nI c) (nI h) (nI cl) (nI lc) oo oa ob oc lg hn (fun zz => nI (d zz)) (fun zz => nI (rs zz)) (fun zz => nI (bd zz)) (fun zz => nI (yr zz)) (fun zz => nI (lv zz)) rg (fun zz => nI (q zz)) (fun zz => nI (m zz)) tg) := by
  intro l
  induction l with
  | nil =>
    intro c i lc lg rg d s lv m hi K J
    have c0 : c = 0 := J.1
    subst c0
    have hi' : i ≤ 4 := by simpa using hi
    have hm : md ≤ 6 := K.2.1.2
    have hd : d 0 ≤ md := J.2.2.2.2.1.2.1
    have tw : qc_Tw n m 0 (d 0) := J.2.2.2.2.1.2.2.2.2
    have I' := qc_tr_raise0 hm J K.2.2.2.2.2.2.2
    have hl : lc ≤ 64 := K.2.2.2.1
    refine ⟨(nI mc, nI md, nI cl, nI ((qc_uw tg n 0 (d 0) (lg, lc)).2), 3, e, nI 0, nI h, 0, e, oo, oa, ob, oc, (qc_uw tg n 0 (d 0) (lg, lc)).1, hn, (fun zz => nI ((qc_u s 0 3) zz)), (fun zz => nI (rs zz)), (fun zz => nI (bd zz)), (fun zz => nI ((qc_u d 0 0) zz)), (fun zz => nI (p zz)), (fun zz => nI (n zz)), rg, tg), (nI mc, nI md, 3, e, (-1), nI h, nI cl, nI ((qc_uw tg n 0 (d 0) (lg, lc)).2), oo, oa, ob, oc, (qc_uw tg n 0 (d 0) (lg, lc)).1, hn, (fun zz => nI ((qc_u d 0 0) zz)), (fun zz => nI (rs zz)), (fun zz => nI (bd zz)), (fun zz => nI (yr zz)), (fun zz => nI (lv zz)), rg, (fun zz => nI (q zz)), (fun zz => nI ((qc_mz 0 (d 0) m) zz)), tg), ?_, fun P hP => ?_, fun P hP => ?_⟩
    · exact ⟨_, _, _, _, _, _, _, _, _, _, _, _, _, _, _, _, _, _, _, _, _, _, _, _, _, _, _, [], rfl, rfl, qc_K_c K (qc_uw_le _ _ hl) K.2.2.2.2.2.2.2, .inr (.inr ⟨.inr rfl, rfl⟩), ⟨fun c l z => (nomatch z), fun z => absurd z (by decide)⟩, I'⟩
    · refine br_f (nI_ge (b := 5) (by omega) (by decide)) (br_f (by decide) (qc_xunw (t := 0) _ (by omega) (by omega) (fun k hk => (tw k hk).2) hl ⟨vp_in_nI (n := 0) (by decide) (by decide), nm_r (qc_st (k := 0) (x := 3) rfl rfl (by omega)) (br_t rfl (nm_r ((qc_uI _ 0 3).trans (by rw [qc_uu])) (nm_r (nI_1 i) (qc_sr0 P 0 (by omega) hP))))⟩))
    · refine br_f (nI_ge (b := 6) (by omega) (by decide)) (qc_yunw (t := 0) _ (by omega) (by omega) (fun k hk => by rw [(tw k hk).1]; exact (tw k hk).2) hl (br_t rfl ?_))
      rw [qc_uw_c (n := n) (d 0) _ (fun k hk => (tw k hk).1)]
      exact hP
  | cons r l ih =>
    intro c i lc lg rg d s lv m hi K J
    have c0 : c ≠ 0 := J.1.1
    have hrs : rs c = r := J.1.2.1
    have hi' : i + 1 + l.length ≤ 4 := by simp at hi; omega
    have hm : md ≤ 6 := K.2.1.2
    have c5 : c < 5 := J.2.2.1 c List.mem_cons_self
    have r5 : r < 5 := J.2.2.1 r (List.mem_cons_of_mem _ List.mem_cons_self)
    have hd : d c ≤ md := J.2.2.2.2.1.2.1
    have tw : qc_Tw n m c (d c) := J.2.2.2.2.1.2.2.2.2
    have hN := J.2.2.2.2.2.1 r List.mem_cons_self
    have I' := qc_tr_raise hm J
    have hl : lc ≤ 64 := K.2.2.2.1
    have hc : c ∉ r :: l := (List.nodup_cons.mp J.2.1).1
    have hrc : r ≠ c := fun z => hc (by rw [z]; exact List.mem_cons_self)
    have er : qc_u d c 0 r = d r := qc_uo hrc
    have K' : qc_K mc md cl (qc_uw tg n c (d c) (lg, lc)).2 h B oo oa ob oc (qc_u lv c 0) bd := qc_K_c K (qc_uw_le _ _ hl) (by rw [qc_uo (by omega)]; exact K.2.2.2.2.2.2.2)
    obtain ⟨H1, H2, H3, H4, H5⟩ := I'.2.2.2.2.1
    have hx : qc_RA oa (p (r * 6 + qc_u d c 0 r - 1)) := by rw [er]; exact hN.2.2.2.2.2.1
    have ho : oo (p (r * 6 + qc_u d c 0 r - 1) - 1) = 13 ∨ oo (p (r * 6 + qc_u d c 0 r - 1) - 1) = 14 := by rw [er]; exact hN.2.2.2.2.2.2
    have hq : q (r * 6 + qc_u d c 0 r - 1) = p (r * 6 + qc_u d c 0 r - 1) := by
      have := (H5 (qc_u d c 0 r - 1) (by omega)).1
      have w : r * 6 + (qc_u d c 0 r - 1) = r * 6 + qc_u d c 0 r - 1 := by omega
      rw [w] at this
      exact this
    obtain ⟨x1, x64, a, a8, ha⟩ := hx
    have e1 : nI (r * 6 + qc_u d c 0 r - 1) * 8 + nI a = nI ((r * 6 + qc_u d c 0 r - 1) * 8 + a) := qc_fr8 rfl rfl
    have e2 : nI (r * 6 + qc_u d c 0 r - 1) * 8 + ((nI a + 1) &&& 7) = nI ((r * 6 + qc_u d c 0 r - 1) * 8 + (a + 1) % 8) := qc_fr8 rfl (qc_a17 a8)
    have e0 : nI r * 6 + (fun zz => nI (qc_u d c 0 zz)) (nI r).toNatClampNeg - 1 = nI (r * 6 + qc_u d c 0 r - 1) := by
      rw [qc_rd (qc_u d c 0) rfl (by omega), qc_tf (by omega)]
    have ec : ∀ f : Nat → Int32, f (nI c).toNatClampNeg = f c := fun f => qc_rr rfl (by omega)
    have yy : ∀ P : SY → Prop,
        ((oo (p (r * 6 + qc_u d c 0 r - 1) - 1) = 13 → P (nI mc, nI md, 1, 0, nI r, nI h, nI cl, nI ((qc_uw tg n c (d c) (lg, lc)).2), oo, oa, ob, oc, (qc_uw tg n c (d c) (lg, lc)).1, hn, (fun zz => nI ((qc_u d c 0) zz)), (fun zz => nI (rs zz)), (fun zz => nI (bd zz)), (fun zz => nI (yr zz)), (fun zz => nI ((qc_u lv c 0) zz)), (upd (upd rg ((r * 6 + qc_u d c 0 r - 1) * 8 + a) e) ((r * 6 + qc_u d c 0 r - 1) * 8 + (a + 1) % 8) 0), (fun zz => nI (q zz)), (fun zz => nI ((qc_mz c (d c) m) zz)), tg)) ∧
         (¬ oo (p (r * 6 + qc_u d c 0 r - 1) - 1) = 13 → wY_raise_2 P e (l.length + 1) (nI r) (nI (i + 1)) (nI mc) (nI md) 1 0 (nI r) (nI h) (nI cl) (nI ((qc_uw tg n c (d c) (lg, lc)).2)) oo oa ob oc ((qc_uw tg n c (d c) (lg, lc)).1) hn (fun zz => nI ((qc_u d c 0) zz)) (fun zz => nI (rs zz)) (fun zz => nI (bd zz)) (fun zz => nI (yr zz)) (fun zz => nI ((qc_u lv c 0) zz)) rg (fun zz => nI (q zz)) (fun zz => nI ((qc_mz c (d c) m) zz)) tg)) →
        wY_raise_2 P e (l.length + 1 + 1) (nI c) (nI i) (nI mc) (nI md) 1 0 (nI c) (nI h) (nI cl) (nI lc) oo oa ob oc lg hn (fun zz => nI (d zz)) (fun zz => nI (rs zz)) (fun zz => nI (bd zz)) (fun zz => nI (yr zz)) (fun zz => nI (lv zz)) rg (fun zz => nI (q zz)) (fun zz => nI (m zz)) tg := by
      intro P H
      refine br_f (nI_ge (b := 6) (by omega) (by decide)) (qc_yunw (t := c) _ (by omega) (by omega) (fun k hk => by rw [(tw k hk).1]; exact (tw k hk).2) hl (br_f (fun z => c0 ((nI_eq (b := 0) (by omega) (by omega)).mp z)) ⟨vp_in_nI c5 (by decide), nm_r ((qc_rd rs rfl (by omega)).trans (congrArg nI hrs)) ⟨vp_in_nI c5 (by decide), nm_r (qc_st rfl qc_nb0 (by omega)) ⟨vp_in_nI r5 (by decide), ?_⟩⟩⟩))
      rw [qc_uw_c (n := n) (d c) _ (fun k hk => (tw k hk).1)]
      refine br_t ?_ ⟨vp_in_nI r5 (by decide), nm_r e0 ⟨vp_in_nI (by omega) (by decide), nm_r (qc_de1 ((qc_rd q rfl (by omega)).trans (congrArg nI hq)) x1) (br_f (nI_pos (by omega)) (br_t (nI_lt (b := 64) (by omega) (by decide)) ⟨vp_in_nI (by omega) (by decide), nm_r (e' := nI a) ?_ ⟨vp_in_nI (by omega) (by decide), ?_⟩⟩))⟩⟩
      · rw [qc_rd (qc_u d c 0) rfl (by omega)]
        exact nI_lt (a := 0) (by omega) (by omega)
      · rw [nI_clamp (by omega), ha, qc_a7 a8]
      · rw [nI_clamp (by omega)]
        exact br_c (fun z => ⟨qc_vi e1 (by omega) (by decide), nm_r (qc_sr e1 (by omega) rfl) ⟨qc_vi e2 (by omega) (by decide), nm_r (qc_sr e2 (by omega) rfl) (H.1 z)⟩⟩) (fun z => nm_r (nI_1 i) (H.2 z))
    rcases ho with ho | ho
    · refine ⟨(nI mc, nI md, nI cl, nI ((qc_uw tg n c (d c) (lg, lc)).2), 1, 0, nI r, nI h, 0, e, oo, oa, ob, oc, (qc_uw tg n c (d c) (lg, lc)).1, hn, (fun zz => nI ((qc_u (qc_u s c 3) r 1) zz)), (fun zz => nI (rs zz)), (fun zz => nI (bd zz)), (fun zz => nI ((qc_u d c 0) zz)), (fun zz => nI (p zz)), (fun zz => nI (n zz)), (upd (upd rg ((r * 6 + qc_u d c 0 r - 1) * 8 + a) e) ((r * 6 + qc_u d c 0 r - 1) * 8 + (a + 1) % 8) 0), tg), (nI mc, nI md, 1, 0, nI r, nI h, nI cl, nI ((qc_uw tg n c (d c) (lg, lc)).2), oo, oa, ob, oc, (qc_uw tg n c (d c) (lg, lc)).1, hn, (fun zz => nI ((qc_u d c 0) zz)), (fun zz => nI (rs zz)), (fun zz => nI (bd zz)), (fun zz => nI (yr zz)), (fun zz => nI ((qc_u lv c 0) zz)), (upd (upd rg ((r * 6 + qc_u d c 0 r - 1) * 8 + a) e) ((r * 6 + qc_u d c 0 r - 1) * 8 + (a + 1) % 8) 0), (fun zz => nI (q zz)), (fun zz => nI ((qc_mz c (d c) m) zz)), tg), ?_, fun P hP => ?_, fun P hP => ?_⟩
      · exact ⟨_, _, _, _, _, _, _, _, _, _, _, _, _, _, _, _, _, _, _, _, _, _, _, _, _, _, _, r :: l, rfl, rfl, K', .inl ⟨rfl, rfl, by simp⟩, ⟨fun c l z => (by cases z; rfl), fun z => absurd z (by decide)⟩, I'⟩
      · refine br_f (nI_ge (b := 5) (by omega) (by decide)) (br_f (by decide) (qc_xunw (t := c) _ c5 (by omega) (fun k hk => (tw k hk).2) hl ⟨vp_in_nI c5 (by decide), nm_r (qc_st (x := 3) rfl rfl (by omega)) (br_f (fun z => c0 ((nI_eq (b := 0) (by omega) (by omega)).mp z)) ⟨vp_in_nI c5 (by decide), ?_⟩)⟩))
        rw [qc_rd rs rfl (by omega), hrs]
        exact qc_xc13 _ r5 H1 (by omega) rfl x1 x64 ha a8 ho _ _ 0 (fun _ => rfl) (fun z => absurd rfl z) (nm_r (nI_1 i) (qc_sr0 P _ (by omega) hP))
      · exact yy P ⟨fun _ => hP, fun z => absurd ho z⟩
    · obtain ⟨u', v', hR, hX, hY⟩ := ih r (i + 1) _ (qc_uw tg n c (d c) (lg, lc)).1 rg _ _ _ _ hi' K' (qc_J_of I')
      refine ⟨u', v', hR, fun P hP => ?_, fun P hP => ?_⟩
      · refine br_f (nI_ge (b := 5) (by omega) (by decide)) (br_f (by decide) (qc_xunw (t := c) _ c5 (by omega) (fun k hk => (tw k hk).2) hl ⟨vp_in_nI c5 (by decide), nm_r (qc_st (x := 3) rfl rfl (by omega)) (br_f (fun z => c0 ((nI_eq (b := 0) (by omega) (by omega)).mp z)) ⟨vp_in_nI c5 (by decide), ?_⟩)⟩))
        rw [qc_rd rs rfl (by omega), hrs]
        exact qc_xcr _ r5 H1 (by omega) rfl x1 x64 ho _ (nm_r (nI_1 i) (hX P hP))
      · exact yy P ⟨fun z => absurd (ho.symm.trans z) (by decide), fun _ => hY P hP⟩
theorem qc_settle {u : SX} {v : SY} {c : Nat} {e : Int32} (Q : qc_Q B u v c e) :
    ∃ (u' : SX) (v' : SY), qc_R B u' v' ∧ (∀ P : SX → Prop, P u' → wpX_settleRaise P u) ∧ (∀ P : SY → Prop, P v' → wpY_raise P v (nI c) e) := by
  obtain ⟨mc, md, cl, lc, h, oo, oa, ob, oc, lg, hn, rg, tg, d, s, lv, rs, bd, yr, p, q, n, m, l, rfl, rfl, K, J⟩ := Q
  have := qc_len J.2.1 J.2.2.1
  obtain ⟨u', v', hR, hX, hY⟩ := qc_set l c 0 lc lg rg d s lv m (by simp at this; omega) K J
  exact ⟨u', v', hR, fun P hP => ⟨_, hX P hP⟩, fun P hP => ⟨_, hY P hP⟩⟩
end
end
section
def qc_Out (B : Nat) (u : SX) (v : SY) : Prop :=
  (∃ (u' : SX) (v' : SY), qc_R (B + 1) u' v' ∧ (∀ P : SX → Prop, P u' → wpX_step P u) ∧ (∀ P : SY → Prop, P v' → wpY_step P v)) ∨
  (∃ (u' : SX) (v' : SY) (c : Nat) (e : Int32), qc_Q (B + 1) u' v' c e ∧ (∀ P : SX → Prop, P u' → wpX_step P u) ∧
    (∀ w : SY, (∀ Q : SY → Prop, Q w → wpY_raise Q v' (nI c) e) → ∀ P : SY → Prop, P w → wpY_step P v))
section
variable {mc md cl lc cu h B : Nat} {st rt lh rd re cy : Int32} {oo oa ob oc lg hn rg tg : Nat → Int32} {d s lv rs bd yr p q n m : Nat → Nat} {c r t x a b : Nat} {l L : List Nat}
theorem qc_qtop {dt : Nat} (h1 : 0 < dt) (h : qc_Th oa p q n m t dt) : q (t * 6 + dt - 1) = p (t * 6 + dt - 1) ∧ m (t * 6 + dt - 1) = n (t * 6 + dt - 1) ∧ n (t * 6 + dt - 1) ≤ 4 := by
  have e : t * 6 + (dt - 1) = t * 6 + dt - 1 := by omega
  have := h (dt - 1) (by omega)
  rw [e] at this
  exact ⟨this.1, this.2.2.1, this.2.2.2.1⟩
theorem qc_Rmk (K : qc_K mc md cl lc h B oo oa ob oc lv bd) (I : qc_I mc md oo oa ob d s lv rs yr p q n m (c :: l)) :
    qc_R B (nI mc, nI md, nI cl, nI lc, 1, 0, nI c, nI h, 0, re, oo, oa, ob, oc, lg, hn, (fun zz => nI (s zz)), (fun zz => nI (rs zz)), (fun zz => nI (bd zz)), (fun zz => nI (d zz)), (fun zz => nI (p zz)), (fun zz => nI (n zz)), rg, tg) (nI mc, nI md, 1, 0, nI c, nI h, nI cl, nI lc, oo, oa, ob, oc, lg, hn, (fun zz => nI (d zz)), (fun zz => nI (rs zz)), (fun zz => nI (bd zz)), (fun zz => nI (yr zz)), (fun zz => nI (lv zz)), rg, (fun zz => nI (q zz)), (fun zz => nI (m zz)), tg) :=
  ⟨_, _, _, _, _, _, _, _, _, _, _, _, _, _, _, _, _, _, _, _, _, _, _, _, _, _, _, c :: l, rfl, rfl, K, .inl ⟨rfl, rfl, by simp⟩, ⟨fun c l z => (by cases z; rfl), fun z => absurd z (by decide)⟩, I⟩
theorem qc_Qmk {e : Int32} (K : qc_K mc md cl lc h B oo oa ob oc lv bd) (J : qc_J mc md oo oa ob d s lv rs yr p q n m (c :: l)) :
    qc_Q B (nI mc, nI md, nI cl, nI lc, 1, 0, nI c, nI h, 1, e, oo, oa, ob, oc, lg, hn, (fun zz => nI (s zz)), (fun zz => nI (rs zz)), (fun zz => nI (bd zz)), (fun zz => nI (d zz)), (fun zz => nI (p zz)), (fun zz => nI (n zz)), rg, tg) (nI mc, nI md, 1, 0, nI c, nI h, nI cl, nI lc, oo, oa, ob, oc, lg, hn, (fun zz => nI (d zz)), (fun zz => nI (rs zz)), (fun zz => nI (bd zz)), (fun zz => nI (yr zz)), (fun zz => nI (lv zz)), rg, (fun zz => nI (q zz)), (fun zz => nI (m zz)), tg) c e :=
  ⟨_, _, _, _, _, _, _, _, _, _, _, _, _, _, _, _, _, _, _, _, _, _, _, l, rfl, rfl, K, J⟩
theorem qc_K_up (K : qc_K mc md cl lc h B oo oa ob oc lv bd) : qc_K mc md cl lc h (B + 1) oo oa ob oc lv bd :=
  ⟨K.1, K.2.1, K.2.2.1, K.2.2.2.1, by have := K.2.2.2.2.1; omega, K.2.2.2.2.2.1, K.2.2.2.2.2.2.1, K.2.2.2.2.2.2.2⟩
theorem qc_bad (K : qc_K mc md cl lc h B oo oa ob oc lv bd) (I : qc_I mc md oo oa ob d s lv rs yr p q n m (c :: l)) (hp : p (c * 6 + d c - 1) = x) (hx : cl ≤ x) : qc_Out B (nI mc, nI md, nI cl, nI lc, 1, 0, nI c, nI h, 0, re, oo, oa, ob, oc, lg, hn, (fun zz => nI (s zz)), (fun zz => nI (rs zz)), (fun zz => nI (bd zz)), (fun zz => nI (d zz)), (fun zz => nI (p zz)), (fun zz => nI (n zz)), rg, tg) (nI mc, nI md, 1, 0, nI c, nI h, nI cl, nI lc, oo, oa, ob, oc, lg, hn, (fun zz => nI (d zz)), (fun zz => nI (rs zz)), (fun zz => nI (bd zz)), (fun zz => nI (yr zz)), (fun zz => nI (lv zz)), rg, (fun zz => nI (q zz)), (fun zz => nI (m zz)), tg) := by
  have c5 : c < 5 := I.2.2.1 c List.mem_cons_self
  obtain ⟨h1, hdm, hs1, hlv, hth⟩ := I.2.2.2.2.1
  have hm : md ≤ 6 := K.2.1.2
  have h6 : d c ≤ 6 := by omega
  have h64 : cl ≤ 64 := K.2.2.1
  have hl : lc ≤ 64 := K.2.2.2.1
  have hq : q (c * 6 + d c - 1) = x := (qc_qtop h1 hth).1.trans hp
  have hf : (c * 6 + d c - 1) < 30 := by omega
  have x64 : x ≤ 64 := by
    have e : c * 6 + (d c - 1) = (c * 6 + d c - 1) := by omega
    have := (hth (d c - 1) (by omega)).2.1
    rw [e, hp] at this
    exact this
  refine .inr ⟨(nI mc, nI md, nI cl, nI lc, 1, 0, nI c, nI h, 1, (-7), oo, oa, ob, oc, lg, hn, (fun zz => nI (s zz)), (fun zz => nI (rs zz)), (fun zz => nI (bd zz)), (fun zz => nI (d zz)), (fun zz => nI (p zz)), (fun zz => nI (n zz)), rg, tg), (nI mc, nI md, 1, 0, nI c, nI h, nI cl, nI lc, oo, oa, ob, oc, lg, hn, (fun zz => nI (d zz)), (fun zz => nI (rs zz)), (fun zz => nI (bd zz)), (fun zz => nI (yr zz)), (fun zz => nI (lv zz)), rg, (fun zz => nI (q zz)), (fun zz => nI (m zz)), tg), c, -7, qc_Qmk (qc_K_up K) (qc_J_of I), fun P hP => ?_, fun w hw P hP => ?_⟩
  · unfold wpX_step
    refine qc_xtf _ c5 h1 ?_
    exact ⟨vp_in_nI (by omega) (by decide), nm_r ((qc_rd p rfl (by omega)).trans (congrArg nI hp)) (br_f (nI_nlt hx (by omega)) hP)⟩
  · refine br_f (nI_pos (by omega)) (br_f (nI_nlt (a := 4) (by omega) (by decide)) ⟨vp_in_nI (by omega) (by decide), br_t (by rw [qc_rd d rfl (by omega)]; exact nI_le (a := 1) h1 (by omega)) ⟨vp_in_nI (by omega) (by decide), nm_r ((congrArg (fun z => nI c * 6 + z - 1) (qc_rd d rfl (by omega))).trans (qc_tf h1)) ⟨vp_in_nI (by omega) (by decide), nm_r ((qc_rd q rfl (by omega)).trans (congrArg nI hq)) (br_f (nI_pos (by omega)) (br_f (nI_nlt hx (by omega)) ?_))⟩⟩⟩)
    exact hw _ hP
theorem qc_o0 (K : qc_K mc md cl lc h B oo oa ob oc lv bd) (I : qc_I mc md oo oa ob d s lv rs yr p q n m (c :: l)) (hp : p (c * 6 + d c - 1) = x) (hx : x < cl) (ho : oo x = 0) (ha : oa x = nI a) (a8 : a < 8) : qc_Out B (nI mc, nI md, nI cl, nI lc, 1, 0, nI c, nI h, 0, re, oo, oa, ob, oc, lg, hn, (fun zz => nI (s zz)), (fun zz => nI (rs zz)), (fun zz => nI (bd zz)), (fun zz => nI (d zz)), (fun zz => nI (p zz)), (fun zz => nI (n zz)), rg, tg) (nI mc, nI md, 1, 0, nI c, nI h, nI cl, nI lc, oo, oa, ob, oc, lg, hn, (fun zz => nI (d zz)), (fun zz => nI (rs zz)), (fun zz => nI (bd zz)), (fun zz => nI (yr zz)), (fun zz => nI (lv zz)), rg, (fun zz => nI (q zz)), (fun zz => nI (m zz)), tg) := by
  have c5 : c < 5 := I.2.2.1 c List.mem_cons_self
  obtain ⟨h1, hdm, hs1, hlv, hth⟩ := I.2.2.2.2.1
  have hm : md ≤ 6 := K.2.1.2
  have h6 : d c ≤ 6 := by omega
  have h64 : cl ≤ 64 := K.2.2.1
  have hl : lc ≤ 64 := K.2.2.2.1
  have hq : q (c * 6 + d c - 1) = x := (qc_qtop h1 hth).1.trans hp
  have hf : (c * 6 + d c - 1) < 30 := by omega
  have eA : nI ((c * 6 + d c - 1) * 8) + nI a = nI ((c * 6 + d c - 1) * 8 + a) := nI_add _ _
  refine .inl ⟨(nI mc, nI md, nI cl, nI lc, 1, 0, nI c, nI h, 0, re, oo, oa, ob, oc, lg, hn, (fun zz => nI (s zz)), (fun zz => nI (rs zz)), (fun zz => nI (bd zz)), (fun zz => nI (d zz)), (fun zz => nI ((qc_u p (c * 6 + d c - 1) (x + 1)) zz)), (fun zz => nI (n zz)), (upd rg ((c * 6 + d c - 1) * 8 + a) (ob x)), tg), (nI mc, nI md, 1, 0, nI c, nI h, nI cl, nI lc, oo, oa, ob, oc, lg, hn, (fun zz => nI (d zz)), (fun zz => nI (rs zz)), (fun zz => nI (bd zz)), (fun zz => nI (yr zz)), (fun zz => nI (lv zz)), (upd rg ((c * 6 + d c - 1) * 8 + a) (ob x)), (fun zz => nI ((qc_u q (c * 6 + d c - 1) (x + 1)) zz)), (fun zz => nI (m zz)), tg), qc_Rmk (qc_K_up K) (qc_tr_pc hm I (by omega)), fun P hP => ?_, fun P hP => ?_⟩
  · unfold wpX_step; refine qc_xtf _ c5 h1 ?_; refine ⟨vp_in_nI (by omega) (by decide), nm_r ((qc_rd p rfl (by omega)).trans (congrArg nI hp)) (br_t (nI_lt hx (by omega)) (nm_r (qc_m8 _) ⟨vp_in_nI (by omega) (by decide), nm_r ((qc_rr rfl (by omega)).trans ha) ⟨vp_in_nI (by omega) (by decide), nm_r ((qc_rr rfl (by omega))) ⟨vp_in_nI (by omega) (by decide), nm_r ((qc_rr rfl (by omega))) ⟨vp_in_nI (by omega) (by decide), nm_r (qc_st rfl (nI_1 x) (by omega)) ⟨vp_in_nI (by omega) (by decide), nm_r ((qc_rr rfl (by omega)).trans ho) (br_f (by decide) (br_f (by decide) (br_t rfl ?_)))⟩⟩⟩⟩⟩))⟩
    exact ⟨qc_vi eA (by omega) (by decide), nm_r (qc_sr eA (by omega) rfl) hP⟩
  · refine br_f (nI_pos (by omega)) (br_f (nI_nlt (a := 4) (by omega) (by decide)) ⟨vp_in_nI (by omega) (by decide), br_t (by rw [qc_rd d rfl (by omega)]; exact nI_le (a := 1) h1 (by omega)) ⟨vp_in_nI (by omega) (by decide), nm_r ((congrArg (fun z => nI c * 6 + z - 1) (qc_rd d rfl (by omega))).trans (qc_tf h1)) ⟨vp_in_nI (by omega) (by decide), nm_r ((qc_rd q rfl (by omega)).trans (congrArg nI hq)) (br_f (nI_pos (by omega)) (br_t (nI_lt hx (by omega)) ⟨vp_in_nI (by omega) (by decide), nm_r ((qc_rr rfl (by omega)).trans ho) ⟨vp_in_nI (by omega) (by decide), nm_r (congrArg (· &&& 7) ((qc_rr rfl (by omega)).trans ha) |>.trans (qc_a7 a8)) ⟨vp_in_nI (by omega) (by decide), nm_r ((qc_rr rfl (by omega))) (nm_e ⟨vp_in_nI (by omega) (by decide), nm_e (nm_r (qc_m8 _) (br_t rfl ?_))⟩)⟩⟩⟩))⟩⟩⟩)
    exact ⟨qc_vi eA (by omega) (by decide), nm_r (qc_sr eA (by omega) rfl) ⟨vp_in_nI (by omega) (by decide), nm_r (qc_st rfl (nI_1 x) (by omega)) hP⟩⟩
theorem qc_o1 (K : qc_K mc md cl lc h B oo oa ob oc lv bd) (I : qc_I mc md oo oa ob d s lv rs yr p q n m (c :: l)) (hp : p (c * 6 + d c - 1) = x) (hx : x < cl) (ho : oo x = 1) (ha : oa x = nI a) (a8 : a < 8) (hb : ob x = nI b) (b8 : b < 8) : qc_Out B (nI mc, nI md, nI cl, nI lc, 1, 0, nI c, nI h, 0, re, oo, oa, ob, oc, lg, hn, (fun zz => nI (s zz)), (fun zz => nI (rs zz)), (fun zz => nI (bd zz)), (fun zz => nI (d zz)), (fun zz => nI (p zz)), (fun zz => nI (n zz)), rg, tg) (nI mc, nI md, 1, 0, nI c, nI h, nI cl, nI lc, oo, oa, ob, oc, lg, hn, (fun zz => nI (d zz)), (fun zz => nI (rs zz)), (fun zz => nI (bd zz)), (fun zz => nI (yr zz)), (fun zz => nI (lv zz)), rg, (fun zz => nI (q zz)), (fun zz => nI (m zz)), tg) := by
  have c5 : c < 5 := I.2.2.1 c List.mem_cons_self
  obtain ⟨h1, hdm, hs1, hlv, hth⟩ := I.2.2.2.2.1
  have hm : md ≤ 6 := K.2.1.2
  have h6 : d c ≤ 6 := by omega
  have h64 : cl ≤ 64 := K.2.2.1
  have hl : lc ≤ 64 := K.2.2.2.1
  have hq : q (c * 6 + d c - 1) = x := (qc_qtop h1 hth).1.trans hp
  have hf : (c * 6 + d c - 1) < 30 := by omega
  have eA : nI ((c * 6 + d c - 1) * 8) + nI a = nI ((c * 6 + d c - 1) * 8 + a) := nI_add _ _
  have eB : nI ((c * 6 + d c - 1) * 8) + nI b = nI ((c * 6 + d c - 1) * 8 + b) := nI_add _ _
  refine .inl ⟨(nI mc, nI md, nI cl, nI lc, 1, 0, nI c, nI h, 0, re, oo, oa, ob, oc, lg, hn, (fun zz => nI (s zz)), (fun zz => nI (rs zz)), (fun zz => nI (bd zz)), (fun zz => nI (d zz)), (fun zz => nI ((qc_u p (c * 6 + d c - 1) (x + 1)) zz)), (fun zz => nI (n zz)), (upd rg ((c * 6 + d c - 1) * 8 + a) (rg ((c * 6 + d c - 1) * 8 + b))), tg), (nI mc, nI md, 1, 0, nI c, nI h, nI cl, nI lc, oo, oa, ob, oc, lg, hn, (fun zz => nI (d zz)), (fun zz => nI (rs zz)), (fun zz => nI (bd zz)), (fun zz => nI (yr zz)), (fun zz => nI (lv zz)), (upd rg ((c * 6 + d c - 1) * 8 + a) (rg ((c * 6 + d c - 1) * 8 + b))), (fun zz => nI ((qc_u q (c * 6 + d c - 1) (x + 1)) zz)), (fun zz => nI (m zz)), tg), qc_Rmk (qc_K_up K) (qc_tr_pc hm I (by omega)), fun P hP => ?_, fun P hP => ?_⟩
  · unfold wpX_step; refine qc_xtf _ c5 h1 ?_; refine ⟨vp_in_nI (by omega) (by decide), nm_r ((qc_rd p rfl (by omega)).trans (congrArg nI hp)) (br_t (nI_lt hx (by omega)) (nm_r (qc_m8 _) ⟨vp_in_nI (by omega) (by decide), nm_r ((qc_rr rfl (by omega)).trans ha) ⟨vp_in_nI (by omega) (by decide), nm_r ((qc_rr rfl (by omega)).trans hb) ⟨vp_in_nI (by omega) (by decide), nm_r ((qc_rr rfl (by omega))) ⟨vp_in_nI (by omega) (by decide), nm_r (qc_st rfl (nI_1 x) (by omega)) ⟨vp_in_nI (by omega) (by decide), nm_r ((qc_rr rfl (by omega)).trans ho) (br_f (by decide) (br_f (by decide) (br_f (by decide) (br_t rfl ?_))))⟩⟩⟩⟩⟩))⟩
    exact ⟨qc_vi eB (by omega) (by decide), qc_vi eA (by omega) (by decide), nm_r (qc_sr eA (by omega) (qc_rr eB (by omega))) hP⟩
  · refine br_f (nI_pos (by omega)) (br_f (nI_nlt (a := 4) (by omega) (by decide)) ⟨vp_in_nI (by omega) (by decide), br_t (by rw [qc_rd d rfl (by omega)]; exact nI_le (a := 1) h1 (by omega)) ⟨vp_in_nI (by omega) (by decide), nm_r ((congrArg (fun z => nI c * 6 + z - 1) (qc_rd d rfl (by omega))).trans (qc_tf h1)) ⟨vp_in_nI (by omega) (by decide), nm_r ((qc_rd q rfl (by omega)).trans (congrArg nI hq)) (br_f (nI_pos (by omega)) (br_t (nI_lt hx (by omega)) ⟨vp_in_nI (by omega) (by decide), nm_r ((qc_rr rfl (by omega)).trans ho) ⟨vp_in_nI (by omega) (by decide), nm_r (congrArg (· &&& 7) ((qc_rr rfl (by omega)).trans ha) |>.trans (qc_a7 a8)) ⟨vp_in_nI (by omega) (by decide), nm_r ((qc_rr rfl (by omega)).trans hb) (nm_r (qc_a7 b8) ⟨vp_in_nI (by omega) (by decide), nm_e (nm_r (qc_m8 _) (br_f (by decide) (br_t rfl ?_)))⟩)⟩⟩⟩))⟩⟩⟩)
    exact ⟨qc_vi eB (by omega) (by decide), qc_vi eA (by omega) (by decide), nm_r (qc_sr eA (by omega) (qc_rr eB (by omega))) ⟨vp_in_nI (by omega) (by decide), nm_r (qc_st rfl (nI_1 x) (by omega)) hP⟩⟩
theorem qc_o2 (K : qc_K mc md cl lc h B oo oa ob oc lv bd) (I : qc_I mc md oo oa ob d s lv rs yr p q n m (c :: l)) (hp : p (c * 6 + d c - 1) = x) (hx : x < cl) (ho : oo x = 2) (ha : oa x = nI a) (a8 : a < 8) (hb : ob x = nI b) (b8 : b < 8) {g : Nat} (hc : oc x = nI g) (g8 : g < 8) : qc_Out B (nI mc, nI md, nI cl, nI lc, 1, 0, nI c, nI h, 0, re, oo, oa, ob, oc, lg, hn, (fun zz => nI (s zz)), (fun zz => nI (rs zz)), (fun zz => nI (bd zz)), (fun zz => nI (d zz)), (fun zz => nI (p zz)), (fun zz => nI (n zz)), rg, tg) (nI mc, nI md, 1, 0, nI c, nI h, nI cl, nI lc, oo, oa, ob, oc, lg, hn, (fun zz => nI (d zz)), (fun zz => nI (rs zz)), (fun zz => nI (bd zz)), (fun zz => nI (yr zz)), (fun zz => nI (lv zz)), rg, (fun zz => nI (q zz)), (fun zz => nI (m zz)), tg) := by
  have c5 : c < 5 := I.2.2.1 c List.mem_cons_self
  obtain ⟨h1, hdm, hs1, hlv, hth⟩ := I.2.2.2.2.1
  have hm : md ≤ 6 := K.2.1.2
  have h6 : d c ≤ 6 := by omega
  have h64 : cl ≤ 64 := K.2.2.1
  have hl : lc ≤ 64 := K.2.2.2.1
  have hq : q (c * 6 + d c - 1) = x := (qc_qtop h1 hth).1.trans hp
  have hf : (c * 6 + d c - 1) < 30 := by omega
  have eA : nI ((c * 6 + d c - 1) * 8) + nI a = nI ((c * 6 + d c - 1) * 8 + a) := nI_add _ _
  have eB : nI ((c * 6 + d c - 1) * 8) + nI b = nI ((c * 6 + d c - 1) * 8 + b) := nI_add _ _
  have eC : nI ((c * 6 + d c - 1) * 8) + nI g = nI ((c * 6 + d c - 1) * 8 + g) := nI_add _ _
  have eV : rg (nI ((c * 6 + d c - 1) * 8) + nI b).toNatClampNeg + rg (nI ((c * 6 + d c - 1) * 8) + nI g).toNatClampNeg = rg ((c * 6 + d c - 1) * 8 + b) + rg ((c * 6 + d c - 1) * 8 + g) := by
    rw [qc_rr (f := rg) eB (by omega), qc_rr (f := rg) eC (by omega)]
  refine .inl ⟨(nI mc, nI md, nI cl, nI lc, 1, 0, nI c, nI h, 0, re, oo, oa, ob, oc, lg, hn, (fun zz => nI (s zz)), (fun zz => nI (rs zz)), (fun zz => nI (bd zz)), (fun zz => nI (d zz)), (fun zz => nI ((qc_u p (c * 6 + d c - 1) (x + 1)) zz)), (fun zz => nI (n zz)), (upd rg ((c * 6 + d c - 1) * 8 + a) (rg ((c * 6 + d c - 1) * 8 + b) + rg ((c * 6 + d c - 1) * 8 + g))), tg), (nI mc, nI md, 1, 0, nI c, nI h, nI cl, nI lc, oo, oa, ob, oc, lg, hn, (fun zz => nI (d zz)), (fun zz => nI (rs zz)), (fun zz => nI (bd zz)), (fun zz => nI (yr zz)), (fun zz => nI (lv zz)), (upd rg ((c * 6 + d c - 1) * 8 + a) (rg ((c * 6 + d c - 1) * 8 + b) + rg ((c * 6 + d c - 1) * 8 + g))), (fun zz => nI ((qc_u q (c * 6 + d c - 1) (x + 1)) zz)), (fun zz => nI (m zz)), tg), qc_Rmk (qc_K_up K) (qc_tr_pc hm I (by omega)), fun P hP => ?_, fun P hP => ?_⟩
  · unfold wpX_step; refine qc_xtf _ c5 h1 ?_; refine ⟨vp_in_nI (by omega) (by decide), nm_r ((qc_rd p rfl (by omega)).trans (congrArg nI hp)) (br_t (nI_lt hx (by omega)) (nm_r (qc_m8 _) ⟨vp_in_nI (by omega) (by decide), nm_r ((qc_rr rfl (by omega)).trans ha) ⟨vp_in_nI (by omega) (by decide), nm_r ((qc_rr rfl (by omega)).trans hb) ⟨vp_in_nI (by omega) (by decide), nm_r ((qc_rr rfl (by omega)).trans hc) ⟨vp_in_nI (by omega) (by decide), nm_r (qc_st rfl (nI_1 x) (by omega)) ⟨vp_in_nI (by omega) (by decide), nm_r ((qc_rr rfl (by omega)).trans ho) (br_f (by decide) (br_f (by decide) (br_f (by decide) (br_f (by decide) (br_t rfl ?_)))))⟩⟩⟩⟩⟩))⟩
    exact ⟨qc_vi eB (by omega) (by decide), qc_vi eC (by omega) (by decide), qc_vi eA (by omega) (by decide), nm_r (qc_sr eA (by omega) eV) hP⟩
  · refine br_f (nI_pos (by omega)) (br_f (nI_nlt (a := 4) (by omega) (by decide)) ⟨vp_in_nI (by omega) (by decide), br_t (by rw [qc_rd d rfl (by omega)]; exact nI_le (a := 1) h1 (by omega)) ⟨vp_in_nI (by omega) (by decide), nm_r ((congrArg (fun z => nI c * 6 + z - 1) (qc_rd d rfl (by omega))).trans (qc_tf h1)) ⟨vp_in_nI (by omega) (by decide), nm_r ((qc_rd q rfl (by omega)).trans (congrArg nI hq)) (br_f (nI_pos (by omega)) (br_t (nI_lt hx (by omega)) ⟨vp_in_nI (by omega) (by decide), nm_r ((qc_rr rfl (by omega)).trans ho) ⟨vp_in_nI (by omega) (by decide), nm_r (congrArg (· &&& 7) ((qc_rr rfl (by omega)).trans ha) |>.trans (qc_a7 a8)) ⟨vp_in_nI (by omega) (by decide), nm_r ((qc_rr rfl (by omega)).trans hb) (nm_r (qc_a7 b8) ⟨vp_in_nI (by omega) (by decide), nm_r (congrArg (· &&& 7) ((qc_rr rfl (by omega)).trans hc) |>.trans (qc_a7 g8)) (nm_r (qc_m8 _) (br_f (by decide) (br_f (by decide) (br_t rfl ?_))))⟩)⟩⟩⟩))⟩⟩⟩)
    exact ⟨qc_vi eB (by omega) (by decide), qc_vi eC (by omega) (by decide), qc_vi eA (by omega) (by decide), nm_r (qc_sr eA (by omega) eV) ⟨vp_in_nI (by omega) (by decide), nm_r (qc_st rfl (nI_1 x) (by omega)) hP⟩⟩
theorem qc_o3 (K : qc_K mc md cl lc h B oo oa ob oc lv bd) (I : qc_I mc md oo oa ob d s lv rs yr p q n m (c :: l)) (hp : p (c * 6 + d c - 1) = x) (hx : x < cl) (ho : oo x = 3) (ha : oa x = nI a) (a8 : a < 8) (hb : ob x = nI b) (b8 : b < 8) {g : Nat} (hc : oc x = nI g) (g8 : g < 8) : qc_Out B (nI mc, nI md, nI cl, nI lc, 1, 0, nI c, nI h, 0, re, oo, oa, ob, oc, lg, hn, (fun zz => nI (s zz)), (fun zz => nI (rs zz)), (fun zz => nI (bd zz)), (fun zz => nI (d zz)), (fun zz => nI (p zz)), (fun zz => nI (n zz)), rg, tg) (nI mc, nI md, 1, 0, nI c, nI h, nI cl, nI lc, oo, oa, ob, oc, lg, hn, (fun zz => nI (d zz)), (fun zz => nI (rs zz)), (fun zz => nI (bd zz)), (fun zz => nI (yr zz)), (fun zz => nI (lv zz)), rg, (fun zz => nI (q zz)), (fun zz => nI (m zz)), tg) := by
  have c5 : c < 5 := I.2.2.1 c List.mem_cons_self
  obtain ⟨h1, hdm, hs1, hlv, hth⟩ := I.2.2.2.2.1
  have hm : md ≤ 6 := K.2.1.2
  have h6 : d c ≤ 6 := by omega
  have h64 : cl ≤ 64 := K.2.2.1
  have hl : lc ≤ 64 := K.2.2.2.1
  have hq : q (c * 6 + d c - 1) = x := (qc_qtop h1 hth).1.trans hp
  have hf : (c * 6 + d c - 1) < 30 := by omega
  have eA : nI ((c * 6 + d c - 1) * 8) + nI a = nI ((c * 6 + d c - 1) * 8 + a) := nI_add _ _
  have eB : nI ((c * 6 + d c - 1) * 8) + nI b = nI ((c * 6 + d c - 1) * 8 + b) := nI_add _ _
  have eC : nI ((c * 6 + d c - 1) * 8) + nI g = nI ((c * 6 + d c - 1) * 8 + g) := nI_add _ _
  have eV : rg (nI ((c * 6 + d c - 1) * 8) + nI b).toNatClampNeg - rg (nI ((c * 6 + d c - 1) * 8) + nI g).toNatClampNeg = rg ((c * 6 + d c - 1) * 8 + b) - rg ((c * 6 + d c - 1) * 8 + g) := by
    rw [qc_rr (f := rg) eB (by omega), qc_rr (f := rg) eC (by omega)]
  refine .inl ⟨(nI mc, nI md, nI cl, nI lc, 1, 0, nI c, nI h, 0, re, oo, oa, ob, oc, lg, hn, (fun zz => nI (s zz)), (fun zz => nI (rs zz)), (fun zz => nI (bd zz)), (fun zz => nI (d zz)), (fun zz => nI ((qc_u p (c * 6 + d c - 1) (x + 1)) zz)), (fun zz => nI (n zz)), (upd rg ((c * 6 + d c - 1) * 8 + a) (rg ((c * 6 + d c - 1) * 8 + b) - rg ((c * 6 + d c - 1) * 8 + g))), tg), (nI mc, nI md, 1, 0, nI c, nI h, nI cl, nI lc, oo, oa, ob, oc, lg, hn, (fun zz => nI (d zz)), (fun zz => nI (rs zz)), (fun zz => nI (bd zz)), (fun zz => nI (yr zz)), (fun zz => nI (lv zz)), (upd rg ((c * 6 + d c - 1) * 8 + a) (rg ((c * 6 + d c - 1) * 8 + b) - rg ((c * 6 + d c - 1) * 8 + g))), (fun zz => nI ((qc_u q (c * 6 + d c - 1) (x + 1)) zz)), (fun zz => nI (m zz)), tg), qc_Rmk (qc_K_up K) (qc_tr_pc hm I (by omega)), fun P hP => ?_, fun P hP => ?_⟩
  · unfold wpX_step; refine qc_xtf _ c5 h1 ?_; refine ⟨vp_in_nI (by omega) (by decide), nm_r ((qc_rd p rfl (by omega)).trans (congrArg nI hp)) (br_t (nI_lt hx (by omega)) (nm_r (qc_m8 _) ⟨vp_in_nI (by omega) (by decide), nm_r ((qc_rr rfl (by omega)).trans ha) ⟨vp_in_nI (by omega) (by decide), nm_r ((qc_rr rfl (by omega)).trans hb) ⟨vp_in_nI (by omega) (by decide), nm_r ((qc_rr rfl (by omega)).trans hc) ⟨vp_in_nI (by omega) (by decide), nm_r (qc_st rfl (nI_1 x) (by omega)) ⟨vp_in_nI (by omega) (by decide), nm_r ((qc_rr rfl (by omega)).trans ho) (br_f (by decide) (br_f (by decide) (br_f (by decide) (br_f (by decide) (br_f (by decide) (br_t rfl ?_))))))⟩⟩⟩⟩⟩))⟩
    exact ⟨qc_vi eB (by omega) (by decide), qc_vi eC (by omega) (by decide), qc_vi eA (by omega) (by decide), nm_r (qc_sr eA (by omega) eV) hP⟩
  · refine br_f (nI_pos (by omega)) (br_f (nI_nlt (a := 4) (by omega) (by decide)) ⟨vp_in_nI (by omega) (by decide), br_t (by rw [qc_rd d rfl (by omega)]; exact nI_le (a := 1) h1 (by omega)) ⟨vp_in_nI (by omega) (by decide), nm_r ((congrArg (fun z => nI c * 6 + z - 1) (qc_rd d rfl (by omega))).trans (qc_tf h1)) ⟨vp_in_nI (by omega) (by decide), nm_r ((qc_rd q rfl (by omega)).trans (congrArg nI hq)) (br_f (nI_pos (by omega)) (br_t (nI_lt hx (by omega)) ⟨vp_in_nI (by omega) (by decide), nm_r ((qc_rr rfl (by omega)).trans ho) ⟨vp_in_nI (by omega) (by decide), nm_r (congrArg (· &&& 7) ((qc_rr rfl (by omega)).trans ha) |>.trans (qc_a7 a8)) ⟨vp_in_nI (by omega) (by decide), nm_r ((qc_rr rfl (by omega)).trans hb) (nm_r (qc_a7 b8) ⟨vp_in_nI (by omega) (by decide), nm_r (congrArg (· &&& 7) ((qc_rr rfl (by omega)).trans hc) |>.trans (qc_a7 g8)) (nm_r (qc_m8 _) (br_f (by decide) (br_f (by decide) (br_f (by decide) (br_t rfl ?_)))))⟩)⟩⟩⟩))⟩⟩⟩)
    exact ⟨qc_vi eB (by omega) (by decide), qc_vi eC (by omega) (by decide), qc_vi eA (by omega) (by decide), nm_r (qc_sr eA (by omega) eV) ⟨vp_in_nI (by omega) (by decide), nm_r (qc_st rfl (nI_1 x) (by omega)) hP⟩⟩
theorem qc_o4 (K : qc_K mc md cl lc h B oo oa ob oc lv bd) (I : qc_I mc md oo oa ob d s lv rs yr p q n m (c :: l)) (hp : p (c * 6 + d c - 1) = x) (hx : x < cl) (ho : oo x = 4) (ha : oa x = nI a) (a8 : a < 8) (hb : ob x = nI b) (b8 : b < 8) {g : Nat} (hc : oc x = nI g) (g8 : g < 8) : qc_Out B (nI mc, nI md, nI cl, nI lc, 1, 0, nI c, nI h, 0, re, oo, oa, ob, oc, lg, hn, (fun zz => nI (s zz)), (fun zz => nI (rs zz)), (fun zz => nI (bd zz)), (fun zz => nI (d zz)), (fun zz => nI (p zz)), (fun zz => nI (n zz)), rg, tg) (nI mc, nI md, 1, 0, nI c, nI h, nI cl, nI lc, oo, oa, ob, oc, lg, hn, (fun zz => nI (d zz)), (fun zz => nI (rs zz)), (fun zz => nI (bd zz)), (fun zz => nI (yr zz)), (fun zz => nI (lv zz)), rg, (fun zz => nI (q zz)), (fun zz => nI (m zz)), tg) := by
  have c5 : c < 5 := I.2.2.1 c List.mem_cons_self
  obtain ⟨h1, hdm, hs1, hlv, hth⟩ := I.2.2.2.2.1
  have hm : md ≤ 6 := K.2.1.2
  have h6 : d c ≤ 6 := by omega
  have h64 : cl ≤ 64 := K.2.2.1
  have hl : lc ≤ 64 := K.2.2.2.1
  have hq : q (c * 6 + d c - 1) = x := (qc_qtop h1 hth).1.trans hp
  have hf : (c * 6 + d c - 1) < 30 := by omega
  have eA : nI ((c * 6 + d c - 1) * 8) + nI a = nI ((c * 6 + d c - 1) * 8 + a) := nI_add _ _
  have eB : nI ((c * 6 + d c - 1) * 8) + nI b = nI ((c * 6 + d c - 1) * 8 + b) := nI_add _ _
  have eC : nI ((c * 6 + d c - 1) * 8) + nI g = nI ((c * 6 + d c - 1) * 8 + g) := nI_add _ _
  by_cases z : rg (nI ((c * 6 + d c - 1) * 8) + nI g).toNatClampNeg ≤ rg (nI ((c * 6 + d c - 1) * 8) + nI b).toNatClampNeg
  · refine .inl ⟨(nI mc, nI md, nI cl, nI lc, 1, 0, nI c, nI h, 0, re, oo, oa, ob, oc, lg, hn, (fun zz => nI (s zz)), (fun zz => nI (rs zz)), (fun zz => nI (bd zz)), (fun zz => nI (d zz)), (fun zz => nI ((qc_u p (c * 6 + d c - 1) (x + 1)) zz)), (fun zz => nI (n zz)), (upd rg ((c * 6 + d c - 1) * 8 + a) 0), tg), (nI mc, nI md, 1, 0, nI c, nI h, nI cl, nI lc, oo, oa, ob, oc, lg, hn, (fun zz => nI (d zz)), (fun zz => nI (rs zz)), (fun zz => nI (bd zz)), (fun zz => nI (yr zz)), (fun zz => nI (lv zz)), (upd rg ((c * 6 + d c - 1) * 8 + a) 0), (fun zz => nI ((qc_u q (c * 6 + d c - 1) (x + 1)) zz)), (fun zz => nI (m zz)), tg), qc_Rmk (qc_K_up K) (qc_tr_pc hm I (by omega)), fun P hP => ?_, fun P hP => ?_⟩
    · unfold wpX_step; refine qc_xtf _ c5 h1 ?_; refine ⟨vp_in_nI (by omega) (by decide), nm_r ((qc_rd p rfl (by omega)).trans (congrArg nI hp)) (br_t (nI_lt hx (by omega)) (nm_r (qc_m8 _) ⟨vp_in_nI (by omega) (by decide), nm_r ((qc_rr rfl (by omega)).trans ha) ⟨vp_in_nI (by omega) (by decide), nm_r ((qc_rr rfl (by omega)).trans hb) ⟨vp_in_nI (by omega) (by decide), nm_r ((qc_rr rfl (by omega)).trans hc) ⟨vp_in_nI (by omega) (by decide), nm_r (qc_st rfl (nI_1 x) (by omega)) ⟨vp_in_nI (by omega) (by decide), nm_r ((qc_rr rfl (by omega)).trans ho) (br_f (by decide) (br_f (by decide) (br_f (by decide) (br_f (by decide) (br_f (by decide) (br_f (by decide) (br_t rfl ?_)))))))⟩⟩⟩⟩⟩))⟩
      exact ⟨qc_vi eB (by omega) (by decide), qc_vi eC (by omega) (by decide), br_t z ⟨qc_vi eA (by omega) (by decide), nm_r (qc_sr eA (by omega) rfl) hP⟩⟩
    · refine br_f (nI_pos (by omega)) (br_f (nI_nlt (a := 4) (by omega) (by decide)) ⟨vp_in_nI (by omega) (by decide), br_t (by rw [qc_rd d rfl (by omega)]; exact nI_le (a := 1) h1 (by omega)) ⟨vp_in_nI (by omega) (by decide), nm_r ((congrArg (fun z => nI c * 6 + z - 1) (qc_rd d rfl (by omega))).trans (qc_tf h1)) ⟨vp_in_nI (by omega) (by decide), nm_r ((qc_rd q rfl (by omega)).trans (congrArg nI hq)) (br_f (nI_pos (by omega)) (br_t (nI_lt hx (by omega)) ⟨vp_in_nI (by omega) (by decide), nm_r ((qc_rr rfl (by omega)).trans ho) ⟨vp_in_nI (by omega) (by decide), nm_r (congrArg (· &&& 7) ((qc_rr rfl (by omega)).trans ha) |>.trans (qc_a7 a8)) ⟨vp_in_nI (by omega) (by decide), nm_r ((qc_rr rfl (by omega)).trans hb) (nm_r (qc_a7 b8) ⟨vp_in_nI (by omega) (by decide), nm_r (congrArg (· &&& 7) ((qc_rr rfl (by omega)).trans hc) |>.trans (qc_a7 g8)) (nm_r (qc_m8 _) (br_f (by decide) (br_f (by decide) (br_f (by decide) (br_f (by decide) (br_t rfl ?_))))))⟩)⟩⟩⟩))⟩⟩⟩)
      exact ⟨qc_vi eB (by omega) (by decide), qc_vi eC (by omega) (by decide), br_t z ⟨qc_vi eA (by omega) (by decide), nm_r (qc_sr eA (by omega) rfl) ⟨vp_in_nI (by omega) (by decide), nm_r (qc_st rfl (nI_1 x) (by omega)) hP⟩⟩⟩
  · refine .inl ⟨(nI mc, nI md, nI cl, nI lc, 1, 0, nI c, nI h, 0, re, oo, oa, ob, oc, lg, hn, (fun zz => nI (s zz)), (fun zz => nI (rs zz)), (fun zz => nI (bd zz)), (fun zz => nI (d zz)), (fun zz => nI ((qc_u p (c * 6 + d c - 1) (x + 1)) zz)), (fun zz => nI (n zz)), (upd rg ((c * 6 + d c - 1) * 8 + a) 1), tg), (nI mc, nI md, 1, 0, nI c, nI h, nI cl, nI lc, oo, oa, ob, oc, lg, hn, (fun zz => nI (d zz)), (fun zz => nI (rs zz)), (fun zz => nI (bd zz)), (fun zz => nI (yr zz)), (fun zz => nI (lv zz)), (upd rg ((c * 6 + d c - 1) * 8 + a) 1), (fun zz => nI ((qc_u q (c * 6 + d c - 1) (x + 1)) zz)), (fun zz => nI (m zz)), tg), qc_Rmk (qc_K_up K) (qc_tr_pc hm I (by omega)), fun P hP => ?_, fun P hP => ?_⟩
    · unfold wpX_step; refine qc_xtf _ c5 h1 ?_; refine ⟨vp_in_nI (by omega) (by decide), nm_r ((qc_rd p rfl (by omega)).trans (congrArg nI hp)) (br_t (nI_lt hx (by omega)) (nm_r (qc_m8 _) ⟨vp_in_nI (by omega) (by decide), nm_r ((qc_rr rfl (by omega)).trans ha) ⟨vp_in_nI (by omega) (by decide), nm_r ((qc_rr rfl (by omega)).trans hb) ⟨vp_in_nI (by omega) (by decide), nm_r ((qc_rr rfl (by omega)).trans hc) ⟨vp_in_nI (by omega) (by decide), nm_r (qc_st rfl (nI_1 x) (by omega)) ⟨vp_in_nI (by omega) (by decide), nm_r ((qc_rr rfl (by omega)).trans ho) (br_f (by decide) (br_f (by decide) (br_f (by decide) (br_f (by decide) (br_f (by decide) (br_f (by decide) (br_t rfl ?_)))))))⟩⟩⟩⟩⟩))⟩
      exact ⟨qc_vi eB (by omega) (by decide), qc_vi eC (by omega) (by decide), br_f z ⟨qc_vi eA (by omega) (by decide), nm_r (qc_sr eA (by omega) rfl) hP⟩⟩
    · refine br_f (nI_pos (by omega)) (br_f (nI_nlt (a := 4) (by omega) (by decide)) ⟨vp_in_nI (by omega) (by decide), br_t (by rw [qc_rd d rfl (by omega)]; exact nI_le (a := 1) h1 (by omega)) ⟨vp_in_nI (by omega) (by decide), nm_r ((congrArg (fun z => nI c * 6 + z - 1) (qc_rd d rfl (by omega))).trans (qc_tf h1)) ⟨vp_in_nI (by omega) (by decide), nm_r ((qc_rd q rfl (by omega)).trans (congrArg nI hq)) (br_f (nI_pos (by omega)) (br_t (nI_lt hx (by omega)) ⟨vp_in_nI (by omega) (by decide), nm_r ((qc_rr rfl (by omega)).trans ho) ⟨vp_in_nI (by omega) (by decide), nm_r (congrArg (· &&& 7) ((qc_rr rfl (by omega)).trans ha) |>.trans (qc_a7 a8)) ⟨vp_in_nI (by omega) (by decide), nm_r ((qc_rr rfl (by omega)).trans hb) (nm_r (qc_a7 b8) ⟨vp_in_nI (by omega) (by decide), nm_r (congrArg (· &&& 7) ((qc_rr rfl (by omega)).trans hc) |>.trans (qc_a7 g8)) (nm_r (qc_m8 _) (br_f (by decide) (br_f (by decide) (br_f (by decide) (br_f (by decide) (br_t rfl ?_))))))⟩)⟩⟩⟩))⟩⟩⟩)
      exact ⟨qc_vi eB (by omega) (by decide), qc_vi eC (by omega) (by decide), br_f z ⟨qc_vi eA (by omega) (by decide), nm_r (qc_sr eA (by omega) rfl) ⟨vp_in_nI (by omega) (by decide), nm_r (qc_st rfl (nI_1 x) (by omega)) hP⟩⟩⟩
theorem qc_o5 (K : qc_K mc md cl lc h B oo oa ob oc lv bd) (I : qc_I mc md oo oa ob d s lv rs yr p q n m (c :: l)) (hp : p (c * 6 + d c - 1) = x) (hx : x < cl) (ho : oo x = 5) (ha : oa x = nI a) (a8 : a < 64) : qc_Out B (nI mc, nI md, nI cl, nI lc, 1, 0, nI c, nI h, 0, re, oo, oa, ob, oc, lg, hn, (fun zz => nI (s zz)), (fun zz => nI (rs zz)), (fun zz => nI (bd zz)), (fun zz => nI (d zz)), (fun zz => nI (p zz)), (fun zz => nI (n zz)), rg, tg) (nI mc, nI md, 1, 0, nI c, nI h, nI cl, nI lc, oo, oa, ob, oc, lg, hn, (fun zz => nI (d zz)), (fun zz => nI (rs zz)), (fun zz => nI (bd zz)), (fun zz => nI (yr zz)), (fun zz => nI (lv zz)), rg, (fun zz => nI (q zz)), (fun zz => nI (m zz)), tg) := by
  have c5 : c < 5 := I.2.2.1 c List.mem_cons_self
  obtain ⟨h1, hdm, hs1, hlv, hth⟩ := I.2.2.2.2.1
  have hm : md ≤ 6 := K.2.1.2
  have h6 : d c ≤ 6 := by omega
  have h64 : cl ≤ 64 := K.2.2.1
  have hl : lc ≤ 64 := K.2.2.2.1
  have hq : q (c * 6 + d c - 1) = x := (qc_qtop h1 hth).1.trans hp
  have hf : (c * 6 + d c - 1) < 30 := by omega
  refine .inl ⟨(nI mc, nI md, nI cl, nI lc, 1, 0, nI c, nI h, 0, re, oo, oa, ob, oc, lg, hn, (fun zz => nI (s zz)), (fun zz => nI (rs zz)), (fun zz => nI (bd zz)), (fun zz => nI (d zz)), (fun zz => nI ((qc_u p (c * 6 + d c - 1) a) zz)), (fun zz => nI (n zz)), rg, tg), (nI mc, nI md, 1, 0, nI c, nI h, nI cl, nI lc, oo, oa, ob, oc, lg, hn, (fun zz => nI (d zz)), (fun zz => nI (rs zz)), (fun zz => nI (bd zz)), (fun zz => nI (yr zz)), (fun zz => nI (lv zz)), rg, (fun zz => nI ((qc_u q (c * 6 + d c - 1) a) zz)), (fun zz => nI (m zz)), tg), qc_Rmk (qc_K_up K) (qc_tr_pc hm I (by omega)), fun P hP => ?_, fun P hP => ?_⟩
  · unfold wpX_step; refine qc_xtf _ c5 h1 ?_; refine ⟨vp_in_nI (by omega) (by decide), nm_r ((qc_rd p rfl (by omega)).trans (congrArg nI hp)) (br_t (nI_lt hx (by omega)) (nm_r (qc_m8 _) ⟨vp_in_nI (by omega) (by decide), nm_r ((qc_rr rfl (by omega)).trans ha) ⟨vp_in_nI (by omega) (by decide), nm_r ((qc_rr rfl (by omega))) ⟨vp_in_nI (by omega) (by decide), nm_r ((qc_rr rfl (by omega))) ⟨vp_in_nI (by omega) (by decide), nm_r (qc_st rfl (nI_1 x) (by omega)) ⟨vp_in_nI (by omega) (by decide), nm_r ((qc_rr rfl (by omega)).trans ho) (br_f (by decide) (br_f (by decide) (br_f (by decide) (br_f (by decide) (br_f (by decide) (br_f (by decide) (br_f (by decide) (br_t rfl ?_))))))))⟩⟩⟩⟩⟩))⟩
    exact ⟨vp_in_nI (by omega) (by decide), nm_r ((qc_st rfl rfl (by omega)).trans (by rw [qc_uu])) hP⟩
  · refine br_f (nI_pos (by omega)) (br_f (nI_nlt (a := 4) (by omega) (by decide)) ⟨vp_in_nI (by omega) (by decide), br_t (by rw [qc_rd d rfl (by omega)]; exact nI_le (a := 1) h1 (by omega)) ⟨vp_in_nI (by omega) (by decide), nm_r ((congrArg (fun z => nI c * 6 + z - 1) (qc_rd d rfl (by omega))).trans (qc_tf h1)) ⟨vp_in_nI (by omega) (by decide), nm_r ((qc_rd q rfl (by omega)).trans (congrArg nI hq)) (br_f (nI_pos (by omega)) (br_t (nI_lt hx (by omega)) ⟨vp_in_nI (by omega) (by decide), nm_r ((qc_rr rfl (by omega)).trans ho) ⟨vp_in_nI (by omega) (by decide), nm_e ⟨vp_in_nI (by omega) (by decide), nm_r ((qc_rr rfl (by omega))) (nm_e ⟨vp_in_nI (by omega) (by decide), nm_e (nm_r (qc_m8 _) (br_f (by decide) (br_f (by decide) (br_f (by decide) (br_f (by decide) (br_f (by decide) (br_t rfl ?_)))))))⟩)⟩⟩⟩))⟩⟩⟩)
    exact ⟨vp_in_nI (by omega) (by decide), vp_in_nI (by omega) (by decide), nm_r (qc_st rfl ((qc_rr rfl (by omega)).trans ha) (by omega)) hP⟩
theorem qc_o6 (K : qc_K mc md cl lc h B oo oa ob oc lv bd) (I : qc_I mc md oo oa ob d s lv rs yr p q n m (c :: l)) (hp : p (c * 6 + d c - 1) = x) (hx : x < cl) (ho : oo x = 6) (ha : oa x = nI a) (a8 : a < 8) (hb : ob x = nI b) (b6 : b < 64) : qc_Out B (nI mc, nI md, nI cl, nI lc, 1, 0, nI c, nI h, 0, re, oo, oa, ob, oc, lg, hn, (fun zz => nI (s zz)), (fun zz => nI (rs zz)), (fun zz => nI (bd zz)), (fun zz => nI (d zz)), (fun zz => nI (p zz)), (fun zz => nI (n zz)), rg, tg) (nI mc, nI md, 1, 0, nI c, nI h, nI cl, nI lc, oo, oa, ob, oc, lg, hn, (fun zz => nI (d zz)), (fun zz => nI (rs zz)), (fun zz => nI (bd zz)), (fun zz => nI (yr zz)), (fun zz => nI (lv zz)), rg, (fun zz => nI (q zz)), (fun zz => nI (m zz)), tg) := by
  have c5 : c < 5 := I.2.2.1 c List.mem_cons_self
  obtain ⟨h1, hdm, hs1, hlv, hth⟩ := I.2.2.2.2.1
  have hm : md ≤ 6 := K.2.1.2
  have h6 : d c ≤ 6 := by omega
  have h64 : cl ≤ 64 := K.2.2.1
  have hl : lc ≤ 64 := K.2.2.2.1
  have hq : q (c * 6 + d c - 1) = x := (qc_qtop h1 hth).1.trans hp
  have hf : (c * 6 + d c - 1) < 30 := by omega
  have eA : nI ((c * 6 + d c - 1) * 8) + nI a = nI ((c * 6 + d c - 1) * 8 + a) := nI_add _ _
  by_cases z : rg (nI ((c * 6 + d c - 1) * 8) + nI a).toNatClampNeg = 0
  · refine .inl ⟨(nI mc, nI md, nI cl, nI lc, 1, 0, nI c, nI h, 0, re, oo, oa, ob, oc, lg, hn, (fun zz => nI (s zz)), (fun zz => nI (rs zz)), (fun zz => nI (bd zz)), (fun zz => nI (d zz)), (fun zz => nI ((qc_u p (c * 6 + d c - 1) b) zz)), (fun zz => nI (n zz)), rg, tg), (nI mc, nI md, 1, 0, nI c, nI h, nI cl, nI lc, oo, oa, ob, oc, lg, hn, (fun zz => nI (d zz)), (fun zz => nI (rs zz)), (fun zz => nI (bd zz)), (fun zz => nI (yr zz)), (fun zz => nI (lv zz)), rg, (fun zz => nI ((qc_u q (c * 6 + d c - 1) b) zz)), (fun zz => nI (m zz)), tg), qc_Rmk (qc_K_up K) (qc_tr_pc hm I (by omega)), fun P hP => ?_, fun P hP => ?_⟩
    · unfold wpX_step; refine qc_xtf _ c5 h1 ?_; refine ⟨vp_in_nI (by omega) (by decide), nm_r ((qc_rd p rfl (by omega)).trans (congrArg nI hp)) (br_t (nI_lt hx (by omega)) (nm_r (qc_m8 _) ⟨vp_in_nI (by omega) (by decide), nm_r ((qc_rr rfl (by omega)).trans ha) ⟨vp_in_nI (by omega) (by decide), nm_r ((qc_rr rfl (by omega)).trans hb) ⟨vp_in_nI (by omega) (by decide), nm_r ((qc_rr rfl (by omega))) ⟨vp_in_nI (by omega) (by decide), nm_r (qc_st rfl (nI_1 x) (by omega)) ⟨vp_in_nI (by omega) (by decide), nm_r ((qc_rr rfl (by omega)).trans ho) (br_f (by decide) (br_f (by decide) (br_f (by decide) (br_f (by decide) (br_f (by decide) (br_f (by decide) (br_f (by decide) (br_f (by decide) (br_t rfl ?_)))))))))⟩⟩⟩⟩⟩))⟩
      exact ⟨qc_vi eA (by omega) (by decide), br_t z ⟨vp_in_nI (by omega) (by decide), nm_r ((qc_st rfl rfl (by omega)).trans (by rw [qc_uu])) hP⟩⟩
    · refine br_f (nI_pos (by omega)) (br_f (nI_nlt (a := 4) (by omega) (by decide)) ⟨vp_in_nI (by omega) (by decide), br_t (by rw [qc_rd d rfl (by omega)]; exact nI_le (a := 1) h1 (by omega)) ⟨vp_in_nI (by omega) (by decide), nm_r ((congrArg (fun z => nI c * 6 + z - 1) (qc_rd d rfl (by omega))).trans (qc_tf h1)) ⟨vp_in_nI (by omega) (by decide), nm_r ((qc_rd q rfl (by omega)).trans (congrArg nI hq)) (br_f (nI_pos (by omega)) (br_t (nI_lt hx (by omega)) ⟨vp_in_nI (by omega) (by decide), nm_r ((qc_rr rfl (by omega)).trans ho) ⟨vp_in_nI (by omega) (by decide), nm_r (congrArg (· &&& 7) ((qc_rr rfl (by omega)).trans ha) |>.trans (qc_a7 a8)) ⟨vp_in_nI (by omega) (by decide), nm_r ((qc_rr rfl (by omega)).trans hb) (nm_e ⟨vp_in_nI (by omega) (by decide), nm_e (nm_r (qc_m8 _) (br_f (by decide) (br_f (by decide) (br_f (by decide) (br_f (by decide) (br_f (by decide) (br_f (by decide) (br_t rfl ?_))))))))⟩)⟩⟩⟩))⟩⟩⟩)
      exact ⟨qc_vi eA (by omega) (by decide), br_t z ⟨vp_in_nI (by omega) (by decide), nm_r (qc_st rfl rfl (by omega)) hP⟩⟩
  · refine .inl ⟨(nI mc, nI md, nI cl, nI lc, 1, 0, nI c, nI h, 0, re, oo, oa, ob, oc, lg, hn, (fun zz => nI (s zz)), (fun zz => nI (rs zz)), (fun zz => nI (bd zz)), (fun zz => nI (d zz)), (fun zz => nI ((qc_u p (c * 6 + d c - 1) (x + 1)) zz)), (fun zz => nI (n zz)), rg, tg), (nI mc, nI md, 1, 0, nI c, nI h, nI cl, nI lc, oo, oa, ob, oc, lg, hn, (fun zz => nI (d zz)), (fun zz => nI (rs zz)), (fun zz => nI (bd zz)), (fun zz => nI (yr zz)), (fun zz => nI (lv zz)), rg, (fun zz => nI ((qc_u q (c * 6 + d c - 1) (x + 1)) zz)), (fun zz => nI (m zz)), tg), qc_Rmk (qc_K_up K) (qc_tr_pc hm I (by omega)), fun P hP => ?_, fun P hP => ?_⟩
    · unfold wpX_step; refine qc_xtf _ c5 h1 ?_; refine ⟨vp_in_nI (by omega) (by decide), nm_r ((qc_rd p rfl (by omega)).trans (congrArg nI hp)) (br_t (nI_lt hx (by omega)) (nm_r (qc_m8 _) ⟨vp_in_nI (by omega) (by decide), nm_r ((qc_rr rfl (by omega)).trans ha) ⟨vp_in_nI (by omega) (by decide), nm_r ((qc_rr rfl (by omega)).trans hb) ⟨vp_in_nI (by omega) (by decide), nm_r ((qc_rr rfl (by omega))) ⟨vp_in_nI (by omega) (by decide), nm_r (qc_st rfl (nI_1 x) (by omega)) ⟨vp_in_nI (by omega) (by decide), nm_r ((qc_rr rfl (by omega)).trans ho) (br_f (by decide) (br_f (by decide) (br_f (by decide) (br_f (by decide) (br_f (by decide) (br_f (by decide) (br_f (by decide) (br_f (by decide) (br_t rfl ?_)))))))))⟩⟩⟩⟩⟩))⟩
      exact ⟨qc_vi eA (by omega) (by decide), br_f z ⟨vp_in_nI (by omega) (by decide), nm_r ((qc_st rfl (nI_1 x) (by omega)).trans (by rw [qc_uu])) hP⟩⟩
    · refine br_f (nI_pos (by omega)) (br_f (nI_nlt (a := 4) (by omega) (by decide)) ⟨vp_in_nI (by omega) (by decide), br_t (by rw [qc_rd d rfl (by omega)]; exact nI_le (a := 1) h1 (by omega)) ⟨vp_in_nI (by omega) (by decide), nm_r ((congrArg (fun z => nI c * 6 + z - 1) (qc_rd d rfl (by omega))).trans (qc_tf h1)) ⟨vp_in_nI (by omega) (by decide), nm_r ((qc_rd q rfl (by omega)).trans (congrArg nI hq)) (br_f (nI_pos (by omega)) (br_t (nI_lt hx (by omega)) ⟨vp_in_nI (by omega) (by decide), nm_r ((qc_rr rfl (by omega)).trans ho) ⟨vp_in_nI (by omega) (by decide), nm_r (congrArg (· &&& 7) ((qc_rr rfl (by omega)).trans ha) |>.trans (qc_a7 a8)) ⟨vp_in_nI (by omega) (by decide), nm_r ((qc_rr rfl (by omega)).trans hb) (nm_e ⟨vp_in_nI (by omega) (by decide), nm_e (nm_r (qc_m8 _) (br_f (by decide) (br_f (by decide) (br_f (by decide) (br_f (by decide) (br_f (by decide) (br_f (by decide) (br_t rfl ?_))))))))⟩)⟩⟩⟩))⟩⟩⟩)
      exact ⟨qc_vi eA (by omega) (by decide), br_f z ⟨vp_in_nI (by omega) (by decide), nm_r (qc_st rfl (nI_1 x) (by omega)) hP⟩⟩
theorem qc_o9 (K : qc_K mc md cl lc h B oo oa ob oc lv bd) (I : qc_I mc md oo oa ob d s lv rs yr p q n m (c :: l)) (hp : p (c * 6 + d c - 1) = x) (hx : x < cl) (ho : oo x = 9) (ha : oa x = nI a) (a8 : a < 8) : qc_Out B (nI mc, nI md, nI cl, nI lc, 1, 0, nI c, nI h, 0, re, oo, oa, ob, oc, lg, hn, (fun zz => nI (s zz)), (fun zz => nI (rs zz)), (fun zz => nI (bd zz)), (fun zz => nI (d zz)), (fun zz => nI (p zz)), (fun zz => nI (n zz)), rg, tg) (nI mc, nI md, 1, 0, nI c, nI h, nI cl, nI lc, oo, oa, ob, oc, lg, hn, (fun zz => nI (d zz)), (fun zz => nI (rs zz)), (fun zz => nI (bd zz)), (fun zz => nI (yr zz)), (fun zz => nI (lv zz)), rg, (fun zz => nI (q zz)), (fun zz => nI (m zz)), tg) := by
  have c5 : c < 5 := I.2.2.1 c List.mem_cons_self
  obtain ⟨h1, hdm, hs1, hlv, hth⟩ := I.2.2.2.2.1
  have hm : md ≤ 6 := K.2.1.2
  have h6 : d c ≤ 6 := by omega
  have h64 : cl ≤ 64 := K.2.2.1
  have hl : lc ≤ 64 := K.2.2.2.1
  have hq : q (c * 6 + d c - 1) = x := (qc_qtop h1 hth).1.trans hp
  have hf : (c * 6 + d c - 1) < 30 := by omega
  have eA : nI ((c * 6 + d c - 1) * 8) + nI a = nI ((c * 6 + d c - 1) * 8 + a) := nI_add _ _
  refine .inl ⟨(nI mc, nI md, nI cl, nI ((qc_ap (lg, lc) (rg ((c * 6 + d c - 1) * 8 + a))).2), 1, 0, nI c, nI h, 0, re, oo, oa, ob, oc, (qc_ap (lg, lc) (rg ((c * 6 + d c - 1) * 8 + a))).1, hn, (fun zz => nI (s zz)), (fun zz => nI (rs zz)), (fun zz => nI (bd zz)), (fun zz => nI (d zz)), (fun zz => nI ((qc_u p (c * 6 + d c - 1) (x + 1)) zz)), (fun zz => nI (n zz)), rg, tg), (nI mc, nI md, 1, 0, nI c, nI h, nI cl, nI ((qc_ap (lg, lc) (rg ((c * 6 + d c - 1) * 8 + a))).2), oo, oa, ob, oc, (qc_ap (lg, lc) (rg ((c * 6 + d c - 1) * 8 + a))).1, hn, (fun zz => nI (d zz)), (fun zz => nI (rs zz)), (fun zz => nI (bd zz)), (fun zz => nI (yr zz)), (fun zz => nI (lv zz)), rg, (fun zz => nI ((qc_u q (c * 6 + d c - 1) (x + 1)) zz)), (fun zz => nI (m zz)), tg), qc_Rmk (qc_K_c (qc_K_up K) (qc_ap_le hl) K.2.2.2.2.2.2.2) (qc_tr_pc hm I (by omega)), fun P hP => ?_, fun P hP => ?_⟩
  · unfold wpX_step; refine qc_xtf _ c5 h1 ?_; refine ⟨vp_in_nI (by omega) (by decide), nm_r ((qc_rd p rfl (by omega)).trans (congrArg nI hp)) (br_t (nI_lt hx (by omega)) (nm_r (qc_m8 _) ⟨vp_in_nI (by omega) (by decide), nm_r ((qc_rr rfl (by omega)).trans ha) ⟨vp_in_nI (by omega) (by decide), nm_r ((qc_rr rfl (by omega))) ⟨vp_in_nI (by omega) (by decide), nm_r ((qc_rr rfl (by omega))) ⟨vp_in_nI (by omega) (by decide), nm_r (qc_st rfl (nI_1 x) (by omega)) ⟨vp_in_nI (by omega) (by decide), nm_r ((qc_rr rfl (by omega)).trans ho) (br_f (by decide) (br_f (by decide) (br_f (by decide) (br_f (by decide) (br_f (by decide) (br_f (by decide) (br_f (by decide) (br_f (by decide) (br_f (by decide) (br_f (by decide) (br_f (by decide) (br_t rfl ?_))))))))))))⟩⟩⟩⟩⟩))⟩
    exact ⟨qc_vi eA (by omega) (by decide), qc_xap _ (qc_rr eA (by omega)) hl hP⟩
  · refine br_f (nI_pos (by omega)) (br_f (nI_nlt (a := 4) (by omega) (by decide)) ⟨vp_in_nI (by omega) (by decide), br_t (by rw [qc_rd d rfl (by omega)]; exact nI_le (a := 1) h1 (by omega)) ⟨vp_in_nI (by omega) (by decide), nm_r ((congrArg (fun z => nI c * 6 + z - 1) (qc_rd d rfl (by omega))).trans (qc_tf h1)) ⟨vp_in_nI (by omega) (by decide), nm_r ((qc_rd q rfl (by omega)).trans (congrArg nI hq)) (br_f (nI_pos (by omega)) (br_t (nI_lt hx (by omega)) ⟨vp_in_nI (by omega) (by decide), nm_r ((qc_rr rfl (by omega)).trans ho) ⟨vp_in_nI (by omega) (by decide), nm_r (congrArg (· &&& 7) ((qc_rr rfl (by omega)).trans ha) |>.trans (qc_a7 a8)) ⟨vp_in_nI (by omega) (by decide), nm_r ((qc_rr rfl (by omega))) (nm_e ⟨vp_in_nI (by omega) (by decide), nm_e (nm_r (qc_m8 _) (br_f (by decide) (br_f (by decide) (br_f (by decide) (br_f (by decide) (br_f (by decide) (br_f (by decide) (br_f (by decide) (br_f (by decide) (br_f (by decide) (br_t rfl ?_)))))))))))⟩)⟩⟩⟩))⟩⟩⟩)
    exact ⟨qc_vi eA (by omega) (by decide), qc_yap _ (qc_rr eA (by omega)) hl ⟨vp_in_nI (by omega) (by decide), nm_r (qc_st rfl (nI_1 x) (by omega)) hP⟩⟩
theorem qc_o11 (K : qc_K mc md cl lc h B oo oa ob oc lv bd) (I : qc_I mc md oo oa ob d s lv rs yr p q n m (c :: l)) (hp : p (c * 6 + d c - 1) = x) (hx : x < cl) (ho : oo x = 11) (ha : oa x = nI a) (a8 : a < 8) : qc_Out B (nI mc, nI md, nI cl, nI lc, 1, 0, nI c, nI h, 0, re, oo, oa, ob, oc, lg, hn, (fun zz => nI (s zz)), (fun zz => nI (rs zz)), (fun zz => nI (bd zz)), (fun zz => nI (d zz)), (fun zz => nI (p zz)), (fun zz => nI (n zz)), rg, tg) (nI mc, nI md, 1, 0, nI c, nI h, nI cl, nI lc, oo, oa, ob, oc, lg, hn, (fun zz => nI (d zz)), (fun zz => nI (rs zz)), (fun zz => nI (bd zz)), (fun zz => nI (yr zz)), (fun zz => nI (lv zz)), rg, (fun zz => nI (q zz)), (fun zz => nI (m zz)), tg) := by
  have c5 : c < 5 := I.2.2.1 c List.mem_cons_self
  obtain ⟨h1, hdm, hs1, hlv, hth⟩ := I.2.2.2.2.1
  have hm : md ≤ 6 := K.2.1.2
  have h6 : d c ≤ 6 := by omega
  have h64 : cl ≤ 64 := K.2.2.1
  have hl : lc ≤ 64 := K.2.2.2.1
  have hq : q (c * 6 + d c - 1) = x := (qc_qtop h1 hth).1.trans hp
  have hf : (c * 6 + d c - 1) < 30 := by omega
  have eA : nI ((c * 6 + d c - 1) * 8) + nI a = nI ((c * 6 + d c - 1) * 8 + a) := nI_add _ _
  refine .inr ⟨(nI mc, nI md, nI cl, nI lc, 1, 0, nI c, nI h, 1, (rg ((c * 6 + d c - 1) * 8 + a)), oo, oa, ob, oc, lg, hn, (fun zz => nI (s zz)), (fun zz => nI (rs zz)), (fun zz => nI (bd zz)), (fun zz => nI (d zz)), (fun zz => nI ((qc_u p (c * 6 + d c - 1) (x + 1)) zz)), (fun zz => nI (n zz)), rg, tg), (nI mc, nI md, 1, 0, nI c, nI h, nI cl, nI lc, oo, oa, ob, oc, lg, hn, (fun zz => nI (d zz)), (fun zz => nI (rs zz)), (fun zz => nI (bd zz)), (fun zz => nI (yr zz)), (fun zz => nI (lv zz)), rg, (fun zz => nI (q zz)), (fun zz => nI (m zz)), tg), c, rg ((c * 6 + d c - 1) * 8 + a), qc_Qmk (qc_K_up K) (qc_tr_j hm I), fun P hP => ?_, fun w hw P hP => ?_⟩
  · unfold wpX_step; refine qc_xtf _ c5 h1 ?_; refine ⟨vp_in_nI (by omega) (by decide), nm_r ((qc_rd p rfl (by omega)).trans (congrArg nI hp)) (br_t (nI_lt hx (by omega)) (nm_r (qc_m8 _) ⟨vp_in_nI (by omega) (by decide), nm_r ((qc_rr rfl (by omega)).trans ha) ⟨vp_in_nI (by omega) (by decide), nm_r ((qc_rr rfl (by omega))) ⟨vp_in_nI (by omega) (by decide), nm_r ((qc_rr rfl (by omega))) ⟨vp_in_nI (by omega) (by decide), nm_r (qc_st rfl (nI_1 x) (by omega)) ⟨vp_in_nI (by omega) (by decide), nm_r ((qc_rr rfl (by omega)).trans ho) (br_f (by decide) (br_f (by decide) (br_f (by decide) (br_f (by decide) (br_f (by decide) (br_f (by decide) (br_f (by decide) (br_f (by decide) (br_f (by decide) (br_f (by decide) (br_f (by decide) (br_f (by decide) (br_f (by decide) (br_t rfl ?_))))))))))))))⟩⟩⟩⟩⟩))⟩
    refine ⟨qc_vi eA (by omega) (by decide), ?_⟩
    rw [qc_rr (f := rg) eA (by omega)]
    exact hP
  · refine br_f (nI_pos (by omega)) (br_f (nI_nlt (a := 4) (by omega) (by decide)) ⟨vp_in_nI (by omega) (by decide), br_t (by rw [qc_rd d rfl (by omega)]; exact nI_le (a := 1) h1 (by omega)) ⟨vp_in_nI (by omega) (by decide), nm_r ((congrArg (fun z => nI c * 6 + z - 1) (qc_rd d rfl (by omega))).trans (qc_tf h1)) ⟨vp_in_nI (by omega) (by decide), nm_r ((qc_rd q rfl (by omega)).trans (congrArg nI hq)) (br_f (nI_pos (by omega)) (br_t (nI_lt hx (by omega)) ⟨vp_in_nI (by omega) (by decide), nm_r ((qc_rr rfl (by omega)).trans ho) ⟨vp_in_nI (by omega) (by decide), nm_r (congrArg (· &&& 7) ((qc_rr rfl (by omega)).trans ha) |>.trans (qc_a7 a8)) ⟨vp_in_nI (by omega) (by decide), nm_r ((qc_rr rfl (by omega))) (nm_e ⟨vp_in_nI (by omega) (by decide), nm_e (nm_r (qc_m8 _) (br_f (by decide) (br_f (by decide) (br_f (by decide) (br_f (by decide) (br_f (by decide) (br_f (by decide) (br_f (by decide) (br_f (by decide) (br_f (by decide) (br_f (by decide) (br_f (by decide) (br_t rfl ?_)))))))))))))⟩)⟩⟩⟩))⟩⟩⟩)
    refine ⟨qc_vi eA (by omega) (by decide), ?_⟩
    rw [qc_rr (f := rg) eA (by omega)]
    exact hw _ hP
theorem qc_o18 (K : qc_K mc md cl lc h B oo oa ob oc lv bd) (I : qc_I mc md oo oa ob d s lv rs yr p q n m (c :: l)) (hp : p (c * 6 + d c - 1) = x) (hx : x < cl) (ho : oo x = 18) (ha : oa x = nI a) (a8 : a < 8) : qc_Out B (nI mc, nI md, nI cl, nI lc, 1, 0, nI c, nI h, 0, re, oo, oa, ob, oc, lg, hn, (fun zz => nI (s zz)), (fun zz => nI (rs zz)), (fun zz => nI (bd zz)), (fun zz => nI (d zz)), (fun zz => nI (p zz)), (fun zz => nI (n zz)), rg, tg) (nI mc, nI md, 1, 0, nI c, nI h, nI cl, nI lc, oo, oa, ob, oc, lg, hn, (fun zz => nI (d zz)), (fun zz => nI (rs zz)), (fun zz => nI (bd zz)), (fun zz => nI (yr zz)), (fun zz => nI (lv zz)), rg, (fun zz => nI (q zz)), (fun zz => nI (m zz)), tg) := by
  have c5 : c < 5 := I.2.2.1 c List.mem_cons_self
  obtain ⟨h1, hdm, hs1, hlv, hth⟩ := I.2.2.2.2.1
  have hm : md ≤ 6 := K.2.1.2
  have h6 : d c ≤ 6 := by omega
  have h64 : cl ≤ 64 := K.2.2.1
  have hl : lc ≤ 64 := K.2.2.2.1
  have hq : q (c * 6 + d c - 1) = x := (qc_qtop h1 hth).1.trans hp
  have hf : (c * 6 + d c - 1) < 30 := by omega
  have eA : nI ((c * 6 + d c - 1) * 8) + nI a = nI ((c * 6 + d c - 1) * 8 + a) := nI_add _ _
  refine .inl ⟨(nI mc, nI md, nI cl, nI lc, 1, 0, nI c, nI h, 0, re, oo, oa, ob, oc, lg, hn, (fun zz => nI (s zz)), (fun zz => nI (rs zz)), (fun zz => nI (bd zz)), (fun zz => nI (d zz)), (fun zz => nI ((qc_u p (c * 6 + d c - 1) (x + 1)) zz)), (fun zz => nI (n zz)), (upd rg ((c * 6 + d c - 1) * 8 + a) (hn c)), tg), (nI mc, nI md, 1, 0, nI c, nI h, nI cl, nI lc, oo, oa, ob, oc, lg, hn, (fun zz => nI (d zz)), (fun zz => nI (rs zz)), (fun zz => nI (bd zz)), (fun zz => nI (yr zz)), (fun zz => nI (lv zz)), (upd rg ((c * 6 + d c - 1) * 8 + a) (hn c)), (fun zz => nI ((qc_u q (c * 6 + d c - 1) (x + 1)) zz)), (fun zz => nI (m zz)), tg), qc_Rmk (qc_K_up K) (qc_tr_pc hm I (by omega)), fun P hP => ?_, fun P hP => ?_⟩
  · unfold wpX_step; refine qc_xtf _ c5 h1 ?_; refine ⟨vp_in_nI (by omega) (by decide), nm_r ((qc_rd p rfl (by omega)).trans (congrArg nI hp)) (br_t (nI_lt hx (by omega)) (nm_r (qc_m8 _) ⟨vp_in_nI (by omega) (by decide), nm_r ((qc_rr rfl (by omega)).trans ha) ⟨vp_in_nI (by omega) (by decide), nm_r ((qc_rr rfl (by omega))) ⟨vp_in_nI (by omega) (by decide), nm_r ((qc_rr rfl (by omega))) ⟨vp_in_nI (by omega) (by decide), nm_r (qc_st rfl (nI_1 x) (by omega)) ⟨vp_in_nI (by omega) (by decide), nm_r ((qc_rr rfl (by omega)).trans ho) (br_f (by decide) (br_f (by decide) (br_f (by decide) (br_f (by decide) (br_f (by decide) (br_f (by decide) (br_f (by decide) (br_f (by decide) (br_f (by decide) (br_f (by decide) (br_f (by decide) (br_f (by decide) (br_f (by decide) (br_f (by decide) (br_f (by decide) (br_f (by decide) (br_f (by decide) (br_f (by decide) (br_f (by decide) (br_f (by decide) (br_t rfl ?_)))))))))))))))))))))⟩⟩⟩⟩⟩))⟩
    exact ⟨vp_in_nI (by omega) (by decide), qc_vi eA (by omega) (by decide), nm_r (qc_sr eA (by omega) (qc_rr rfl (by omega))) hP⟩
  · refine br_f (nI_pos (by omega)) (br_f (nI_nlt (a := 4) (by omega) (by decide)) ⟨vp_in_nI (by omega) (by decide), br_t (by rw [qc_rd d rfl (by omega)]; exact nI_le (a := 1) h1 (by omega)) ⟨vp_in_nI (by omega) (by decide), nm_r ((congrArg (fun z => nI c * 6 + z - 1) (qc_rd d rfl (by omega))).trans (qc_tf h1)) ⟨vp_in_nI (by omega) (by decide), nm_r ((qc_rd q rfl (by omega)).trans (congrArg nI hq)) (br_f (nI_pos (by omega)) (br_t (nI_lt hx (by omega)) ⟨vp_in_nI (by omega) (by decide), nm_r ((qc_rr rfl (by omega)).trans ho) ⟨vp_in_nI (by omega) (by decide), nm_r (congrArg (· &&& 7) ((qc_rr rfl (by omega)).trans ha) |>.trans (qc_a7 a8)) ⟨vp_in_nI (by omega) (by decide), nm_r ((qc_rr rfl (by omega))) (nm_e ⟨vp_in_nI (by omega) (by decide), nm_e (nm_r (qc_m8 _) (br_f (by decide) (br_f (by decide) (br_f (by decide) (br_f (by decide) (br_f (by decide) (br_f (by decide) (br_f (by decide) (br_f (by decide) (br_f (by decide) (br_f (by decide) (br_f (by decide) (br_f (by decide) (br_f (by decide) (br_f (by decide) (br_f (by decide) (br_f (by decide) (br_f (by decide) (br_f (by decide) (br_t rfl ?_))))))))))))))))))))⟩)⟩⟩⟩))⟩⟩⟩)
    exact ⟨vp_in_nI (by omega) (by decide), qc_vi eA (by omega) (by decide), nm_r (qc_sr eA (by omega) (qc_rr rfl (by omega))) ⟨vp_in_nI (by omega) (by decide), nm_r (qc_st rfl (nI_1 x) (by omega)) hP⟩⟩
end
end
section
section
variable {mc md cl lc cu h B : Nat} {st rt lh rd re cy : Int32} {oo oa ob oc lg hn rg tg : Nat → Int32} {d s lv rs bd yr p q n m : Nat → Nat} {c r t x a b : Nat} {l L : List Nat}
theorem qc_o7 (K : qc_K mc md cl lc h B oo oa ob oc lv bd) (I : qc_I mc md oo oa ob d s lv rs yr p q n m (c :: l)) (hp : p (c * 6 + d c - 1) = x) (hx : x < cl) (ho : oo x = 7) (ha : oa x = nI a) (a8 : a < 8) (hb : ob x = nI b) (b6 : b < 64) {g : Nat} (hc : oc x = nI g) (g8 : g < 8) : qc_Out B (nI mc, nI md, nI cl, nI lc, 1, 0, nI c, nI h, 0, re, oo, oa, ob, oc, lg, hn, (fun zz => nI (s zz)), (fun zz => nI (rs zz)), (fun zz => nI (bd zz)), (fun zz => nI (d zz)), (fun zz => nI (p zz)), (fun zz => nI (n zz)), rg, tg) (nI mc, nI md, 1, 0, nI c, nI h, nI cl, nI lc, oo, oa, ob, oc, lg, hn, (fun zz => nI (d zz)), (fun zz => nI (rs zz)), (fun zz => nI (bd zz)), (fun zz => nI (yr zz)), (fun zz => nI (lv zz)), rg, (fun zz => nI (q zz)), (fun zz => nI (m zz)), tg) := by
  have c5 : c < 5 := I.2.2.1 c List.mem_cons_self
  obtain ⟨h1, hdm, hs1, hlv, hth⟩ := I.2.2.2.2.1
  have hm : md ≤ 6 := K.2.1.2
  have h6 : d c ≤ 6 := by omega
  have h64 : cl ≤ 64 := K.2.2.1
  have hl : lc ≤ 64 := K.2.2.2.1
  have hq : q (c * 6 + d c - 1) = x := (qc_qtop h1 hth).1.trans hp
  have hf : (c * 6 + d c - 1) < 30 := by omega
  have eC : nI ((c * 6 + d c - 1) * 8) + nI g = nI ((c * 6 + d c - 1) * 8 + g) := nI_add _ _
  by_cases hd : d c < md
  · have cd : (fun zz => nI (d zz)) (nI c).toNatClampNeg < nI md := by rw [qc_rd d rfl (by omega)]; exact nI_lt hd (by omega)
    refine .inl ⟨(nI mc, nI md, nI cl, nI lc, 1, 0, nI c, nI h, 0, re, oo, oa, ob, oc, lg, hn, (fun zz => nI (s zz)), (fun zz => nI (rs zz)), (fun zz => nI (bd zz)), (fun zz => nI ((qc_u d c (d c + 1)) zz)), (fun zz => nI ((qc_u (qc_u p (c * 6 + d c - 1) (x + 1)) (c * 6 + d c) b) zz)), (fun zz => nI ((qc_u n (c * 6 + d c) 0) zz)), (qc_pr rg ((c * 6 + d c) * 8) (rg ((c * 6 + d c - 1) * 8 + g))), tg), (nI mc, nI md, 1, 0, nI c, nI h, nI cl, nI lc, oo, oa, ob, oc, lg, hn, (fun zz => nI ((qc_u d c (d c + 1)) zz)), (fun zz => nI (rs zz)), (fun zz => nI (bd zz)), (fun zz => nI (yr zz)), (fun zz => nI (lv zz)), (qc_pr rg ((c * 6 + d c) * 8) (rg ((c * 6 + d c - 1) * 8 + g))), (fun zz => nI ((qc_u (qc_u q (c * 6 + d c - 1) (x + 1)) (c * 6 + d c) b) zz)), (fun zz => nI ((qc_u m (c * 6 + d c) 0) zz)), tg), qc_Rmk (qc_K_up K) (qc_tr_call hm I hd ⟨by omega, by omega, a, a8, ha⟩ (by omega)), fun P hP => ?_, fun P hP => ?_⟩
    · unfold wpX_step; refine qc_xtf _ c5 h1 ?_; refine ⟨vp_in_nI (by omega) (by decide), nm_r ((qc_rd p rfl (by omega)).trans (congrArg nI hp)) (br_t (nI_lt hx (by omega)) (nm_r (qc_m8 _) ⟨vp_in_nI (by omega) (by decide), nm_r ((qc_rr rfl (by omega)).trans ha) ⟨vp_in_nI (by omega) (by decide), nm_r ((qc_rr rfl (by omega)).trans hb) ⟨vp_in_nI (by omega) (by decide), nm_r ((qc_rr rfl (by omega)).trans hc) ⟨vp_in_nI (by omega) (by decide), nm_r (qc_st rfl (nI_1 x) (by omega)) ⟨vp_in_nI (by omega) (by decide), nm_r ((qc_rr rfl (by omega)).trans ho) (br_f (by decide) (br_f (by decide) (br_f (by decide) (br_f (by decide) (br_f (by decide) (br_f (by decide) (br_f (by decide) (br_f (by decide) (br_f (by decide) (br_t rfl ?_))))))))))⟩⟩⟩⟩⟩))⟩
      refine ⟨qc_vi eC (by omega) (by decide), ?_⟩
      rw [qc_rr (f := rg) eC (by omega)]
      exact ⟨vp_in_nI (by omega) (by decide), br_t cd (qc_xpush _ _ c5 (by omega) hP)⟩
    · refine br_f (nI_pos (by omega)) (br_f (nI_nlt (a := 4) (by omega) (by decide)) ⟨vp_in_nI (by omega) (by decide), br_t (by rw [qc_rd d rfl (by omega)]; exact nI_le (a := 1) h1 (by omega)) ⟨vp_in_nI (by omega) (by decide), nm_r ((congrArg (fun z => nI c * 6 + z - 1) (qc_rd d rfl (by omega))).trans (qc_tf h1)) ⟨vp_in_nI (by omega) (by decide), nm_r ((qc_rd q rfl (by omega)).trans (congrArg nI hq)) (br_f (nI_pos (by omega)) (br_t (nI_lt hx (by omega)) ⟨vp_in_nI (by omega) (by decide), nm_r ((qc_rr rfl (by omega)).trans ho) ⟨vp_in_nI (by omega) (by decide), nm_r (congrArg (· &&& 7) ((qc_rr rfl (by omega)).trans ha) |>.trans (qc_a7 a8)) ⟨vp_in_nI (by omega) (by decide), nm_r ((qc_rr rfl (by omega)).trans hb) (nm_e ⟨vp_in_nI (by omega) (by decide), nm_r (congrArg (· &&& 7) ((qc_rr rfl (by omega)).trans hc) |>.trans (qc_a7 g8)) (nm_r (qc_m8 _) (br_f (by decide) (br_f (by decide) (br_f (by decide) (br_f (by decide) (br_f (by decide) (br_f (by decide) (br_f (by decide) (br_t rfl ?_)))))))))⟩)⟩⟩⟩))⟩⟩⟩)
      refine ⟨vp_in_nI (by omega) (by decide), br_t cd ⟨vp_in_nI (by omega) (by decide), nm_r (qc_st rfl (nI_1 x) (by omega)) ⟨qc_vi eC (by omega) (by decide), ?_⟩⟩⟩
      rw [qc_rr (f := rg) eC (by omega)]
      exact qc_ypush _ _ c5 (by omega) hP
  · have cd : ¬ (fun zz => nI (d zz)) (nI c).toNatClampNeg < nI md := by rw [qc_rd d rfl (by omega)]; exact nI_nlt (by omega) (by omega)
    refine .inr ⟨(nI mc, nI md, nI cl, nI lc, 1, 0, nI c, nI h, 1, (-4), oo, oa, ob, oc, lg, hn, (fun zz => nI (s zz)), (fun zz => nI (rs zz)), (fun zz => nI (bd zz)), (fun zz => nI (d zz)), (fun zz => nI ((qc_u p (c * 6 + d c - 1) (x + 1)) zz)), (fun zz => nI (n zz)), rg, tg), (nI mc, nI md, 1, 0, nI c, nI h, nI cl, nI lc, oo, oa, ob, oc, lg, hn, (fun zz => nI (d zz)), (fun zz => nI (rs zz)), (fun zz => nI (bd zz)), (fun zz => nI (yr zz)), (fun zz => nI (lv zz)), rg, (fun zz => nI (q zz)), (fun zz => nI (m zz)), tg), c, -4, qc_Qmk (qc_K_up K) (qc_tr_j hm I), fun P hP => ?_, fun w hw P hP => ?_⟩
    · unfold wpX_step; refine qc_xtf _ c5 h1 ?_; refine ⟨vp_in_nI (by omega) (by decide), nm_r ((qc_rd p rfl (by omega)).trans (congrArg nI hp)) (br_t (nI_lt hx (by omega)) (nm_r (qc_m8 _) ⟨vp_in_nI (by omega) (by decide), nm_r ((qc_rr rfl (by omega)).trans ha) ⟨vp_in_nI (by omega) (by decide), nm_r ((qc_rr rfl (by omega)).trans hb) ⟨vp_in_nI (by omega) (by decide), nm_r ((qc_rr rfl (by omega)).trans hc) ⟨vp_in_nI (by omega) (by decide), nm_r (qc_st rfl (nI_1 x) (by omega)) ⟨vp_in_nI (by omega) (by decide), nm_r ((qc_rr rfl (by omega)).trans ho) (br_f (by decide) (br_f (by decide) (br_f (by decide) (br_f (by decide) (br_f (by decide) (br_f (by decide) (br_f (by decide) (br_f (by decide) (br_f (by decide) (br_t rfl ?_))))))))))⟩⟩⟩⟩⟩))⟩
      exact ⟨qc_vi eC (by omega) (by decide), vp_in_nI (by omega) (by decide), br_f cd hP⟩
    · refine br_f (nI_pos (by omega)) (br_f (nI_nlt (a := 4) (by omega) (by decide)) ⟨vp_in_nI (by omega) (by decide), br_t (by rw [qc_rd d rfl (by omega)]; exact nI_le (a := 1) h1 (by omega)) ⟨vp_in_nI (by omega) (by decide), nm_r ((congrArg (fun z => nI c * 6 + z - 1) (qc_rd d rfl (by omega))).trans (qc_tf h1)) ⟨vp_in_nI (by omega) (by decide), nm_r ((qc_rd q rfl (by omega)).trans (congrArg nI hq)) (br_f (nI_pos (by omega)) (br_t (nI_lt hx (by omega)) ⟨vp_in_nI (by omega) (by decide), nm_r ((qc_rr rfl (by omega)).trans ho) ⟨vp_in_nI (by omega) (by decide), nm_r (congrArg (· &&& 7) ((qc_rr rfl (by omega)).trans ha) |>.trans (qc_a7 a8)) ⟨vp_in_nI (by omega) (by decide), nm_r ((qc_rr rfl (by omega)).trans hb) (nm_e ⟨vp_in_nI (by omega) (by decide), nm_r (congrArg (· &&& 7) ((qc_rr rfl (by omega)).trans hc) |>.trans (qc_a7 g8)) (nm_r (qc_m8 _) (br_f (by decide) (br_f (by decide) (br_f (by decide) (br_f (by decide) (br_f (by decide) (br_f (by decide) (br_f (by decide) (br_t rfl ?_)))))))))⟩)⟩⟩⟩))⟩⟩⟩)
      exact ⟨vp_in_nI (by omega) (by decide), br_f cd (hw _ hP)⟩
theorem qc_o8a (K : qc_K mc md cl lc h B oo oa ob oc lv bd) (I : qc_I mc md oo oa ob d s lv rs yr p q n m (c :: l)) (hp : p (c * 6 + d c - 1) = x) (hx : x < cl) (ho : oo x = 8) (ha : oa x = nI a) (a8 : a < 8) (hd : 1 < d c) : qc_Out B (nI mc, nI md, nI cl, nI lc, 1, 0, nI c, nI h, 0, re, oo, oa, ob, oc, lg, hn, (fun zz => nI (s zz)), (fun zz => nI (rs zz)), (fun zz => nI (bd zz)), (fun zz => nI (d zz)), (fun zz => nI (p zz)), (fun zz => nI (n zz)), rg, tg) (nI mc, nI md, 1, 0, nI c, nI h, nI cl, nI lc, oo, oa, ob, oc, lg, hn, (fun zz => nI (d zz)), (fun zz => nI (rs zz)), (fun zz => nI (bd zz)), (fun zz => nI (yr zz)), (fun zz => nI (lv zz)), rg, (fun zz => nI (q zz)), (fun zz => nI (m zz)), tg) := by
  have c5 : c < 5 := I.2.2.1 c List.mem_cons_self
  obtain ⟨h1, hdm, hs1, hlv, hth⟩ := I.2.2.2.2.1
  have hm : md ≤ 6 := K.2.1.2
  have h6 : d c ≤ 6 := by omega
  have h64 : cl ≤ 64 := K.2.2.1
  have hl : lc ≤ 64 := K.2.2.2.1
  have hq : q (c * 6 + d c - 1) = x := (qc_qtop h1 hth).1.trans hp
  have hf : (c * 6 + d c - 1) < 30 := by omega
  have eA : nI ((c * 6 + d c - 1) * 8) + nI a = nI ((c * 6 + d c - 1) * 8 + a) := nI_add _ _
  obtain ⟨-, hmn, hn4⟩ := qc_qtop h1 hth
  obtain ⟨y0, -, -, -, y3⟩ := hth (d c - 2) (by omega)
  obtain ⟨y1, y64, a', a'8, ha'⟩ := y3 (by omega)
  have G : c * 6 + (d c - 2) = c * 6 + d c - 2 := by omega
  rw [G] at y0 y1 y64 ha'
  have eI : nI (c * 6 + d c - 2) * 8 + oa (nI (p (c * 6 + d c - 2) - 1)).toNatClampNeg = nI ((c * 6 + d c - 2) * 8 + a') := qc_fr8 rfl ((qc_rr rfl (by omega)).trans ha')
  have eJ : nI (c * 6 + d c - 2) * 8 + (oa (nI (p (c * 6 + d c - 2) - 1)).toNatClampNeg &&& 7) = nI ((c * 6 + d c - 2) * 8 + a') := qc_fr8 rfl (by rw [nI_clamp (by omega), ha', qc_a7 a'8])
  have cd : ¬ (fun zz => nI (qc_u d c (d c - 1) zz)) (nI c).toNatClampNeg ≤ 0 := by
    rw [qc_rd (qc_u d c (d c - 1)) rfl (by omega), qc_us]
    exact nI_nle (by omega) (by omega)
  have eF : c * 6 + qc_u d c (d c - 1) c - 1 = c * 6 + d c - 2 := by rw [qc_us]; omega
  refine .inl ⟨(nI mc, nI md, nI cl, nI ((qc_cl tg (c * 6 + d c - 1) (n (c * 6 + d c - 1)) (lg, lc)).2), 1, 0, nI c, nI h, 0, re, oo, oa, ob, oc, (qc_cl tg (c * 6 + d c - 1) (n (c * 6 + d c - 1)) (lg, lc)).1, hn, (fun zz => nI (s zz)), (fun zz => nI (rs zz)), (fun zz => nI (bd zz)), (fun zz => nI ((qc_u d c (d c - 1)) zz)), (fun zz => nI ((qc_u p (c * 6 + d c - 1) (x + 1)) zz)), (fun zz => nI (n zz)), (upd rg ((c * 6 + d c - 2) * 8 + a') (rg ((c * 6 + d c - 1) * 8 + a))), tg), (nI mc, nI md, 1, 0, nI c, nI h, nI cl, nI ((qc_cl tg (c * 6 + d c - 1) (n (c * 6 + d c - 1)) (lg, lc)).2), oo, oa, ob, oc, (qc_cl tg (c * 6 + d c - 1) (n (c * 6 + d c - 1)) (lg, lc)).1, hn, (fun zz => nI ((qc_u d c (d c - 1)) zz)), (fun zz => nI (rs zz)), (fun zz => nI (bd zz)), (fun zz => nI (yr zz)), (fun zz => nI (lv zz)), (upd rg ((c * 6 + d c - 2) * 8 + a') (rg ((c * 6 + d c - 1) * 8 + a))), (fun zz => nI (q zz)), (fun zz => nI ((qc_u m (c * 6 + d c - 1) 0) zz)), tg), qc_Rmk (qc_K_c (qc_K_up K) (qc_cl_le _ _ hl) K.2.2.2.2.2.2.2) (qc_tr_ret1 hm I hd), fun P hP => ?_, fun P hP => ?_⟩
  · unfold wpX_step; refine qc_xtf _ c5 h1 ?_; refine ⟨vp_in_nI (by omega) (by decide), nm_r ((qc_rd p rfl (by omega)).trans (congrArg nI hp)) (br_t (nI_lt hx (by omega)) (nm_r (qc_m8 _) ⟨vp_in_nI (by omega) (by decide), nm_r ((qc_rr rfl (by omega)).trans ha) ⟨vp_in_nI (by omega) (by decide), nm_r ((qc_rr rfl (by omega))) ⟨vp_in_nI (by omega) (by decide), nm_r ((qc_rr rfl (by omega))) ⟨vp_in_nI (by omega) (by decide), nm_r (qc_st rfl (nI_1 x) (by omega)) ⟨vp_in_nI (by omega) (by decide), nm_r ((qc_rr rfl (by omega)).trans ho) (br_f (by decide) (br_f (by decide) (br_f (by decide) (br_f (by decide) (br_f (by decide) (br_f (by decide) (br_f (by decide) (br_f (by decide) (br_f (by decide) (br_f (by decide) (br_t rfl ?_)))))))))))⟩⟩⟩⟩⟩))⟩
    refine ⟨qc_vi eA (by omega) (by decide), ?_⟩
    rw [qc_rr (f := rg) eA (by omega)]
    unfold wpX_leaveFunction
    refine qc_xpop _ c5 h1 h6 hn4 hl ?_
    refine ⟨vp_in_nI (by omega) (by decide), br_f cd ?_⟩
    refine qc_xtf (d := qc_u d c (d c - 1)) _ c5 (by rw [qc_us]; omega) ?_
    rw [eF]
    exact ⟨vp_in_nI (by omega) (by decide), nm_r (qc_de1 ((qc_rd (qc_u p (c * 6 + d c - 1) (x + 1)) rfl (by omega)).trans (congrArg nI (qc_uo (by omega)))) y1) ⟨vp_in_nI (by omega) (by decide), qc_vi eI (by omega) (by decide), nm_r (qc_sr eI (by omega) rfl) hP⟩⟩
  · refine br_f (nI_pos (by omega)) (br_f (nI_nlt (a := 4) (by omega) (by decide)) ⟨vp_in_nI (by omega) (by decide), br_t (by rw [qc_rd d rfl (by omega)]; exact nI_le (a := 1) h1 (by omega)) ⟨vp_in_nI (by omega) (by decide), nm_r ((congrArg (fun z => nI c * 6 + z - 1) (qc_rd d rfl (by omega))).trans (qc_tf h1)) ⟨vp_in_nI (by omega) (by decide), nm_r ((qc_rd q rfl (by omega)).trans (congrArg nI hq)) (br_f (nI_pos (by omega)) (br_t (nI_lt hx (by omega)) ⟨vp_in_nI (by omega) (by decide), nm_r ((qc_rr rfl (by omega)).trans ho) ⟨vp_in_nI (by omega) (by decide), nm_r (congrArg (· &&& 7) ((qc_rr rfl (by omega)).trans ha) |>.trans (qc_a7 a8)) ⟨vp_in_nI (by omega) (by decide), nm_r ((qc_rr rfl (by omega))) (nm_e ⟨vp_in_nI (by omega) (by decide), nm_e (nm_r (qc_m8 _) (br_f (by decide) (br_f (by decide) (br_f (by decide) (br_f (by decide) (br_f (by decide) (br_f (by decide) (br_f (by decide) (br_f (by decide) (br_t rfl ?_))))))))))⟩)⟩⟩⟩))⟩⟩⟩)
    refine ⟨qc_vi eA (by omega) (by decide), nm_r (qc_rr eA (by omega)) ?_⟩
    refine qc_ypc _ hf (by omega) hl ?_
    rw [hmn]
    exact ⟨vp_in_nI (by omega) (by decide), vp_in_nI (by omega) (by decide), nm_r (qc_st rfl (qc_de1 (qc_rd d rfl (by omega)) h1) (by omega)) ⟨vp_in_nI (by omega) (by decide), br_f cd (nm_r ((qc_s1 (by omega)).trans (congrArg nI (show (c * 6 + d c - 1) - 1 = c * 6 + d c - 2 by omega))) ⟨vp_in_nI (by omega) (by decide), nm_r (qc_de1 ((qc_rd q rfl (by omega)).trans (congrArg nI y0)) y1) (br_f (nI_pos (by omega)) (br_f (nI_ge (b := 64) (by omega) (by decide)) ⟨vp_in_nI (by omega) (by decide), qc_vi eJ (by omega) (by decide), nm_r (qc_sr eJ (by omega) rfl) hP⟩))⟩)⟩⟩
theorem qc_tr_ret4 (hm : md ≤ 6) (I : qc_I mc md oo oa ob d s lv rs yr p q n m [c]) (h0 : lv 0 = 0) (hd : d c = 1) :
    qc_I mc md oo oa ob (qc_u d c (d c - 1)) (qc_u s c 3) lv rs yr (qc_u p (c * 6 + d c - 1) x) q n (qc_u m (c * 6 + d c - 1) 0) [] := by
  have c0 : c = 0 := I.1
  subst c0
  exact qc_tr_ret3 hm I h0 hd
theorem qc_o8b (K : qc_K mc md cl lc h B oo oa ob oc lv bd) (I : qc_I mc md oo oa ob d s lv rs yr p q n m (c :: l)) (hp : p (c * 6 + d c - 1) = x) (hx : x < cl) (ho : oo x = 8) (ha : oa x = nI a) (a8 : a < 8) (hd : d c = 1) (c0 : c = 0) : qc_Out B (nI mc, nI md, nI cl, nI lc, 1, 0, nI c, nI h, 0, re, oo, oa, ob, oc, lg, hn, (fun zz => nI (s zz)), (fun zz => nI (rs zz)), (fun zz => nI (bd zz)), (fun zz => nI (d zz)), (fun zz => nI (p zz)), (fun zz => nI (n zz)), rg, tg) (nI mc, nI md, 1, 0, nI c, nI h, nI cl, nI lc, oo, oa, ob, oc, lg, hn, (fun zz => nI (d zz)), (fun zz => nI (rs zz)), (fun zz => nI (bd zz)), (fun zz => nI (yr zz)), (fun zz => nI (lv zz)), rg, (fun zz => nI (q zz)), (fun zz => nI (m zz)), tg) := by
  have c5 : c < 5 := I.2.2.1 c List.mem_cons_self
  obtain ⟨h1, hdm, hs1, hlv, hth⟩ := I.2.2.2.2.1
  have hm : md ≤ 6 := K.2.1.2
  have h6 : d c ≤ 6 := by omega
  have h64 : cl ≤ 64 := K.2.2.1
  have hl : lc ≤ 64 := K.2.2.2.1
  have hq : q (c * 6 + d c - 1) = x := (qc_qtop h1 hth).1.trans hp
  have hf : (c * 6 + d c - 1) < 30 := by omega
  have l0 : l = [] := by
    have := I.1
    rw [c0] at this
    exact qc_Lk_2 this
  subst l0
  have z0 : nI c = 0 := by rw [c0]; rfl
  have eA : nI ((c * 6 + d c - 1) * 8) + nI a = nI ((c * 6 + d c - 1) * 8 + a) := nI_add _ _
  obtain ⟨-, hmn, hn4⟩ := qc_qtop h1 hth
  have cd : (fun zz => nI (qc_u d c (d c - 1) zz)) (nI c).toNatClampNeg ≤ 0 := by
    rw [qc_rd (qc_u d c (d c - 1)) rfl (by omega), qc_us, hd]
    decide
  refine .inl ⟨(nI mc, nI md, nI cl, nI ((qc_cl tg (c * 6 + d c - 1) (n (c * 6 + d c - 1)) (lg, lc)).2), 2, (rg ((c * 6 + d c - 1) * 8 + a)), nI c, nI h, 0, re, oo, oa, ob, oc, (qc_cl tg (c * 6 + d c - 1) (n (c * 6 + d c - 1)) (lg, lc)).1, hn, (fun zz => nI ((qc_u s c 3) zz)), (fun zz => nI (rs zz)), (fun zz => nI (bd zz)), (fun zz => nI ((qc_u d c (d c - 1)) zz)), (fun zz => nI ((qc_u p (c * 6 + d c - 1) (x + 1)) zz)), (fun zz => nI (n zz)), rg, tg), (nI mc, nI md, 2, (rg ((c * 6 + d c - 1) * 8 + a)), (-1), nI h, nI cl, nI ((qc_cl tg (c * 6 + d c - 1) (n (c * 6 + d c - 1)) (lg, lc)).2), oo, oa, ob, oc, (qc_cl tg (c * 6 + d c - 1) (n (c * 6 + d c - 1)) (lg, lc)).1, hn, (fun zz => nI ((qc_u d c (d c - 1)) zz)), (fun zz => nI (rs zz)), (fun zz => nI (bd zz)), (fun zz => nI (yr zz)), (fun zz => nI (lv zz)), rg, (fun zz => nI (q zz)), (fun zz => nI ((qc_u m (c * 6 + d c - 1) 0) zz)), tg), ?_, fun P hP => ?_, fun P hP => ?_⟩
  · exact ⟨_, _, _, _, _, _, _, _, _, _, _, _, _, _, _, _, _, _, _, _, _, _, _, _, _, _, _, [], rfl, rfl, qc_K_c (qc_K_up K) (qc_cl_le _ _ hl) K.2.2.2.2.2.2.2, .inr (.inr ⟨.inl rfl, rfl⟩), ⟨fun c l z => (nomatch z), fun z => absurd z (by decide)⟩, qc_tr_ret4 hm I K.2.2.2.2.2.2.2 hd⟩
  · unfold wpX_step; refine qc_xtf _ c5 h1 ?_; refine ⟨vp_in_nI (by omega) (by decide), nm_r ((qc_rd p rfl (by omega)).trans (congrArg nI hp)) (br_t (nI_lt hx (by omega)) (nm_r (qc_m8 _) ⟨vp_in_nI (by omega) (by decide), nm_r ((qc_rr rfl (by omega)).trans ha) ⟨vp_in_nI (by omega) (by decide), nm_r ((qc_rr rfl (by omega))) ⟨vp_in_nI (by omega) (by decide), nm_r ((qc_rr rfl (by omega))) ⟨vp_in_nI (by omega) (by decide), nm_r (qc_st rfl (nI_1 x) (by omega)) ⟨vp_in_nI (by omega) (by decide), nm_r ((qc_rr rfl (by omega)).trans ho) (br_f (by decide) (br_f (by decide) (br_f (by decide) (br_f (by decide) (br_f (by decide) (br_f (by decide) (br_f (by decide) (br_f (by decide) (br_f (by decide) (br_f (by decide) (br_t rfl ?_)))))))))))⟩⟩⟩⟩⟩))⟩
    refine ⟨qc_vi eA (by omega) (by decide), ?_⟩
    rw [qc_rr (f := rg) eA (by omega)]
    unfold wpX_leaveFunction
    refine qc_xpop _ c5 h1 h6 hn4 hl ?_
    exact ⟨vp_in_nI (by omega) (by decide), br_t cd (br_t z0 (nm_r ((qc_uI _ 0 3).trans (by rw [c0])) hP))⟩
  · refine br_f (nI_pos (by omega)) (br_f (nI_nlt (a := 4) (by omega) (by decide)) ⟨vp_in_nI (by omega) (by decide), br_t (by rw [qc_rd d rfl (by omega)]; exact nI_le (a := 1) h1 (by omega)) ⟨vp_in_nI (by omega) (by decide), nm_r ((congrArg (fun z => nI c * 6 + z - 1) (qc_rd d rfl (by omega))).trans (qc_tf h1)) ⟨vp_in_nI (by omega) (by decide), nm_r ((qc_rd q rfl (by omega)).trans (congrArg nI hq)) (br_f (nI_pos (by omega)) (br_t (nI_lt hx (by omega)) ⟨vp_in_nI (by omega) (by decide), nm_r ((qc_rr rfl (by omega)).trans ho) ⟨vp_in_nI (by omega) (by decide), nm_r (congrArg (· &&& 7) ((qc_rr rfl (by omega)).trans ha) |>.trans (qc_a7 a8)) ⟨vp_in_nI (by omega) (by decide), nm_r ((qc_rr rfl (by omega))) (nm_e ⟨vp_in_nI (by omega) (by decide), nm_e (nm_r (qc_m8 _) (br_f (by decide) (br_f (by decide) (br_f (by decide) (br_f (by decide) (br_f (by decide) (br_f (by decide) (br_f (by decide) (br_f (by decide) (br_t rfl ?_))))))))))⟩)⟩⟩⟩))⟩⟩⟩)
    refine ⟨qc_vi eA (by omega) (by decide), nm_r (qc_rr eA (by omega)) ?_⟩
    refine qc_ypc _ hf (by omega) hl ?_
    rw [hmn]
    exact ⟨vp_in_nI (by omega) (by decide), vp_in_nI (by omega) (by decide), nm_r (qc_st rfl (qc_de1 (qc_rd d rfl (by omega)) h1) (by omega)) ⟨vp_in_nI (by omega) (by decide), br_t cd (br_t z0 hP)⟩⟩
theorem qc_o8c (K : qc_K mc md cl lc h B oo oa ob oc lv bd) (I : qc_I mc md oo oa ob d s lv rs yr p q n m (c :: l)) (hp : p (c * 6 + d c - 1) = x) (hx : x < cl) (ho : oo x = 8) (ha : oa x = nI a) (a8 : a < 8) (hd : d c = 1) (c0 : c ≠ 0) : qc_Out B (nI mc, nI md, nI cl, nI lc, 1, 0, nI c, nI h, 0, re, oo, oa, ob, oc, lg, hn, (fun zz => nI (s zz)), (fun zz => nI (rs zz)), (fun zz => nI (bd zz)), (fun zz => nI (d zz)), (fun zz => nI (p zz)), (fun zz => nI (n zz)), rg, tg) (nI mc, nI md, 1, 0, nI c, nI h, nI cl, nI lc, oo, oa, ob, oc, lg, hn, (fun zz => nI (d zz)), (fun zz => nI (rs zz)), (fun zz => nI (bd zz)), (fun zz => nI (yr zz)), (fun zz => nI (lv zz)), rg, (fun zz => nI (q zz)), (fun zz => nI (m zz)), tg) := by
  have c5 : c < 5 := I.2.2.1 c List.mem_cons_self
  obtain ⟨h1, hdm, hs1, hlv, hth⟩ := I.2.2.2.2.1
  have hm : md ≤ 6 := K.2.1.2
  have h6 : d c ≤ 6 := by omega
  have h64 : cl ≤ 64 := K.2.2.1
  have hl : lc ≤ 64 := K.2.2.2.1
  have hq : q (c * 6 + d c - 1) = x := (qc_qtop h1 hth).1.trans hp
  have hf : (c * 6 + d c - 1) < 30 := by omega
  obtain ⟨r, l', rfl, hrs⟩ := qc_Lk_1 I.1 c0
  have eA : nI ((c * 6 + d c - 1) * 8) + nI a = nI ((c * 6 + d c - 1) * 8 + a) := nI_add _ _
  obtain ⟨-, hmn, hn4⟩ := qc_qtop h1 hth
  have cd : (fun zz => nI (qc_u d c (d c - 1) zz)) (nI c).toNatClampNeg ≤ 0 := by
    rw [qc_rd (qc_u d c (d c - 1)) rfl (by omega), qc_us, hd]
    decide
  have r5 : r < 5 := I.2.2.1 r (List.mem_cons_of_mem _ List.mem_cons_self)
  have hN := I.2.2.2.2.2.1 r List.mem_cons_self
  have hc : c ∉ r :: l' := (List.nodup_cons.mp I.2.1).1
  have hrc : r ≠ c := fun z => hc (by rw [z]; exact List.mem_cons_self)
  have er : qc_u d c (d c - 1) r = d r := qc_uo hrc
  obtain ⟨N1, N2, N3, N4, N5, ⟨y1, y64, a', a'8, ha'⟩, No⟩ := hN
  have hq' := (qc_qtop N1 N5).1
  have hp2 : qc_u p (c * 6 + d c - 1) (x + 1) (r * 6 + qc_u d c (d c - 1) r - 1) = p (r * 6 + d r - 1) := by rw [er]; exact qc_uo (by omega)
  have hq2 : q (r * 6 + qc_u d c (d c - 1) r - 1) = p (r * 6 + d r - 1) := by rw [er]; exact hq'
  have I' := qc_tr_ret2 (x := x + 1) hm I hd
  have z0 : ¬ nI c = 0 := fun z => c0 ((nI_eq (b := 0) (by omega) (by omega)).mp z)
  have K' : qc_K mc md cl (qc_cl tg (c * 6 + d c - 1) (n (c * 6 + d c - 1)) (lg, lc)).2 h (B + 1) oo oa ob oc (qc_u lv c 0) bd := qc_K_c (qc_K_up K) (qc_cl_le _ _ hl) (by rw [qc_uo (by omega)]; exact K.2.2.2.2.2.2.2)
  have yy : ∀ P : SY → Prop,
      ((oo (p (r * 6 + d r - 1) - 1) = 13 → P (nI mc, nI md, 1, 0, nI r, nI h, nI cl, nI ((qc_cl tg (c * 6 + d c - 1) (n (c * 6 + d c - 1)) (lg, lc)).2), oo, oa, ob, oc, (qc_cl tg (c * 6 + d c - 1) (n (c * 6 + d c - 1)) (lg, lc)).1, hn, (fun zz => nI ((qc_u d c (d c - 1)) zz)), (fun zz => nI (rs zz)), (fun zz => nI (bd zz)), (fun zz => nI (yr zz)), (fun zz => nI ((qc_u lv c 0) zz)), (upd (upd rg ((r * 6 + qc_u d c (d c - 1) r - 1) * 8 + a') (rg ((c * 6 + d c - 1) * 8 + a))) ((r * 6 + qc_u d c (d c - 1) r - 1) * 8 + (a' + 1) % 8) 1), (fun zz => nI (q zz)), (fun zz => nI ((qc_u m (c * 6 + d c - 1) 0) zz)), tg)) ∧
       (¬ oo (p (r * 6 + d r - 1) - 1) = 13 → P (nI mc, nI md, 1, 0, nI r, nI h, nI cl, nI ((qc_cl tg (c * 6 + d c - 1) (n (c * 6 + d c - 1)) (lg, lc)).2), oo, oa, ob, oc, (qc_cl tg (c * 6 + d c - 1) (n (c * 6 + d c - 1)) (lg, lc)).1, hn, (fun zz => nI ((qc_u d c (d c - 1)) zz)), (fun zz => nI (rs zz)), (fun zz => nI (bd zz)), (fun zz => nI (yr zz)), (fun zz => nI ((qc_u lv c 0) zz)), (upd rg ((r * 6 + qc_u d c (d c - 1) r - 1) * 8 + a') (rg ((c * 6 + d c - 1) * 8 + a))), (fun zz => nI (q zz)), (fun zz => nI ((qc_u m (c * 6 + d c - 1) 0) zz)), tg))) → wpY_step P (nI mc, nI md, 1, 0, nI c, nI h, nI cl, nI lc, oo, oa, ob, oc, lg, hn, (fun zz => nI (d zz)), (fun zz => nI (rs zz)), (fun zz => nI (bd zz)), (fun zz => nI (yr zz)), (fun zz => nI (lv zz)), rg, (fun zz => nI (q zz)), (fun zz => nI (m zz)), tg) := by
    intro P H
    refine br_f (nI_pos (by omega)) (br_f (nI_nlt (a := 4) (by omega) (by decide)) ⟨vp_in_nI (by omega) (by decide), br_t (by rw [qc_rd d rfl (by omega)]; exact nI_le (a := 1) h1 (by omega)) ⟨vp_in_nI (by omega) (by decide), nm_r ((congrArg (fun z => nI c * 6 + z - 1) (qc_rd d rfl (by omega))).trans (qc_tf h1)) ⟨vp_in_nI (by omega) (by decide), nm_r ((qc_rd q rfl (by omega)).trans (congrArg nI hq)) (br_f (nI_pos (by omega)) (br_t (nI_lt hx (by omega)) ⟨vp_in_nI (by omega) (by decide), nm_r ((qc_rr rfl (by omega)).trans ho) ⟨vp_in_nI (by omega) (by decide), nm_r (congrArg (· &&& 7) ((qc_rr rfl (by omega)).trans ha) |>.trans (qc_a7 a8)) ⟨vp_in_nI (by omega) (by decide), nm_r ((qc_rr rfl (by omega))) (nm_e ⟨vp_in_nI (by omega) (by decide), nm_e (nm_r (qc_m8 _) (br_f (by decide) (br_f (by decide) (br_f (by decide) (br_f (by decide) (br_f (by decide) (br_f (by decide) (br_f (by decide) (br_f (by decide) (br_t rfl ?_))))))))))⟩)⟩⟩⟩))⟩⟩⟩)
    refine ⟨qc_vi eA (by omega) (by decide), nm_r (qc_rr eA (by omega)) ?_⟩
    refine qc_ypc _ hf (by omega) hl ?_
    rw [hmn]
    refine ⟨vp_in_nI (by omega) (by decide), vp_in_nI (by omega) (by decide), nm_r (qc_st rfl (qc_de1 (qc_rd d rfl (by omega)) h1) (by omega)) ⟨vp_in_nI (by omega) (by decide), br_t cd (br_f z0 ⟨vp_in_nI (by omega) (by decide), nm_r (qc_st rfl qc_nb0 (by omega)) ⟨vp_in_nI (by omega) (by decide), ?_⟩⟩)⟩⟩
    rw [qc_rd rs rfl (by omega), hrs]
    exact qc_ycs _ r5 (by rw [er]; exact N1) (by rw [er]; omega) hq2 y1 y64 ha' a'8 _ H
  rcases No with No | No
  · refine .inl ⟨(nI mc, nI md, nI cl, nI ((qc_cl tg (c * 6 + d c - 1) (n (c * 6 + d c - 1)) (lg, lc)).2), 1, 0, nI r, nI h, 0, re, oo, oa, ob, oc, (qc_cl tg (c * 6 + d c - 1) (n (c * 6 + d c - 1)) (lg, lc)).1, hn, (fun zz => nI ((qc_u (qc_u s c 3) r 1) zz)), (fun zz => nI (rs zz)), (fun zz => nI (bd zz)), (fun zz => nI ((qc_u d c (d c - 1)) zz)), (fun zz => nI ((qc_u p (c * 6 + d c - 1) (x + 1)) zz)), (fun zz => nI (n zz)), (upd (upd rg ((r * 6 + qc_u d c (d c - 1) r - 1) * 8 + a') (rg ((c * 6 + d c - 1) * 8 + a))) ((r * 6 + qc_u d c (d c - 1) r - 1) * 8 + (a' + 1) % 8) 1), tg), (nI mc, nI md, 1, 0, nI r, nI h, nI cl, nI ((qc_cl tg (c * 6 + d c - 1) (n (c * 6 + d c - 1)) (lg, lc)).2), oo, oa, ob, oc, (qc_cl tg (c * 6 + d c - 1) (n (c * 6 + d c - 1)) (lg, lc)).1, hn, (fun zz => nI ((qc_u d c (d c - 1)) zz)), (fun zz => nI (rs zz)), (fun zz => nI (bd zz)), (fun zz => nI (yr zz)), (fun zz => nI ((qc_u lv c 0) zz)), (upd (upd rg ((r * 6 + qc_u d c (d c - 1) r - 1) * 8 + a') (rg ((c * 6 + d c - 1) * 8 + a))) ((r * 6 + qc_u d c (d c - 1) r - 1) * 8 + (a' + 1) % 8) 1), (fun zz => nI (q zz)), (fun zz => nI ((qc_u m (c * 6 + d c - 1) 0) zz)), tg), qc_Rmk K' I', fun P hP => ?_, fun P hP => yy P ⟨fun _ => hP, fun z => absurd No z⟩⟩
    unfold wpX_step; refine qc_xtf _ c5 h1 ?_; refine ⟨vp_in_nI (by omega) (by decide), nm_r ((qc_rd p rfl (by omega)).trans (congrArg nI hp)) (br_t (nI_lt hx (by omega)) (nm_r (qc_m8 _) ⟨vp_in_nI (by omega) (by decide), nm_r ((qc_rr rfl (by omega)).trans ha) ⟨vp_in_nI (by omega) (by decide), nm_r ((qc_rr rfl (by omega))) ⟨vp_in_nI (by omega) (by decide), nm_r ((qc_rr rfl (by omega))) ⟨vp_in_nI (by omega) (by decide), nm_r (qc_st rfl (nI_1 x) (by omega)) ⟨vp_in_nI (by omega) (by decide), nm_r ((qc_rr rfl (by omega)).trans ho) (br_f (by decide) (br_f (by decide) (br_f (by decide) (br_f (by decide) (br_f (by decide) (br_f (by decide) (br_f (by decide) (br_f (by decide) (br_f (by decide) (br_f (by decide) (br_t rfl ?_)))))))))))⟩⟩⟩⟩⟩))⟩
    refine ⟨qc_vi eA (by omega) (by decide), ?_⟩
    rw [qc_rr (f := rg) eA (by omega)]
    unfold wpX_leaveFunction
    refine qc_xpop _ c5 h1 h6 hn4 hl ?_
    refine ⟨vp_in_nI (by omega) (by decide), br_t cd (br_f z0 ⟨vp_in_nI (by omega) (by decide), nm_r (qc_st (x := 3) rfl rfl (by omega)) ⟨vp_in_nI (by omega) (by decide), ?_⟩⟩)⟩
    rw [qc_rd rs rfl (by omega), hrs]
    exact qc_xc13 _ r5 (by rw [er]; exact N1) (by rw [er]; omega) hp2 y1 y64 ha' a'8 No _ _ 1 (fun z => absurd z (by decide)) (fun _ => rfl) hP
  · refine .inl ⟨(nI mc, nI md, nI cl, nI ((qc_cl tg (c * 6 + d c - 1) (n (c * 6 + d c - 1)) (lg, lc)).2), 1, 0, nI r, nI h, 0, re, oo, oa, ob, oc, (qc_cl tg (c * 6 + d c - 1) (n (c * 6 + d c - 1)) (lg, lc)).1, hn, (fun zz => nI ((qc_u (qc_u s c 3) r 1) zz)), (fun zz => nI (rs zz)), (fun zz => nI (bd zz)), (fun zz => nI ((qc_u d c (d c - 1)) zz)), (fun zz => nI ((qc_u p (c * 6 + d c - 1) (x + 1)) zz)), (fun zz => nI (n zz)), (upd rg ((r * 6 + qc_u d c (d c - 1) r - 1) * 8 + a') (rg ((c * 6 + d c - 1) * 8 + a))), tg), (nI mc, nI md, 1, 0, nI r, nI h, nI cl, nI ((qc_cl tg (c * 6 + d c - 1) (n (c * 6 + d c - 1)) (lg, lc)).2), oo, oa, ob, oc, (qc_cl tg (c * 6 + d c - 1) (n (c * 6 + d c - 1)) (lg, lc)).1, hn, (fun zz => nI ((qc_u d c (d c - 1)) zz)), (fun zz => nI (rs zz)), (fun zz => nI (bd zz)), (fun zz => nI (yr zz)), (fun zz => nI ((qc_u lv c 0) zz)), (upd rg ((r * 6 + qc_u d c (d c - 1) r - 1) * 8 + a') (rg ((c * 6 + d c - 1) * 8 + a))), (fun zz => nI (q zz)), (fun zz => nI ((qc_u m (c * 6 + d c - 1) 0) zz)), tg), qc_Rmk K' I', fun P hP => ?_, fun P hP => yy P ⟨fun z => absurd (No.symm.trans z) (by decide), fun _ => hP⟩⟩
    unfold wpX_step; refine qc_xtf _ c5 h1 ?_; refine ⟨vp_in_nI (by omega) (by decide), nm_r ((qc_rd p rfl (by omega)).trans (congrArg nI hp)) (br_t (nI_lt hx (by omega)) (nm_r (qc_m8 _) ⟨vp_in_nI (by omega) (by decide), nm_r ((qc_rr rfl (by omega)).trans ha) ⟨vp_in_nI (by omega) (by decide), nm_r ((qc_rr rfl (by omega))) ⟨vp_in_nI (by omega) (by decide), nm_r ((qc_rr rfl (by omega))) ⟨vp_in_nI (by omega) (by decide), nm_r (qc_st rfl (nI_1 x) (by omega)) ⟨vp_in_nI (by omega) (by decide), nm_r ((qc_rr rfl (by omega)).trans ho) (br_f (by decide) (br_f (by decide) (br_f (by decide) (br_f (by decide) (br_f (by decide) (br_f (by decide) (br_f (by decide) (br_f (by decide) (br_f (by decide) (br_f (by decide) (br_t rfl ?_)))))))))))⟩⟩⟩⟩⟩))⟩
    refine ⟨qc_vi eA (by omega) (by decide), ?_⟩
    rw [qc_rr (f := rg) eA (by omega)]
    unfold wpX_leaveFunction
    refine qc_xpop _ c5 h1 h6 hn4 hl ?_
    refine ⟨vp_in_nI (by omega) (by decide), br_t cd (br_f z0 ⟨vp_in_nI (by omega) (by decide), nm_r (qc_st (x := 3) rfl rfl (by omega)) ⟨vp_in_nI (by omega) (by decide), ?_⟩⟩)⟩
    rw [qc_rd rs rfl (by omega), hrs]
    exact qc_xc14 _ r5 (by rw [er]; exact N1) (by rw [er]; omega) hp2 y1 y64 ha' a'8 No _ _ (by decide) hP
theorem qc_o8 (K : qc_K mc md cl lc h B oo oa ob oc lv bd) (I : qc_I mc md oo oa ob d s lv rs yr p q n m (c :: l)) (hp : p (c * 6 + d c - 1) = x) (hx : x < cl) (ho : oo x = 8) (ha : oa x = nI a) (a8 : a < 8) : qc_Out B (nI mc, nI md, nI cl, nI lc, 1, 0, nI c, nI h, 0, re, oo, oa, ob, oc, lg, hn, (fun zz => nI (s zz)), (fun zz => nI (rs zz)), (fun zz => nI (bd zz)), (fun zz => nI (d zz)), (fun zz => nI (p zz)), (fun zz => nI (n zz)), rg, tg) (nI mc, nI md, 1, 0, nI c, nI h, nI cl, nI lc, oo, oa, ob, oc, lg, hn, (fun zz => nI (d zz)), (fun zz => nI (rs zz)), (fun zz => nI (bd zz)), (fun zz => nI (yr zz)), (fun zz => nI (lv zz)), rg, (fun zz => nI (q zz)), (fun zz => nI (m zz)), tg) := by
  by_cases hd : 1 < d c
  · exact qc_o8a K I hp hx ho ha a8 hd
  · have hd' : d c = 1 := by have := I.2.2.2.2.1.1; omega
    by_cases c0 : c = 0
    · exact qc_o8b K I hp hx ho ha a8 hd' c0
    · exact qc_o8c K I hp hx ho ha a8 hd' c0
theorem qc_o10 (K : qc_K mc md cl lc h B oo oa ob oc lv bd) (I : qc_I mc md oo oa ob d s lv rs yr p q n m (c :: l)) (hp : p (c * 6 + d c - 1) = x) (hx : x < cl) (ho : oo x = 10) (ha : oa x = nI a) (a8 : a < 8) : qc_Out B (nI mc, nI md, nI cl, nI lc, 1, 0, nI c, nI h, 0, re, oo, oa, ob, oc, lg, hn, (fun zz => nI (s zz)), (fun zz => nI (rs zz)), (fun zz => nI (bd zz)), (fun zz => nI (d zz)), (fun zz => nI (p zz)), (fun zz => nI (n zz)), rg, tg) (nI mc, nI md, 1, 0, nI c, nI h, nI cl, nI lc, oo, oa, ob, oc, lg, hn, (fun zz => nI (d zz)), (fun zz => nI (rs zz)), (fun zz => nI (bd zz)), (fun zz => nI (yr zz)), (fun zz => nI (lv zz)), rg, (fun zz => nI (q zz)), (fun zz => nI (m zz)), tg) := by
  have c5 : c < 5 := I.2.2.1 c List.mem_cons_self
  obtain ⟨h1, hdm, hs1, hlv, hth⟩ := I.2.2.2.2.1
  have hm : md ≤ 6 := K.2.1.2
  have h6 : d c ≤ 6 := by omega
  have h64 : cl ≤ 64 := K.2.2.1
  have hl : lc ≤ 64 := K.2.2.2.1
  have hq : q (c * 6 + d c - 1) = x := (qc_qtop h1 hth).1.trans hp
  have hf : (c * 6 + d c - 1) < 30 := by omega
  have eA : nI ((c * 6 + d c - 1) * 8) + nI a = nI ((c * 6 + d c - 1) * 8 + a) := nI_add _ _
  obtain ⟨-, hmn, hn4⟩ := qc_qtop h1 hth
  have rn : (fun zz => nI (n zz)) (nI (c * 6 + d c - 1)).toNatClampNeg = nI (n (c * 6 + d c - 1)) := qc_rd n rfl (by omega)
  have rm : (fun zz => nI (m zz)) (nI (c * 6 + d c - 1)).toNatClampNeg = nI (n (c * 6 + d c - 1)) := (qc_rd m rfl (by omega)).trans (congrArg nI hmn)
  by_cases z : n (c * 6 + d c - 1) < 4
  · have e4 : nI (c * 6 + d c - 1) * 4 + (fun zz => nI (n zz)) (nI (c * 6 + d c - 1)).toNatClampNeg = nI ((c * 6 + d c - 1) * 4 + n (c * 6 + d c - 1)) := qc_fr4 rfl rn
    have e5 : nI (c * 6 + d c - 1) * 4 + (fun zz => nI (m zz)) (nI (c * 6 + d c - 1)).toNatClampNeg = nI ((c * 6 + d c - 1) * 4 + n (c * 6 + d c - 1)) := qc_fr4 rfl rm
    refine .inl ⟨(nI mc, nI md, nI cl, nI lc, 1, 0, nI c, nI h, 0, re, oo, oa, ob, oc, lg, hn, (fun zz => nI (s zz)), (fun zz => nI (rs zz)), (fun zz => nI (bd zz)), (fun zz => nI (d zz)), (fun zz => nI ((qc_u p (c * 6 + d c - 1) (x + 1)) zz)), (fun zz => nI ((qc_u n (c * 6 + d c - 1) (n (c * 6 + d c - 1) + 1)) zz)), rg, (upd tg ((c * 6 + d c - 1) * 4 + n (c * 6 + d c - 1)) (rg ((c * 6 + d c - 1) * 8 + a)))), (nI mc, nI md, 1, 0, nI c, nI h, nI cl, nI lc, oo, oa, ob, oc, lg, hn, (fun zz => nI (d zz)), (fun zz => nI (rs zz)), (fun zz => nI (bd zz)), (fun zz => nI (yr zz)), (fun zz => nI (lv zz)), rg, (fun zz => nI ((qc_u q (c * 6 + d c - 1) (x + 1)) zz)), (fun zz => nI ((qc_u m (c * 6 + d c - 1) (n (c * 6 + d c - 1) + 1)) zz)), (upd tg ((c * 6 + d c - 1) * 4 + n (c * 6 + d c - 1)) (rg ((c * 6 + d c - 1) * 8 + a)))), qc_Rmk (qc_K_up K) (qc_tr_defer hm (qc_tr_pc hm I (by omega)) (by omega)), fun P hP => ?_, fun P hP => ?_⟩
    · unfold wpX_step; refine qc_xtf _ c5 h1 ?_; refine ⟨vp_in_nI (by omega) (by decide), nm_r ((qc_rd p rfl (by omega)).trans (congrArg nI hp)) (br_t (nI_lt hx (by omega)) (nm_r (qc_m8 _) ⟨vp_in_nI (by omega) (by decide), nm_r ((qc_rr rfl (by omega)).trans ha) ⟨vp_in_nI (by omega) (by decide), nm_r ((qc_rr rfl (by omega))) ⟨vp_in_nI (by omega) (by decide), nm_r ((qc_rr rfl (by omega))) ⟨vp_in_nI (by omega) (by decide), nm_r (qc_st rfl (nI_1 x) (by omega)) ⟨vp_in_nI (by omega) (by decide), nm_r ((qc_rr rfl (by omega)).trans ho) (br_f (by decide) (br_f (by decide) (br_f (by decide) (br_f (by decide) (br_f (by decide) (br_f (by decide) (br_f (by decide) (br_f (by decide) (br_f (by decide) (br_f (by decide) (br_f (by decide) (br_f (by decide) (br_t rfl ?_)))))))))))))⟩⟩⟩⟩⟩))⟩
      refine ⟨qc_vi eA (by omega) (by decide), ?_⟩
      rw [qc_rr (f := rg) eA (by omega)]
      exact ⟨vp_in_nI (by omega) (by decide), br_t (by rw [rn]; exact nI_lt (b := 4) z (by decide)) ⟨vp_in_nI (by omega) (by decide), qc_vi e4 (by omega) (by decide), nm_r (qc_sr e4 (by omega) rfl) ⟨vp_in_nI (by omega) (by decide), vp_in_nI (by omega) (by decide), nm_r (qc_st rfl (qc_in1 rn) (by omega)) hP⟩⟩⟩
    · refine br_f (nI_pos (by omega)) (br_f (nI_nlt (a := 4) (by omega) (by decide)) ⟨vp_in_nI (by omega) (by decide), br_t (by rw [qc_rd d rfl (by omega)]; exact nI_le (a := 1) h1 (by omega)) ⟨vp_in_nI (by omega) (by decide), nm_r ((congrArg (fun z => nI c * 6 + z - 1) (qc_rd d rfl (by omega))).trans (qc_tf h1)) ⟨vp_in_nI (by omega) (by decide), nm_r ((qc_rd q rfl (by omega)).trans (congrArg nI hq)) (br_f (nI_pos (by omega)) (br_t (nI_lt hx (by omega)) ⟨vp_in_nI (by omega) (by decide), nm_r ((qc_rr rfl (by omega)).trans ho) ⟨vp_in_nI (by omega) (by decide), nm_r (congrArg (· &&& 7) ((qc_rr rfl (by omega)).trans ha) |>.trans (qc_a7 a8)) ⟨vp_in_nI (by omega) (by decide), nm_r ((qc_rr rfl (by omega))) (nm_e ⟨vp_in_nI (by omega) (by decide), nm_e (nm_r (qc_m8 _) (br_f (by decide) (br_f (by decide) (br_f (by decide) (br_f (by decide) (br_f (by decide) (br_f (by decide) (br_f (by decide) (br_f (by decide) (br_f (by decide) (br_f (by decide) (br_t rfl ?_))))))))))))⟩)⟩⟩⟩))⟩⟩⟩)
      exact ⟨vp_in_nI (by omega) (by decide), br_t (by rw [rm]; exact nI_lt (b := 4) z (by decide)) ⟨vp_in_nI (by omega) (by decide), qc_vi eA (by omega) (by decide), qc_vi e5 (by omega) (by decide), nm_r (qc_sr e5 (by omega) (qc_rr eA (by omega))) ⟨vp_in_nI (by omega) (by decide), vp_in_nI (by omega) (by decide), nm_r (qc_st rfl (qc_in1 rm) (by omega)) ⟨vp_in_nI (by omega) (by decide), nm_r (qc_st rfl (nI_1 x) (by omega)) hP⟩⟩⟩⟩
  · refine .inr ⟨(nI mc, nI md, nI cl, nI lc, 1, 0, nI c, nI h, 1, (-6), oo, oa, ob, oc, lg, hn, (fun zz => nI (s zz)), (fun zz => nI (rs zz)), (fun zz => nI (bd zz)), (fun zz => nI (d zz)), (fun zz => nI ((qc_u p (c * 6 + d c - 1) (x + 1)) zz)), (fun zz => nI (n zz)), rg, tg), (nI mc, nI md, 1, 0, nI c, nI h, nI cl, nI lc, oo, oa, ob, oc, lg, hn, (fun zz => nI (d zz)), (fun zz => nI (rs zz)), (fun zz => nI (bd zz)), (fun zz => nI (yr zz)), (fun zz => nI (lv zz)), rg, (fun zz => nI (q zz)), (fun zz => nI (m zz)), tg), c, -6, qc_Qmk (qc_K_up K) (qc_tr_j hm I), fun P hP => ?_, fun w hw P hP => ?_⟩
    · unfold wpX_step; refine qc_xtf _ c5 h1 ?_; refine ⟨vp_in_nI (by omega) (by decide), nm_r ((qc_rd p rfl (by omega)).trans (congrArg nI hp)) (br_t (nI_lt hx (by omega)) (nm_r (qc_m8 _) ⟨vp_in_nI (by omega) (by decide), nm_r ((qc_rr rfl (by omega)).trans ha) ⟨vp_in_nI (by omega) (by decide), nm_r ((qc_rr rfl (by omega))) ⟨vp_in_nI (by omega) (by decide), nm_r ((qc_rr rfl (by omega))) ⟨vp_in_nI (by omega) (by decide), nm_r (qc_st rfl (nI_1 x) (by omega)) ⟨vp_in_nI (by omega) (by decide), nm_r ((qc_rr rfl (by omega)).trans ho) (br_f (by decide) (br_f (by decide) (br_f (by decide) (br_f (by decide) (br_f (by decide) (br_f (by decide) (br_f (by decide) (br_f (by decide) (br_f (by decide) (br_f (by decide) (br_f (by decide) (br_f (by decide) (br_t rfl ?_)))))))))))))⟩⟩⟩⟩⟩))⟩
      exact ⟨qc_vi eA (by omega) (by decide), vp_in_nI (by omega) (by decide), br_f (by rw [rn]; exact nI_nlt (b := 4) (by omega) (by omega)) hP⟩
    · refine br_f (nI_pos (by omega)) (br_f (nI_nlt (a := 4) (by omega) (by decide)) ⟨vp_in_nI (by omega) (by decide), br_t (by rw [qc_rd d rfl (by omega)]; exact nI_le (a := 1) h1 (by omega)) ⟨vp_in_nI (by omega) (by decide), nm_r ((congrArg (fun z => nI c * 6 + z - 1) (qc_rd d rfl (by omega))).trans (qc_tf h1)) ⟨vp_in_nI (by omega) (by decide), nm_r ((qc_rd q rfl (by omega)).trans (congrArg nI hq)) (br_f (nI_pos (by omega)) (br_t (nI_lt hx (by omega)) ⟨vp_in_nI (by omega) (by decide), nm_r ((qc_rr rfl (by omega)).trans ho) ⟨vp_in_nI (by omega) (by decide), nm_r (congrArg (· &&& 7) ((qc_rr rfl (by omega)).trans ha) |>.trans (qc_a7 a8)) ⟨vp_in_nI (by omega) (by decide), nm_r ((qc_rr rfl (by omega))) (nm_e ⟨vp_in_nI (by omega) (by decide), nm_e (nm_r (qc_m8 _) (br_f (by decide) (br_f (by decide) (br_f (by decide) (br_f (by decide) (br_f (by decide) (br_f (by decide) (br_f (by decide) (br_f (by decide) (br_f (by decide) (br_f (by decide) (br_t rfl ?_))))))))))))⟩)⟩⟩⟩))⟩⟩⟩)
      exact ⟨vp_in_nI (by omega) (by decide), br_f (by rw [rm]; exact nI_nlt (b := 4) (by omega) (by omega)) (hw _ hP)⟩
theorem qc_o15 (K : qc_K mc md cl lc h B oo oa ob oc lv bd) (I : qc_I mc md oo oa ob d s lv rs yr p q n m (c :: l)) (hp : p (c * 6 + d c - 1) = x) (hx : x < cl) (ho : oo x = 15) (ha : oa x = nI a) (a8 : a < 8) (hb : ob x = nI b) (b8 : b < 8) : qc_Out B (nI mc, nI md, nI cl, nI lc, 1, 0, nI c, nI h, 0, re, oo, oa, ob, oc, lg, hn, (fun zz => nI (s zz)), (fun zz => nI (rs zz)), (fun zz => nI (bd zz)), (fun zz => nI (d zz)), (fun zz => nI (p zz)), (fun zz => nI (n zz)), rg, tg) (nI mc, nI md, 1, 0, nI c, nI h, nI cl, nI lc, oo, oa, ob, oc, lg, hn, (fun zz => nI (d zz)), (fun zz => nI (rs zz)), (fun zz => nI (bd zz)), (fun zz => nI (yr zz)), (fun zz => nI (lv zz)), rg, (fun zz => nI (q zz)), (fun zz => nI (m zz)), tg) := by
  have c5 : c < 5 := I.2.2.1 c List.mem_cons_self
  obtain ⟨h1, hdm, hs1, hlv, hth⟩ := I.2.2.2.2.1
  have hm : md ≤ 6 := K.2.1.2
  have h6 : d c ≤ 6 := by omega
  have h64 : cl ≤ 64 := K.2.2.1
  have hl : lc ≤ 64 := K.2.2.2.1
  have hq : q (c * 6 + d c - 1) = x := (qc_qtop h1 hth).1.trans hp
  have hf : (c * 6 + d c - 1) < 30 := by omega
  have eA : nI ((c * 6 + d c - 1) * 8) + nI a = nI ((c * 6 + d c - 1) * 8 + a) := nI_add _ _
  by_cases c0 : c = 0
  · have z0 : nI c = 0 := by rw [c0]; rfl
    refine .inr ⟨(nI mc, nI md, nI cl, nI lc, 1, 0, nI c, nI h, 1, (-3), oo, oa, ob, oc, lg, hn, (fun zz => nI (s zz)), (fun zz => nI (rs zz)), (fun zz => nI (bd zz)), (fun zz => nI (d zz)), (fun zz => nI ((qc_u p (c * 6 + d c - 1) (x + 1)) zz)), (fun zz => nI (n zz)), rg, tg), (nI mc, nI md, 1, 0, nI c, nI h, nI cl, nI lc, oo, oa, ob, oc, lg, hn, (fun zz => nI (d zz)), (fun zz => nI (rs zz)), (fun zz => nI (bd zz)), (fun zz => nI (yr zz)), (fun zz => nI (lv zz)), rg, (fun zz => nI (q zz)), (fun zz => nI (m zz)), tg), c, -3, qc_Qmk (qc_K_up K) (qc_tr_j hm I), fun P hP => ?_, fun w hw P hP => ?_⟩
    · unfold wpX_step; refine qc_xtf _ c5 h1 ?_; refine ⟨vp_in_nI (by omega) (by decide), nm_r ((qc_rd p rfl (by omega)).trans (congrArg nI hp)) (br_t (nI_lt hx (by omega)) (nm_r (qc_m8 _) ⟨vp_in_nI (by omega) (by decide), nm_r ((qc_rr rfl (by omega)).trans ha) ⟨vp_in_nI (by omega) (by decide), nm_r ((qc_rr rfl (by omega)).trans hb) ⟨vp_in_nI (by omega) (by decide), nm_r ((qc_rr rfl (by omega))) ⟨vp_in_nI (by omega) (by decide), nm_r (qc_st rfl (nI_1 x) (by omega)) ⟨vp_in_nI (by omega) (by decide), nm_r ((qc_rr rfl (by omega)).trans ho) (br_f (by decide) (br_f (by decide) (br_f (by decide) (br_f (by decide) (br_f (by decide) (br_f (by decide) (br_f (by decide) (br_f (by decide) (br_f (by decide) (br_f (by decide) (br_f (by decide) (br_f (by decide) (br_f (by decide) (br_f (by decide) (br_f (by decide) (br_f (by decide) (br_f (by decide) (br_t rfl ?_))))))))))))))))))⟩⟩⟩⟩⟩))⟩
      exact ⟨qc_vi eA (by omega) (by decide), br_t z0 hP⟩
    · refine br_f (nI_pos (by omega)) (br_f (nI_nlt (a := 4) (by omega) (by decide)) ⟨vp_in_nI (by omega) (by decide), br_t (by rw [qc_rd d rfl (by omega)]; exact nI_le (a := 1) h1 (by omega)) ⟨vp_in_nI (by omega) (by decide), nm_r ((congrArg (fun z => nI c * 6 + z - 1) (qc_rd d rfl (by omega))).trans (qc_tf h1)) ⟨vp_in_nI (by omega) (by decide), nm_r ((qc_rd q rfl (by omega)).trans (congrArg nI hq)) (br_f (nI_pos (by omega)) (br_t (nI_lt hx (by omega)) ⟨vp_in_nI (by omega) (by decide), nm_r ((qc_rr rfl (by omega)).trans ho) ⟨vp_in_nI (by omega) (by decide), nm_r (congrArg (· &&& 7) ((qc_rr rfl (by omega)).trans ha) |>.trans (qc_a7 a8)) ⟨vp_in_nI (by omega) (by decide), nm_r ((qc_rr rfl (by omega)).trans hb) (nm_r (qc_a7 b8) ⟨vp_in_nI (by omega) (by decide), nm_e (nm_r (qc_m8 _) (br_f (by decide) (br_f (by decide) (br_f (by decide) (br_f (by decide) (br_f (by decide) (br_f (by decide) (br_f (by decide) (br_f (by decide) (br_f (by decide) (br_f (by decide) (br_f (by decide) (br_f (by decide) (br_f (by decide) (br_f (by decide) (br_f (by decide) (br_t rfl ?_)))))))))))))))))⟩)⟩⟩⟩))⟩⟩⟩)
      exact br_t z0 (hw _ hP)
  · have z0 : ¬ nI c = 0 := fun z => c0 ((nI_eq (b := 0) (by omega) (by omega)).mp z)
    obtain ⟨r, l', rfl, hrs⟩ := qc_Lk_1 I.1 c0
    have r5 : r < 5 := I.2.2.1 r (List.mem_cons_of_mem _ List.mem_cons_self)
    have hN := I.2.2.2.2.2.1 r List.mem_cons_self
    have hc : c ∉ r :: l' := (List.nodup_cons.mp I.2.1).1
    have hrc : r ≠ c := fun z => hc (by rw [z]; exact List.mem_cons_self)
    obtain ⟨N1, N2, N3, N4, N5, ⟨y1, y64, a', a'8, ha'⟩, No⟩ := hN
    have hq' := (qc_qtop N1 N5).1
    have hp2 : qc_u p (c * 6 + d c - 1) (x + 1) (r * 6 + d r - 1) = p (r * 6 + d r - 1) := qc_uo (by omega)
    have hq2 : qc_u q (c * 6 + d c - 1) (x + 1) (r * 6 + d r - 1) = p (r * 6 + d r - 1) := (qc_uo (by omega)).trans hq'
    have I' := qc_tr_yield (x := x + 1) hm I (by omega) (by omega) b8 hb
    have yy : ∀ P : SY → Prop,
        ((oo (p (r * 6 + d r - 1) - 1) = 13 → P (nI mc, nI md, 1, 0, nI r, nI h, nI cl, nI lc, oo, oa, ob, oc, lg, hn, (fun zz => nI (d zz)), (fun zz => nI (rs zz)), (fun zz => nI (bd zz)), (fun zz => nI ((qc_u yr c b) zz)), (fun zz => nI (lv zz)), (upd (upd rg ((r * 6 + d r - 1) * 8 + a') (rg ((c * 6 + d c - 1) * 8 + a))) ((r * 6 + d r - 1) * 8 + (a' + 1) % 8) 1), (fun zz => nI ((qc_u q (c * 6 + d c - 1) (x + 1)) zz)), (fun zz => nI (m zz)), tg)) ∧
         (¬ oo (p (r * 6 + d r - 1) - 1) = 13 → P (nI mc, nI md, 1, 0, nI r, nI h, nI cl, nI lc, oo, oa, ob, oc, lg, hn, (fun zz => nI (d zz)), (fun zz => nI (rs zz)), (fun zz => nI (bd zz)), (fun zz => nI ((qc_u yr c b) zz)), (fun zz => nI (lv zz)), (upd rg ((r * 6 + d r - 1) * 8 + a') (rg ((c * 6 + d c - 1) * 8 + a))), (fun zz => nI ((qc_u q (c * 6 + d c - 1) (x + 1)) zz)), (fun zz => nI (m zz)), tg))) → wpY_step P (nI mc, nI md, 1, 0, nI c, nI h, nI cl, nI lc, oo, oa, ob, oc, lg, hn, (fun zz => nI (d zz)), (fun zz => nI (rs zz)), (fun zz => nI (bd zz)), (fun zz => nI (yr zz)), (fun zz => nI (lv zz)), rg, (fun zz => nI (q zz)), (fun zz => nI (m zz)), tg) := by
      intro P H
      refine br_f (nI_pos (by omega)) (br_f (nI_nlt (a := 4) (by omega) (by decide)) ⟨vp_in_nI (by omega) (by decide), br_t (by rw [qc_rd d rfl (by omega)]; exact nI_le (a := 1) h1 (by omega)) ⟨vp_in_nI (by omega) (by decide), nm_r ((congrArg (fun z => nI c * 6 + z - 1) (qc_rd d rfl (by omega))).trans (qc_tf h1)) ⟨vp_in_nI (by omega) (by decide), nm_r ((qc_rd q rfl (by omega)).trans (congrArg nI hq)) (br_f (nI_pos (by omega)) (br_t (nI_lt hx (by omega)) ⟨vp_in_nI (by omega) (by decide), nm_r ((qc_rr rfl (by omega)).trans ho) ⟨vp_in_nI (by omega) (by decide), nm_r (congrArg (· &&& 7) ((qc_rr rfl (by omega)).trans ha) |>.trans (qc_a7 a8)) ⟨vp_in_nI (by omega) (by decide), nm_r ((qc_rr rfl (by omega)).trans hb) (nm_r (qc_a7 b8) ⟨vp_in_nI (by omega) (by decide), nm_e (nm_r (qc_m8 _) (br_f (by decide) (br_f (by decide) (br_f (by decide) (br_f (by decide) (br_f (by decide) (br_f (by decide) (br_f (by decide) (br_f (by decide) (br_f (by decide) (br_f (by decide) (br_f (by decide) (br_f (by decide) (br_f (by decide) (br_f (by decide) (br_f (by decide) (br_t rfl ?_)))))))))))))))))⟩)⟩⟩⟩))⟩⟩⟩)
      refine br_f z0 ⟨vp_in_nI (by omega) (by decide), nm_r (qc_st rfl (nI_1 x) (by omega)) ⟨vp_in_nI (by omega) (by decide), nm_r (qc_st rfl rfl (by omega)) ⟨vp_in_nI (by omega) (by decide), qc_vi eA (by omega) (by decide), ?_⟩⟩⟩
      rw [qc_rd rs rfl (by omega), hrs, qc_rr (f := rg) eA (by omega)]
      exact qc_ycs _ r5 N1 (by omega) hq2 y1 y64 ha' a'8 _ H
    rcases No with No | No
    · refine .inl ⟨(nI mc, nI md, nI cl, nI lc, 1, 0, nI r, nI h, 0, re, oo, oa, ob, oc, lg, hn, (fun zz => nI ((qc_u (qc_u s c 0) r 1) zz)), (fun zz => nI (rs zz)), (fun zz => nI (bd zz)), (fun zz => nI (d zz)), (fun zz => nI ((qc_u p (c * 6 + d c - 1) (x + 1)) zz)), (fun zz => nI (n zz)), (upd (upd rg ((r * 6 + d r - 1) * 8 + a') (rg ((c * 6 + d c - 1) * 8 + a))) ((r * 6 + d r - 1) * 8 + (a' + 1) % 8) 1), tg), (nI mc, nI md, 1, 0, nI r, nI h, nI cl, nI lc, oo, oa, ob, oc, lg, hn, (fun zz => nI (d zz)), (fun zz => nI (rs zz)), (fun zz => nI (bd zz)), (fun zz => nI ((qc_u yr c b) zz)), (fun zz => nI (lv zz)), (upd (upd rg ((r * 6 + d r - 1) * 8 + a') (rg ((c * 6 + d c - 1) * 8 + a))) ((r * 6 + d r - 1) * 8 + (a' + 1) % 8) 1), (fun zz => nI ((qc_u q (c * 6 + d c - 1) (x + 1)) zz)), (fun zz => nI (m zz)), tg), qc_Rmk (qc_K_up K) I', fun P hP => ?_, fun P hP => yy P ⟨fun _ => hP, fun z => absurd No z⟩⟩
      unfold wpX_step; refine qc_xtf _ c5 h1 ?_; refine ⟨vp_in_nI (by omega) (by decide), nm_r ((qc_rd p rfl (by omega)).trans (congrArg nI hp)) (br_t (nI_lt hx (by omega)) (nm_r (qc_m8 _) ⟨vp_in_nI (by omega) (by decide), nm_r ((qc_rr rfl (by omega)).trans ha) ⟨vp_in_nI (by omega) (by decide), nm_r ((qc_rr rfl (by omega)).trans hb) ⟨vp_in_nI (by omega) (by decide), nm_r ((qc_rr rfl (by omega))) ⟨vp_in_nI (by omega) (by decide), nm_r (qc_st rfl (nI_1 x) (by omega)) ⟨vp_in_nI (by omega) (by decide), nm_r ((qc_rr rfl (by omega)).trans ho) (br_f (by decide) (br_f (by decide) (br_f (by decide) (br_f (by decide) (br_f (by decide) (br_f (by decide) (br_f (by decide) (br_f (by decide) (br_f (by decide) (br_f (by decide) (br_f (by decide) (br_f (by decide) (br_f (by decide) (br_f (by decide) (br_f (by decide) (br_f (by decide) (br_f (by decide) (br_t rfl ?_))))))))))))))))))⟩⟩⟩⟩⟩))⟩
      refine ⟨qc_vi eA (by omega) (by decide), ?_⟩
      rw [qc_rr (f := rg) eA (by omega)]
      refine br_f z0 ⟨vp_in_nI (by omega) (by decide), nm_r (qc_st (x := 0) rfl rfl (by omega)) ⟨vp_in_nI (by omega) (by decide), ?_⟩⟩
      rw [qc_rd rs rfl (by omega), hrs]
      exact qc_xc13 _ r5 N1 (by omega) hp2 y1 y64 ha' a'8 No _ _ 1 (fun z => absurd z (by decide)) (fun _ => rfl) hP
    · refine .inl ⟨(nI mc, nI md, nI cl, nI lc, 1, 0, nI r, nI h, 0, re, oo, oa, ob, oc, lg, hn, (fun zz => nI ((qc_u (qc_u s c 0) r 1) zz)), (fun zz => nI (rs zz)), (fun zz => nI (bd zz)), (fun zz => nI (d zz)), (fun zz => nI ((qc_u p (c * 6 + d c - 1) (x + 1)) zz)), (fun zz => nI (n zz)), (upd rg ((r * 6 + d r - 1) * 8 + a') (rg ((c * 6 + d c - 1) * 8 + a))), tg), (nI mc, nI md, 1, 0, nI r, nI h, nI cl, nI lc, oo, oa, ob, oc, lg, hn, (fun zz => nI (d zz)), (fun zz => nI (rs zz)), (fun zz => nI (bd zz)), (fun zz => nI ((qc_u yr c b) zz)), (fun zz => nI (lv zz)), (upd rg ((r * 6 + d r - 1) * 8 + a') (rg ((c * 6 + d c - 1) * 8 + a))), (fun zz => nI ((qc_u q (c * 6 + d c - 1) (x + 1)) zz)), (fun zz => nI (m zz)), tg), qc_Rmk (qc_K_up K) I', fun P hP => ?_, fun P hP => yy P ⟨fun z => absurd (No.symm.trans z) (by decide), fun _ => hP⟩⟩
      unfold wpX_step; refine qc_xtf _ c5 h1 ?_; refine ⟨vp_in_nI (by omega) (by decide), nm_r ((qc_rd p rfl (by omega)).trans (congrArg nI hp)) (br_t (nI_lt hx (by omega)) (nm_r (qc_m8 _) ⟨vp_in_nI (by omega) (by decide), nm_r ((qc_rr rfl (by omega)).trans ha) ⟨vp_in_nI (by omega) (by decide), nm_r ((qc_rr rfl (by omega)).trans hb) ⟨vp_in_nI (by omega) (by decide), nm_r ((qc_rr rfl (by omega))) ⟨vp_in_nI (by omega) (by decide), nm_r (qc_st rfl (nI_1 x) (by omega)) ⟨vp_in_nI (by omega) (by decide), nm_r ((qc_rr rfl (by omega)).trans ho) (br_f (by decide) (br_f (by decide) (br_f (by decide) (br_f (by decide) (br_f (by decide) (br_f (by decide) (br_f (by decide) (br_f (by decide) (br_f (by decide) (br_f (by decide) (br_f (by decide) (br_f (by decide) (br_f (by decide) (br_f (by decide) (br_f (by decide) (br_f (by decide) (br_f (by decide) (br_t rfl ?_))))))))))))))))))⟩⟩⟩⟩⟩))⟩
      refine ⟨qc_vi eA (by omega) (by decide), ?_⟩
      rw [qc_rr (f := rg) eA (by omega)]
      refine br_f z0 ⟨vp_in_nI (by omega) (by decide), nm_r (qc_st (x := 0) rfl rfl (by omega)) ⟨vp_in_nI (by omega) (by decide), ?_⟩⟩
      rw [qc_rd rs rfl (by omega), hrs]
      exact qc_xc14 _ r5 N1 (by omega) hp2 y1 y64 ha' a'8 No _ _ (by decide) hP
end
end
section
theorem qc_nm1 {t : Nat} (h : t < 5) : ¬ nI t = -1 := by
  have e : t = 0 ∨ t = 1 ∨ t = 2 ∨ t = 3 ∨ t = 4 := by omega
  rcases e with rfl | rfl | rfl | rfl | rfl <;> decide
section
variable {mc md cl lc cu h B : Nat} {st rt lh rd re cy : Int32} {oo oa ob oc lg hn rg tg : Nat → Int32} {d s lv rs bd yr p q n m : Nat → Nat} {c r t x a b : Nat} {l L : List Nat}
theorem qc_S1 : qc_S 1 0 (c :: l) := .inl ⟨rfl, rfl, by simp⟩
theorem qc_o16 (K : qc_K mc md cl lc h B oo oa ob oc lv bd) (I : qc_I mc md oo oa ob d s lv rs yr p q n m (c :: l)) (hp : p (c * 6 + d c - 1) = x) (hx : x < cl) (ho : oo x = 16) (ha : oa x = nI a) (a8 : a < 8) (hb : ob x = nI b) (b8 : b < 8) : qc_Out B (nI mc, nI md, nI cl, nI lc, 1, 0, nI c, nI h, 0, re, oo, oa, ob, oc, lg, hn, (fun zz => nI (s zz)), (fun zz => nI (rs zz)), (fun zz => nI (bd zz)), (fun zz => nI (d zz)), (fun zz => nI (p zz)), (fun zz => nI (n zz)), rg, tg) (nI mc, nI md, 1, 0, nI c, nI h, nI cl, nI lc, oo, oa, ob, oc, lg, hn, (fun zz => nI (d zz)), (fun zz => nI (rs zz)), (fun zz => nI (bd zz)), (fun zz => nI (yr zz)), (fun zz => nI (lv zz)), rg, (fun zz => nI (q zz)), (fun zz => nI (m zz)), tg) := by
  have c5 : c < 5 := I.2.2.1 c List.mem_cons_self
  obtain ⟨h1, hdm, hs1, hlv, hth⟩ := I.2.2.2.2.1
  have hm : md ≤ 6 := K.2.1.2
  have h6 : d c ≤ 6 := by omega
  have h64 : cl ≤ 64 := K.2.2.1
  have hl : lc ≤ 64 := K.2.2.2.1
  have hq : q (c * 6 + d c - 1) = x := (qc_qtop h1 hth).1.trans hp
  have hf : (c * 6 + d c - 1) < 30 := by omega
  have eA : nI ((c * 6 + d c - 1) * 8) + nI a = nI ((c * 6 + d c - 1) * 8 + a) := nI_add _ _
  have eB : nI ((c * 6 + d c - 1) * 8) + nI b = nI ((c * 6 + d c - 1) * 8 + b) := nI_add _ _
  rcases qc_thr (mc := mc) (md := md) (cl := cl) (lc := lc) (cu := c) (st := 1) (rt := 0) (lh := nI h) (rd := 0) (re := re) (cy := nI c) (oo := oo) (oa := oa) (ob := ob) (oc := oc) (lg := lg) (hn := hn) (rg := rg) (tg := tg) (d := d) (rs := rs) (bd := bd) (yr := yr) (n := n) (m := m) (p := qc_u p (c * 6 + d c - 1) (x + 1)) (q := q) (fun t => qc_al I) (rg ((c * 6 + d c - 1) * 8 + b)) with ⟨t, t5, hg, hA, hX, hY⟩ | ⟨hg, hX, hY⟩
  · refine .inl ⟨(nI mc, nI md, nI cl, nI lc, 1, 0, nI c, nI h, 0, re, oo, oa, ob, oc, lg, hn, (fun zz => nI (s zz)), (fun zz => nI (rs zz)), (fun zz => nI (bd zz)), (fun zz => nI (d zz)), (fun zz => nI ((qc_u p (c * 6 + d c - 1) (x + 1)) zz)), (fun zz => nI (n zz)), (upd rg ((c * 6 + d c - 1) * 8 + a) (nI (s t))), tg), (nI mc, nI md, 1, 0, nI c, nI h, nI cl, nI lc, oo, oa, ob, oc, lg, hn, (fun zz => nI (d zz)), (fun zz => nI (rs zz)), (fun zz => nI (bd zz)), (fun zz => nI (yr zz)), (fun zz => nI (lv zz)), (upd rg ((c * 6 + d c - 1) * 8 + a) (nI (s t))), (fun zz => nI ((qc_u q (c * 6 + d c - 1) (x + 1)) zz)), (fun zz => nI (m zz)), tg), qc_Rmk (qc_K_up K) (qc_tr_pc hm I (by omega)), fun P hP => ?_, fun P hP => ?_⟩
    · unfold wpX_step; refine qc_xtf _ c5 h1 ?_; refine ⟨vp_in_nI (by omega) (by decide), nm_r ((qc_rd p rfl (by omega)).trans (congrArg nI hp)) (br_t (nI_lt hx (by omega)) (nm_r (qc_m8 _) ⟨vp_in_nI (by omega) (by decide), nm_r ((qc_rr rfl (by omega)).trans ha) ⟨vp_in_nI (by omega) (by decide), nm_r ((qc_rr rfl (by omega)).trans hb) ⟨vp_in_nI (by omega) (by decide), nm_r ((qc_rr rfl (by omega))) ⟨vp_in_nI (by omega) (by decide), nm_r (qc_st rfl (nI_1 x) (by omega)) ⟨vp_in_nI (by omega) (by decide), nm_r ((qc_rr rfl (by omega)).trans ho) (br_f (by decide) (br_f (by decide) (br_f (by decide) (br_f (by decide) (br_f (by decide) (br_f (by decide) (br_f (by decide) (br_f (by decide) (br_f (by decide) (br_f (by decide) (br_f (by decide) (br_f (by decide) (br_f (by decide) (br_f (by decide) (br_f (by decide) (br_f (by decide) (br_f (by decide) (br_f (by decide) (br_t rfl ?_)))))))))))))))))))⟩⟩⟩⟩⟩))⟩
      refine ⟨qc_vi eB (by omega) (by decide), ?_⟩
      rw [qc_rr (f := rg) eB (by omega)]
      unfold wpX_coStatus
      refine hX _ (br_f (qc_nm1 t5) ⟨vp_in_nI (by omega) (by decide), ?_⟩)
      rw [qc_rd s rfl (by omega)]
      exact ⟨qc_vi eA (by omega) (by decide), nm_r (qc_sr eA (by omega) rfl) hP⟩
    · refine br_f (nI_pos (by omega)) (br_f (nI_nlt (a := 4) (by omega) (by decide)) ⟨vp_in_nI (by omega) (by decide), br_t (by rw [qc_rd d rfl (by omega)]; exact nI_le (a := 1) h1 (by omega)) ⟨vp_in_nI (by omega) (by decide), nm_r ((congrArg (fun z => nI c * 6 + z - 1) (qc_rd d rfl (by omega))).trans (qc_tf h1)) ⟨vp_in_nI (by omega) (by decide), nm_r ((qc_rd q rfl (by omega)).trans (congrArg nI hq)) (br_f (nI_pos (by omega)) (br_t (nI_lt hx (by omega)) ⟨vp_in_nI (by omega) (by decide), nm_r ((qc_rr rfl (by omega)).trans ho) ⟨vp_in_nI (by omega) (by decide), nm_r (congrArg (· &&& 7) ((qc_rr rfl (by omega)).trans ha) |>.trans (qc_a7 a8)) ⟨vp_in_nI (by omega) (by decide), nm_r ((qc_rr rfl (by omega)).trans hb) (nm_r (qc_a7 b8) ⟨vp_in_nI (by omega) (by decide), nm_e (nm_r (qc_m8 _) (br_f (by decide) (br_f (by decide) (br_f (by decide) (br_f (by decide) (br_f (by decide) (br_f (by decide) (br_f (by decide) (br_f (by decide) (br_f (by decide) (br_f (by decide) (br_f (by decide) (br_f (by decide) (br_f (by decide) (br_f (by decide) (br_f (by decide) (br_f (by decide) (br_t rfl ?_))))))))))))))))))⟩)⟩⟩⟩))⟩⟩⟩)
      refine ⟨qc_vi eB (by omega) (by decide), ?_⟩
      rw [qc_rr (f := rg) eB (by omega)]
      exact qc_yco I qc_S1 _ t5 hg hA hY _ ⟨qc_vi eA (by omega) (by decide), nm_r (qc_sr eA (by omega) rfl) ⟨vp_in_nI (by omega) (by decide), nm_r (qc_st rfl (nI_1 x) (by omega)) hP⟩⟩
  · refine .inl ⟨(nI mc, nI md, nI cl, nI lc, 1, 0, nI c, nI h, 0, re, oo, oa, ob, oc, lg, hn, (fun zz => nI (s zz)), (fun zz => nI (rs zz)), (fun zz => nI (bd zz)), (fun zz => nI (d zz)), (fun zz => nI ((qc_u p (c * 6 + d c - 1) (x + 1)) zz)), (fun zz => nI (n zz)), (upd rg ((c * 6 + d c - 1) * 8 + a) 3), tg), (nI mc, nI md, 1, 0, nI c, nI h, nI cl, nI lc, oo, oa, ob, oc, lg, hn, (fun zz => nI (d zz)), (fun zz => nI (rs zz)), (fun zz => nI (bd zz)), (fun zz => nI (yr zz)), (fun zz => nI (lv zz)), (upd rg ((c * 6 + d c - 1) * 8 + a) 3), (fun zz => nI ((qc_u q (c * 6 + d c - 1) (x + 1)) zz)), (fun zz => nI (m zz)), tg), qc_Rmk (qc_K_up K) (qc_tr_pc hm I (by omega)), fun P hP => ?_, fun P hP => ?_⟩
    · unfold wpX_step; refine qc_xtf _ c5 h1 ?_; refine ⟨vp_in_nI (by omega) (by decide), nm_r ((qc_rd p rfl (by omega)).trans (congrArg nI hp)) (br_t (nI_lt hx (by omega)) (nm_r (qc_m8 _) ⟨vp_in_nI (by omega) (by decide), nm_r ((qc_rr rfl (by omega)).trans ha) ⟨vp_in_nI (by omega) (by decide), nm_r ((qc_rr rfl (by omega)).trans hb) ⟨vp_in_nI (by omega) (by decide), nm_r ((qc_rr rfl (by omega))) ⟨vp_in_nI (by omega) (by decide), nm_r (qc_st rfl (nI_1 x) (by omega)) ⟨vp_in_nI (by omega) (by decide), nm_r ((qc_rr rfl (by omega)).trans ho) (br_f (by decide) (br_f (by decide) (br_f (by decide) (br_f (by decide) (br_f (by decide) (br_f (by decide) (br_f (by decide) (br_f (by decide) (br_f (by decide) (br_f (by decide) (br_f (by decide) (br_f (by decide) (br_f (by decide) (br_f (by decide) (br_f (by decide) (br_f (by decide) (br_f (by decide) (br_f (by decide) (br_t rfl ?_)))))))))))))))))))⟩⟩⟩⟩⟩))⟩
      refine ⟨qc_vi eB (by omega) (by decide), ?_⟩
      rw [qc_rr (f := rg) eB (by omega)]
      unfold wpX_coStatus
      exact hX _ (br_t rfl ⟨qc_vi eA (by omega) (by decide), nm_r (qc_sr eA (by omega) rfl) hP⟩)
    · refine br_f (nI_pos (by omega)) (br_f (nI_nlt (a := 4) (by omega) (by decide)) ⟨vp_in_nI (by omega) (by decide), br_t (by rw [qc_rd d rfl (by omega)]; exact nI_le (a := 1) h1 (by omega)) ⟨vp_in_nI (by omega) (by decide), nm_r ((congrArg (fun z => nI c * 6 + z - 1) (qc_rd d rfl (by omega))).trans (qc_tf h1)) ⟨vp_in_nI (by omega) (by decide), nm_r ((qc_rd q rfl (by omega)).trans (congrArg nI hq)) (br_f (nI_pos (by omega)) (br_t (nI_lt hx (by omega)) ⟨vp_in_nI (by omega) (by decide), nm_r ((qc_rr rfl (by omega)).trans ho) ⟨vp_in_nI (by omega) (by decide), nm_r (congrArg (· &&& 7) ((qc_rr rfl (by omega)).trans ha) |>.trans (qc_a7 a8)) ⟨vp_in_nI (by omega) (by decide), nm_r ((qc_rr rfl (by omega)).trans hb) (nm_r (qc_a7 b8) ⟨vp_in_nI (by omega) (by decide), nm_e (nm_r (qc_m8 _) (br_f (by decide) (br_f (by decide) (br_f (by decide) (br_f (by decide) (br_f (by decide) (br_f (by decide) (br_f (by decide) (br_f (by decide) (br_f (by decide) (br_f (by decide) (br_f (by decide) (br_f (by decide) (br_f (by decide) (br_f (by decide) (br_f (by decide) (br_f (by decide) (br_t rfl ?_))))))))))))))))))⟩)⟩⟩⟩))⟩⟩⟩)
      refine ⟨qc_vi eB (by omega) (by decide), ?_⟩
      rw [qc_rr (f := rg) eB (by omega)]
      exact br_f hg (hY _ (br_f (by decide) ⟨qc_vi eA (by omega) (by decide), nm_r (qc_sr eA (by omega) rfl) ⟨vp_in_nI (by omega) (by decide), nm_r (qc_st rfl (nI_1 x) (by omega)) hP⟩⟩))
theorem qc_o17 (K : qc_K mc md cl lc h B oo oa ob oc lv bd) (I : qc_I mc md oo oa ob d s lv rs yr p q n m (c :: l)) (hp : p (c * 6 + d c - 1) = x) (hx : x < cl) (ho : oo x = 17) (ha : oa x = nI a) (a8 : a < 8) (hb : ob x = nI b) (b8 : b < 8) : qc_Out B (nI mc, nI md, nI cl, nI lc, 1, 0, nI c, nI h, 0, re, oo, oa, ob, oc, lg, hn, (fun zz => nI (s zz)), (fun zz => nI (rs zz)), (fun zz => nI (bd zz)), (fun zz => nI (d zz)), (fun zz => nI (p zz)), (fun zz => nI (n zz)), rg, tg) (nI mc, nI md, 1, 0, nI c, nI h, nI cl, nI lc, oo, oa, ob, oc, lg, hn, (fun zz => nI (d zz)), (fun zz => nI (rs zz)), (fun zz => nI (bd zz)), (fun zz => nI (yr zz)), (fun zz => nI (lv zz)), rg, (fun zz => nI (q zz)), (fun zz => nI (m zz)), tg) := by
  have c5 : c < 5 := I.2.2.1 c List.mem_cons_self
  obtain ⟨h1, hdm, hs1, hlv, hth⟩ := I.2.2.2.2.1
  have hm : md ≤ 6 := K.2.1.2
  have h6 : d c ≤ 6 := by omega
  have h64 : cl ≤ 64 := K.2.2.1
  have hl : lc ≤ 64 := K.2.2.2.1
  have hq : q (c * 6 + d c - 1) = x := (qc_qtop h1 hth).1.trans hp
  have hf : (c * 6 + d c - 1) < 30 := by omega
  have eA : nI ((c * 6 + d c - 1) * 8) + nI a = nI ((c * 6 + d c - 1) * 8 + a) := nI_add _ _
  have eB : nI ((c * 6 + d c - 1) * 8) + nI b = nI ((c * 6 + d c - 1) * 8 + b) := nI_add _ _
  rcases qc_thr (mc := mc) (md := md) (cl := cl) (lc := lc) (cu := c) (st := 1) (rt := 0) (lh := nI h) (rd := 0) (re := re) (cy := nI c) (oo := oo) (oa := oa) (ob := ob) (oc := oc) (lg := lg) (hn := hn) (rg := rg) (tg := tg) (d := d) (rs := rs) (bd := bd) (yr := yr) (n := n) (m := m) (p := qc_u p (c * 6 + d c - 1) (x + 1)) (q := q) (fun t => qc_al I) (rg ((c * 6 + d c - 1) * 8 + b)) with ⟨t, t5, hg, hA, hX, hY⟩ | ⟨hg, hX, hY⟩
  · by_cases s0 : s t = 0
    · obtain ⟨htl, t0⟩ := qc_s0 I s0
      rcases I.2.2.2.2.2.2 t t5 htl with o | ⟨-, -, -, o1, o2, -⟩
      · omega
      have I' := qc_tr_close (t := t) hm (qc_tr_pc (x := x + 1) hm I (by omega)) htl (by omega)
      have K' : qc_K mc md cl (qc_uw tg n t (d t) (lg, lc)).2 h (B + 1) oo oa ob oc (qc_u lv t 0) bd := qc_K_c (qc_K_up K) (qc_uw_le _ _ hl) (by rw [qc_uo (by omega)]; exact K.2.2.2.2.2.2.2)
      refine .inl ⟨(nI mc, nI md, nI cl, nI ((qc_uw tg n t (d t) (lg, lc)).2), 1, 0, nI c, nI h, 0, re, oo, oa, ob, oc, (qc_uw tg n t (d t) (lg, lc)).1, hn, (fun zz => nI ((qc_u s t 3) zz)), (fun zz => nI (rs zz)), (fun zz => nI (bd zz)), (fun zz => nI ((qc_u d t 0) zz)), (fun zz => nI ((qc_u p (c * 6 + d c - 1) (x + 1)) zz)), (fun zz => nI (n zz)), (upd rg ((c * 6 + d c - 1) * 8 + a) 1), tg), (nI mc, nI md, 1, 0, nI c, nI h, nI cl, nI ((qc_uw tg n t (d t) (lg, lc)).2), oo, oa, ob, oc, (qc_uw tg n t (d t) (lg, lc)).1, hn, (fun zz => nI ((qc_u d t 0) zz)), (fun zz => nI (rs zz)), (fun zz => nI (bd zz)), (fun zz => nI (yr zz)), (fun zz => nI ((qc_u lv t 0) zz)), (upd rg ((c * 6 + d c - 1) * 8 + a) 1), (fun zz => nI ((qc_u q (c * 6 + d c - 1) (x + 1)) zz)), (fun zz => nI ((qc_mz t (d t) m) zz)), tg), qc_Rmk K' I', fun P hP => ?_, fun P hP => ?_⟩
      · unfold wpX_step; refine qc_xtf _ c5 h1 ?_; refine ⟨vp_in_nI (by omega) (by decide), nm_r ((qc_rd p rfl (by omega)).trans (congrArg nI hp)) (br_t (nI_lt hx (by omega)) (nm_r (qc_m8 _) ⟨vp_in_nI (by omega) (by decide), nm_r ((qc_rr rfl (by omega)).trans ha) ⟨vp_in_nI (by omega) (by decide), nm_r ((qc_rr rfl (by omega)).trans hb) ⟨vp_in_nI (by omega) (by decide), nm_r ((qc_rr rfl (by omega))) ⟨vp_in_nI (by omega) (by decide), nm_r (qc_st rfl (nI_1 x) (by omega)) ⟨vp_in_nI (by omega) (by decide), nm_r ((qc_rr rfl (by omega)).trans ho) (br_f (by decide) (br_f (by decide) (br_f (by decide) (br_f (by decide) (br_f (by decide) (br_f (by decide) (br_f (by decide) (br_f (by decide) (br_f (by decide) (br_f (by decide) (br_f (by decide) (br_f (by decide) (br_f (by decide) (br_f (by decide) (br_f (by decide) (br_f (by decide) (br_f (by decide) (br_f (by decide) (br_f (by decide) (br_t rfl ?_))))))))))))))))))))⟩⟩⟩⟩⟩))⟩
        refine ⟨qc_vi eB (by omega) (by decide), ?_⟩
        rw [qc_rr (f := rg) eB (by omega)]
        unfold wpX_closeHandle
        refine hX _ (br_f (qc_nm1 t5) ⟨vp_in_nI (by omega) (by decide), br_t ?_ ?_⟩)
        · rw [qc_rd s rfl (by omega), s0]; rfl
        · exact qc_xunw _ t5 (by omega) (fun k hk => (o2 k hk).2.2.2.1) hl ⟨vp_in_nI (by omega) (by decide), nm_r (qc_st (x := 3) rfl rfl (by omega)) ⟨qc_vi eA (by omega) (by decide), nm_r (qc_sr eA (by omega) rfl) hP⟩⟩
      · refine br_f (nI_pos (by omega)) (br_f (nI_nlt (a := 4) (by omega) (by decide)) ⟨vp_in_nI (by omega) (by decide), br_t (by rw [qc_rd d rfl (by omega)]; exact nI_le (a := 1) h1 (by omega)) ⟨vp_in_nI (by omega) (by decide), nm_r ((congrArg (fun z => nI c * 6 + z - 1) (qc_rd d rfl (by omega))).trans (qc_tf h1)) ⟨vp_in_nI (by omega) (by decide), nm_r ((qc_rd q rfl (by omega)).trans (congrArg nI hq)) (br_f (nI_pos (by omega)) (br_t (nI_lt hx (by omega)) ⟨vp_in_nI (by omega) (by decide), nm_r ((qc_rr rfl (by omega)).trans ho) ⟨vp_in_nI (by omega) (by decide), nm_r (congrArg (· &&& 7) ((qc_rr rfl (by omega)).trans ha) |>.trans (qc_a7 a8)) ⟨vp_in_nI (by omega) (by decide), nm_r ((qc_rr rfl (by omega)).trans hb) (nm_r (qc_a7 b8) ⟨vp_in_nI (by omega) (by decide), nm_e (nm_r (qc_m8 _) (br_f (by decide) (br_f (by decide) (br_f (by decide) (br_f (by decide) (br_f (by decide) (br_f (by decide) (br_f (by decide) (br_f (by decide) (br_f (by decide) (br_f (by decide) (br_f (by decide) (br_f (by decide) (br_f (by decide) (br_f (by decide) (br_f (by decide) (br_f (by decide) (br_f (by decide) (br_t rfl ?_)))))))))))))))))))⟩)⟩⟩⟩))⟩⟩⟩)
        refine ⟨qc_vi eB (by omega) (by decide), nm_r (qc_rr eB (by omega)) ?_⟩
        refine qc_yco I qc_S1 _ t5 hg hA hY _ ?_
        rw [s0]
        refine br_f (by decide) (br_f (by decide) (br_f (by decide) (hY _ (br_f (nI_nlt (b := 1) (by omega) (by omega)) ?_))))
        refine qc_yunw _ t5 (by omega) (fun k hk => by have := o2 k hk; omega) hl ?_
        rw [qc_uw_c (n := n) (d t) _ (fun k hk => (o2 k hk).2.2.1)]
        exact ⟨vp_in_nI (by omega) (by decide), nm_r (qc_st rfl qc_nb0 (by omega)) ⟨qc_vi eA (by omega) (by decide), nm_r (qc_sr eA (by omega) rfl) ⟨vp_in_nI (by omega) (by decide), nm_r (qc_st rfl (nI_1 x) (by omega)) hP⟩⟩⟩
    · have s12 : s t = 1 ∨ s t = 2 := by
        by_cases t0 : t = 0
        · rw [t0]; exact qc_s00 I
        · have := (hA t0).2; omega
      refine .inr ⟨(nI mc, nI md, nI cl, nI lc, 1, 0, nI c, nI h, 1, (-8), oo, oa, ob, oc, lg, hn, (fun zz => nI (s zz)), (fun zz => nI (rs zz)), (fun zz => nI (bd zz)), (fun zz => nI (d zz)), (fun zz => nI ((qc_u p (c * 6 + d c - 1) (x + 1)) zz)), (fun zz => nI (n zz)), rg, tg), (nI mc, nI md, 1, 0, nI c, nI h, nI cl, nI lc, oo, oa, ob, oc, lg, hn, (fun zz => nI (d zz)), (fun zz => nI (rs zz)), (fun zz => nI (bd zz)), (fun zz => nI (yr zz)), (fun zz => nI (lv zz)), rg, (fun zz => nI (q zz)), (fun zz => nI (m zz)), tg), c, -8, qc_Qmk (qc_K_up K) (qc_tr_j hm I), fun P hP => ?_, fun w hw P hP => ?_⟩
      · unfold wpX_step; refine qc_xtf _ c5 h1 ?_; refine ⟨vp_in_nI (by omega) (by decide), nm_r ((qc_rd p rfl (by omega)).trans (congrArg nI hp)) (br_t (nI_lt hx (by omega)) (nm_r (qc_m8 _) ⟨vp_in_nI (by omega) (by decide), nm_r ((qc_rr rfl (by omega)).trans ha) ⟨vp_in_nI (by omega) (by decide), nm_r ((qc_rr rfl (by omega)).trans hb) ⟨vp_in_nI (by omega) (by decide), nm_r ((qc_rr rfl (by omega))) ⟨vp_in_nI (by omega) (by decide), nm_r (qc_st rfl (nI_1 x) (by omega)) ⟨vp_in_nI (by omega) (by decide), nm_r ((qc_rr rfl (by omega)).trans ho) (br_f (by decide) (br_f (by decide) (br_f (by decide) (br_f (by decide) (br_f (by decide) (br_f (by decide) (br_f (by decide) (br_f (by decide) (br_f (by decide) (br_f (by decide) (br_f (by decide) (br_f (by decide) (br_f (by decide) (br_f (by decide) (br_f (by decide) (br_f (by decide) (br_f (by decide) (br_f (by decide) (br_f (by decide) (br_t rfl ?_))))))))))))))))))))⟩⟩⟩⟩⟩))⟩
        refine ⟨qc_vi eB (by omega) (by decide), ?_⟩
        rw [qc_rr (f := rg) eB (by omega)]
        unfold wpX_closeHandle
        refine hX _ (br_f (qc_nm1 t5) ⟨vp_in_nI (by omega) (by decide), br_f ?_ hP⟩)
        rw [qc_rd s rfl (by omega)]
        exact fun z => s0 ((nI_eq (b := 0) (by omega) (by omega)).mp z)
      · refine br_f (nI_pos (by omega)) (br_f (nI_nlt (a := 4) (by omega) (by decide)) ⟨vp_in_nI (by omega) (by decide), br_t (by rw [qc_rd d rfl (by omega)]; exact nI_le (a := 1) h1 (by omega)) ⟨vp_in_nI (by omega) (by decide), nm_r ((congrArg (fun z => nI c * 6 + z - 1) (qc_rd d rfl (by omega))).trans (qc_tf h1)) ⟨vp_in_nI (by omega) (by decide), nm_r ((qc_rd q rfl (by omega)).trans (congrArg nI hq)) (br_f (nI_pos (by omega)) (br_t (nI_lt hx (by omega)) ⟨vp_in_nI (by omega) (by decide), nm_r ((qc_rr rfl (by omega)).trans ho) ⟨vp_in_nI (by omega) (by decide), nm_r (congrArg (· &&& 7) ((qc_rr rfl (by omega)).trans ha) |>.trans (qc_a7 a8)) ⟨vp_in_nI (by omega) (by decide), nm_r ((qc_rr rfl (by omega)).trans hb) (nm_r (qc_a7 b8) ⟨vp_in_nI (by omega) (by decide), nm_e (nm_r (qc_m8 _) (br_f (by decide) (br_f (by decide) (br_f (by decide) (br_f (by decide) (br_f (by decide) (br_f (by decide) (br_f (by decide) (br_f (by decide) (br_f (by decide) (br_f (by decide) (br_f (by decide) (br_f (by decide) (br_f (by decide) (br_f (by decide) (br_f (by decide) (br_f (by decide) (br_f (by decide) (br_t rfl ?_)))))))))))))))))))⟩)⟩⟩⟩))⟩⟩⟩)
        refine ⟨qc_vi eB (by omega) (by decide), nm_r (qc_rr eB (by omega)) ?_⟩
        refine qc_yco I qc_S1 _ t5 hg hA hY _ ?_
        rcases s12 with s1 | s2
        · rw [s1]; exact br_t rfl (hw _ hP)
        · rw [s2]; exact br_f (by decide) (br_t rfl (hw _ hP))
  · refine .inl ⟨(nI mc, nI md, nI cl, nI lc, 1, 0, nI c, nI h, 0, re, oo, oa, ob, oc, lg, hn, (fun zz => nI (s zz)), (fun zz => nI (rs zz)), (fun zz => nI (bd zz)), (fun zz => nI (d zz)), (fun zz => nI ((qc_u p (c * 6 + d c - 1) (x + 1)) zz)), (fun zz => nI (n zz)), (upd rg ((c * 6 + d c - 1) * 8 + a) 0), tg), (nI mc, nI md, 1, 0, nI c, nI h, nI cl, nI lc, oo, oa, ob, oc, lg, hn, (fun zz => nI (d zz)), (fun zz => nI (rs zz)), (fun zz => nI (bd zz)), (fun zz => nI (yr zz)), (fun zz => nI (lv zz)), (upd rg ((c * 6 + d c - 1) * 8 + a) 0), (fun zz => nI ((qc_u q (c * 6 + d c - 1) (x + 1)) zz)), (fun zz => nI (m zz)), tg), qc_Rmk (qc_K_up K) (qc_tr_pc hm I (by omega)), fun P hP => ?_, fun P hP => ?_⟩
    · unfold wpX_step; refine qc_xtf _ c5 h1 ?_; refine ⟨vp_in_nI (by omega) (by decide), nm_r ((qc_rd p rfl (by omega)).trans (congrArg nI hp)) (br_t (nI_lt hx (by omega)) (nm_r (qc_m8 _) ⟨vp_in_nI (by omega) (by decide), nm_r ((qc_rr rfl (by omega)).trans ha) ⟨vp_in_nI (by omega) (by decide), nm_r ((qc_rr rfl (by omega)).trans hb) ⟨vp_in_nI (by omega) (by decide), nm_r ((qc_rr rfl (by omega))) ⟨vp_in_nI (by omega) (by decide), nm_r (qc_st rfl (nI_1 x) (by omega)) ⟨vp_in_nI (by omega) (by decide), nm_r ((qc_rr rfl (by omega)).trans ho) (br_f (by decide) (br_f (by decide) (br_f (by decide) (br_f (by decide) (br_f (by decide) (br_f (by decide) (br_f (by decide) (br_f (by decide) (br_f (by decide) (br_f (by decide) (br_f (by decide) (br_f (by decide) (br_f (by decide) (br_f (by decide) (br_f (by decide) (br_f (by decide) (br_f (by decide) (br_f (by decide) (br_f (by decide) (br_t rfl ?_))))))))))))))))))))⟩⟩⟩⟩⟩))⟩
      refine ⟨qc_vi eB (by omega) (by decide), ?_⟩
      rw [qc_rr (f := rg) eB (by omega)]
      unfold wpX_closeHandle
      exact hX _ (br_t rfl ⟨qc_vi eA (by omega) (by decide), nm_r (qc_sr eA (by omega) rfl) hP⟩)
    · refine br_f (nI_pos (by omega)) (br_f (nI_nlt (a := 4) (by omega) (by decide)) ⟨vp_in_nI (by omega) (by decide), br_t (by rw [qc_rd d rfl (by omega)]; exact nI_le (a := 1) h1 (by omega)) ⟨vp_in_nI (by omega) (by decide), nm_r ((congrArg (fun z => nI c * 6 + z - 1) (qc_rd d rfl (by omega))).trans (qc_tf h1)) ⟨vp_in_nI (by omega) (by decide), nm_r ((qc_rd q rfl (by omega)).trans (congrArg nI hq)) (br_f (nI_pos (by omega)) (br_t (nI_lt hx (by omega)) ⟨vp_in_nI (by omega) (by decide), nm_r ((qc_rr rfl (by omega)).trans ho) ⟨vp_in_nI (by omega) (by decide), nm_r (congrArg (· &&& 7) ((qc_rr rfl (by omega)).trans ha) |>.trans (qc_a7 a8)) ⟨vp_in_nI (by omega) (by decide), nm_r ((qc_rr rfl (by omega)).trans hb) (nm_r (qc_a7 b8) ⟨vp_in_nI (by omega) (by decide), nm_e (nm_r (qc_m8 _) (br_f (by decide) (br_f (by decide) (br_f (by decide) (br_f (by decide) (br_f (by decide) (br_f (by decide) (br_f (by decide) (br_f (by decide) (br_f (by decide) (br_f (by decide) (br_f (by decide) (br_f (by decide) (br_f (by decide) (br_f (by decide) (br_f (by decide) (br_f (by decide) (br_f (by decide) (br_t rfl ?_)))))))))))))))))))⟩)⟩⟩⟩))⟩⟩⟩)
      refine ⟨qc_vi eB (by omega) (by decide), nm_r (qc_rr eB (by omega)) ?_⟩
      exact br_f hg (hY _ (br_f (by decide) (br_f (by decide) (br_f (by decide) (br_t rfl ⟨qc_vi eA (by omega) (by decide), nm_r (qc_sr eA (by omega) rfl) ⟨vp_in_nI (by omega) (by decide), nm_r (qc_st rfl (nI_1 x) (by omega)) hP⟩⟩)))))
end
end
section
section
variable {mc md cl lc cu h B : Nat} {st rt lh rd re cy : Int32} {oo oa ob oc lg hn rg tg : Nat → Int32} {d s lv rs bd yr p q n m : Nat → Nat} {c r t x a b : Nat} {l L : List Nat}
theorem qc_o13 (K : qc_K mc md cl lc h B oo oa ob oc lv bd) (I : qc_I mc md oo oa ob d s lv rs yr p q n m (c :: l)) (hp : p (c * 6 + d c - 1) = x) (hx : x < cl) (ho : oo x = 13) (ha : oa x = nI a) (a8 : a < 8) (hb : ob x = nI b) (b8 : b < 8) {g : Nat} (hc : oc x = nI g) (g8 : g < 8) : qc_Out B (nI mc, nI md, nI cl, nI lc, 1, 0, nI c, nI h, 0, re, oo, oa, ob, oc, lg, hn, (fun zz => nI (s zz)), (fun zz => nI (rs zz)), (fun zz => nI (bd zz)), (fun zz => nI (d zz)), (fun zz => nI (p zz)), (fun zz => nI (n zz)), rg, tg) (nI mc, nI md, 1, 0, nI c, nI h, nI cl, nI lc, oo, oa, ob, oc, lg, hn, (fun zz => nI (d zz)), (fun zz => nI (rs zz)), (fun zz => nI (bd zz)), (fun zz => nI (yr zz)), (fun zz => nI (lv zz)), rg, (fun zz => nI (q zz)), (fun zz => nI (m zz)), tg) := by
  have c5 : c < 5 := I.2.2.1 c List.mem_cons_self
  obtain ⟨h1, hdm, hs1, hlv, hth⟩ := I.2.2.2.2.1
  have hm : md ≤ 6 := K.2.1.2
  have h6 : d c ≤ 6 := by omega
  have h64 : cl ≤ 64 := K.2.2.1
  have hl : lc ≤ 64 := K.2.2.2.1
  have hq : q (c * 6 + d c - 1) = x := (qc_qtop h1 hth).1.trans hp
  have hf : (c * 6 + d c - 1) < 30 := by omega
  have eA : nI ((c * 6 + d c - 1) * 8) + nI a = nI ((c * 6 + d c - 1) * 8 + a) := nI_add _ _
  have eA1 : nI ((c * 6 + d c - 1) * 8) + ((nI a + 1) &&& 7) = nI ((c * 6 + d c - 1) * 8 + (a + 1) % 8) := by rw [qc_a17 a8, nI_add]
  have eB : nI ((c * 6 + d c - 1) * 8) + nI b = nI ((c * 6 + d c - 1) * 8 + b) := nI_add _ _
  have eC : nI ((c * 6 + d c - 1) * 8) + nI g = nI ((c * 6 + d c - 1) * 8 + g) := nI_add _ _
  have I1 := qc_tr_pc (x := x + 1) hm I (by omega)
  have hxx : qc_RA oa (x + 1) := ⟨by omega, by omega, a, a8, ha⟩
  rcases qc_thr (mc := mc) (md := md) (cl := cl) (lc := lc) (cu := c) (st := 1) (rt := 0) (lh := nI h) (rd := 0) (re := re) (cy := nI c) (oo := oo) (oa := oa) (ob := ob) (oc := oc) (lg := lg) (hn := hn) (rg := rg) (tg := tg) (d := d) (rs := rs) (bd := bd) (yr := yr) (n := n) (m := m) (p := qc_u p (c * 6 + d c - 1) (x + 1)) (q := qc_u q (c * 6 + d c - 1) (x + 1)) (fun t => qc_al I) (rg ((c * 6 + d c - 1) * 8 + b)) with ⟨t, t5, hg, hA, hX, hY⟩ | ⟨hg, hX, hY⟩
  rotate_left
  · refine .inl ⟨(nI mc, nI md, nI cl, nI lc, 1, 0, nI c, nI h, 0, re, oo, oa, ob, oc, lg, hn, (fun zz => nI (s zz)), (fun zz => nI (rs zz)), (fun zz => nI (bd zz)), (fun zz => nI (d zz)), (fun zz => nI ((qc_u p (c * 6 + d c - 1) (x + 1)) zz)), (fun zz => nI (n zz)), (upd (upd rg ((c * 6 + d c - 1) * 8 + a) (-1)) ((c * 6 + d c - 1) * 8 + (a + 1) % 8) 0), tg), (nI mc, nI md, 1, 0, nI c, nI h, nI cl, nI lc, oo, oa, ob, oc, lg, hn, (fun zz => nI (d zz)), (fun zz => nI (rs zz)), (fun zz => nI (bd zz)), (fun zz => nI (yr zz)), (fun zz => nI (lv zz)), (upd (upd rg ((c * 6 + d c - 1) * 8 + a) (-1)) ((c * 6 + d c - 1) * 8 + (a + 1) % 8) 0), (fun zz => nI ((qc_u q (c * 6 + d c - 1) (x + 1)) zz)), (fun zz => nI (m zz)), tg), qc_Rmk (qc_K_up K) I1, fun P hP => ?_, fun P hP => ?_⟩
    · unfold wpX_step; refine qc_xtf _ c5 h1 ?_; refine ⟨vp_in_nI (by omega) (by decide), nm_r ((qc_rd p rfl (by omega)).trans (congrArg nI hp)) (br_t (nI_lt hx (by omega)) (nm_r (qc_m8 _) ⟨vp_in_nI (by omega) (by decide), nm_r ((qc_rr rfl (by omega)).trans ha) ⟨vp_in_nI (by omega) (by decide), nm_r ((qc_rr rfl (by omega)).trans hb) ⟨vp_in_nI (by omega) (by decide), nm_r ((qc_rr rfl (by omega)).trans hc) ⟨vp_in_nI (by omega) (by decide), nm_r (qc_st rfl (nI_1 x) (by omega)) ⟨vp_in_nI (by omega) (by decide), nm_r ((qc_rr rfl (by omega)).trans ho) (br_f (by decide) (br_f (by decide) (br_f (by decide) (br_f (by decide) (br_f (by decide) (br_f (by decide) (br_f (by decide) (br_f (by decide) (br_f (by decide) (br_f (by decide) (br_f (by decide) (br_f (by decide) (br_f (by decide) (br_f (by decide) (br_f (by decide) (br_t rfl ?_))))))))))))))))⟩⟩⟩⟩⟩))⟩
      refine ⟨qc_vi eB (by omega) (by decide), qc_vi eC (by omega) (by decide), ?_⟩
      rw [qc_rr (f := rg) eB (by omega), qc_rr (f := rg) eC (by omega)]
      unfold wpX_resumeHandle
      refine hX _ (br_t rfl ?_)
      refine qc_xc13 _ c5 h1 (by omega) (qc_us _ _ _) (by omega) (by omega) ha a8 ho _ _ 0 (fun _ => rfl) (fun z => absurd rfl z) ?_
      rw [qc_ue hs1]
      exact hP
    · refine br_f (nI_pos (by omega)) (br_f (nI_nlt (a := 4) (by omega) (by decide)) ⟨vp_in_nI (by omega) (by decide), br_t (by rw [qc_rd d rfl (by omega)]; exact nI_le (a := 1) h1 (by omega)) ⟨vp_in_nI (by omega) (by decide), nm_r ((congrArg (fun z => nI c * 6 + z - 1) (qc_rd d rfl (by omega))).trans (qc_tf h1)) ⟨vp_in_nI (by omega) (by decide), nm_r ((qc_rd q rfl (by omega)).trans (congrArg nI hq)) (br_f (nI_pos (by omega)) (br_t (nI_lt hx (by omega)) ⟨vp_in_nI (by omega) (by decide), nm_r ((qc_rr rfl (by omega)).trans ho) ⟨vp_in_nI (by omega) (by decide), nm_r (congrArg (· &&& 7) ((qc_rr rfl (by omega)).trans ha) |>.trans (qc_a7 a8)) ⟨vp_in_nI (by omega) (by decide), nm_r ((qc_rr rfl (by omega)).trans hb) (nm_r (qc_a7 b8) ⟨vp_in_nI (by omega) (by decide), nm_r (congrArg (· &&& 7) ((qc_rr rfl (by omega)).trans hc) |>.trans (qc_a7 g8)) (nm_r (qc_m8 _) (br_f (by decide) (br_f (by decide) (br_f (by decide) (br_f (by decide) (br_f (by decide) (br_f (by decide) (br_f (by decide) (br_f (by decide) (br_f (by decide) (br_f (by decide) (br_f (by decide) (br_f (by decide) (br_f (by decide) (br_t rfl ?_)))))))))))))))⟩)⟩⟩⟩))⟩⟩⟩)
      refine ⟨vp_in_nI (by omega) (by decide), nm_r (qc_st rfl (nI_1 x) (by omega)) ⟨qc_vi eB (by omega) (by decide), nm_r (qc_rr eB (by omega)) ⟨qc_vi eC (by omega) (by decide), nm_r (qc_rr eC (by omega)) ?_⟩⟩⟩
      refine br_f hg (hY _ (br_f (by decide) (br_f (by decide) (br_t rfl ?_))))
      exact br_t rfl ⟨qc_vi eA (by omega) (by decide), nm_r (qc_sr eA (by omega) rfl) ⟨qc_vi eA1 (by omega) (by decide), nm_r (qc_sr eA1 (by omega) rfl) hP⟩⟩
  by_cases s0 : s t = 0
  rotate_left
  · have s3 : s t ≠ 3 := by
      by_cases t0 : t = 0
      · rw [t0]
        have := qc_s00 I
        omega
      · have := (hA t0).2; omega
    have s4 : s t ≤ 3 := by
      by_cases t0 : t = 0
      · rw [t0]
        have := qc_s00 I
        omega
      · have := (hA t0).2; omega
    · refine .inl ⟨(nI mc, nI md, nI cl, nI lc, 1, 0, nI c, nI h, 0, re, oo, oa, ob, oc, lg, hn, (fun zz => nI (s zz)), (fun zz => nI (rs zz)), (fun zz => nI (bd zz)), (fun zz => nI (d zz)), (fun zz => nI ((qc_u p (c * 6 + d c - 1) (x + 1)) zz)), (fun zz => nI (n zz)), (upd (upd rg ((c * 6 + d c - 1) * 8 + a) (-2)) ((c * 6 + d c - 1) * 8 + (a + 1) % 8) 0), tg), (nI mc, nI md, 1, 0, nI c, nI h, nI cl, nI lc, oo, oa, ob, oc, lg, hn, (fun zz => nI (d zz)), (fun zz => nI (rs zz)), (fun zz => nI (bd zz)), (fun zz => nI (yr zz)), (fun zz => nI (lv zz)), (upd (upd rg ((c * 6 + d c - 1) * 8 + a) (-2)) ((c * 6 + d c - 1) * 8 + (a + 1) % 8) 0), (fun zz => nI ((qc_u q (c * 6 + d c - 1) (x + 1)) zz)), (fun zz => nI (m zz)), tg), qc_Rmk (qc_K_up K) I1, fun P hP => ?_, fun P hP => ?_⟩
      · unfold wpX_step; refine qc_xtf _ c5 h1 ?_; refine ⟨vp_in_nI (by omega) (by decide), nm_r ((qc_rd p rfl (by omega)).trans (congrArg nI hp)) (br_t (nI_lt hx (by omega)) (nm_r (qc_m8 _) ⟨vp_in_nI (by omega) (by decide), nm_r ((qc_rr rfl (by omega)).trans ha) ⟨vp_in_nI (by omega) (by decide), nm_r ((qc_rr rfl (by omega)).trans hb) ⟨vp_in_nI (by omega) (by decide), nm_r ((qc_rr rfl (by omega)).trans hc) ⟨vp_in_nI (by omega) (by decide), nm_r (qc_st rfl (nI_1 x) (by omega)) ⟨vp_in_nI (by omega) (by decide), nm_r ((qc_rr rfl (by omega)).trans ho) (br_f (by decide) (br_f (by decide) (br_f (by decide) (br_f (by decide) (br_f (by decide) (br_f (by decide) (br_f (by decide) (br_f (by decide) (br_f (by decide) (br_f (by decide) (br_f (by decide) (br_f (by decide) (br_f (by decide) (br_f (by decide) (br_f (by decide) (br_t rfl ?_))))))))))))))))⟩⟩⟩⟩⟩))⟩
        refine ⟨qc_vi eB (by omega) (by decide), qc_vi eC (by omega) (by decide), ?_⟩
        rw [qc_rr (f := rg) eB (by omega), qc_rr (f := rg) eC (by omega)]
        unfold wpX_resumeHandle
        refine hX _ (br_f (qc_nm1 t5) ⟨vp_in_nI (by omega) (by decide), br_f ?_ ?_⟩)
        · rw [qc_rd s rfl (by omega)]
          exact fun z => s0 ((nI_eq (b := 0) (by omega) (by omega)).mp z)
        refine qc_xc13 _ c5 h1 (by omega) (qc_us _ _ _) (by omega) (by omega) ha a8 ho _ _ 0 (fun _ => rfl) (fun z => absurd rfl z) ?_
        rw [qc_ue hs1]
        exact hP
      · refine br_f (nI_pos (by omega)) (br_f (nI_nlt (a := 4) (by omega) (by decide)) ⟨vp_in_nI (by omega) (by decide), br_t (by rw [qc_rd d rfl (by omega)]; exact nI_le (a := 1) h1 (by omega)) ⟨vp_in_nI (by omega) (by decide), nm_r ((congrArg (fun z => nI c * 6 + z - 1) (qc_rd d rfl (by omega))).trans (qc_tf h1)) ⟨vp_in_nI (by omega) (by decide), nm_r ((qc_rd q rfl (by omega)).trans (congrArg nI hq)) (br_f (nI_pos (by omega)) (br_t (nI_lt hx (by omega)) ⟨vp_in_nI (by omega) (by decide), nm_r ((qc_rr rfl (by omega)).trans ho) ⟨vp_in_nI (by omega) (by decide), nm_r (congrArg (· &&& 7) ((qc_rr rfl (by omega)).trans ha) |>.trans (qc_a7 a8)) ⟨vp_in_nI (by omega) (by decide), nm_r ((qc_rr rfl (by omega)).trans hb) (nm_r (qc_a7 b8) ⟨vp_in_nI (by omega) (by decide), nm_r (congrArg (· &&& 7) ((qc_rr rfl (by omega)).trans hc) |>.trans (qc_a7 g8)) (nm_r (qc_m8 _) (br_f (by decide) (br_f (by decide) (br_f (by decide) (br_f (by decide) (br_f (by decide) (br_f (by decide) (br_f (by decide) (br_f (by decide) (br_f (by decide) (br_f (by decide) (br_f (by decide) (br_f (by decide) (br_f (by decide) (br_t rfl ?_)))))))))))))))⟩)⟩⟩⟩))⟩⟩⟩)
        refine ⟨vp_in_nI (by omega) (by decide), nm_r (qc_st rfl (nI_1 x) (by omega)) ⟨qc_vi eB (by omega) (by decide), nm_r (qc_rr eB (by omega)) ⟨qc_vi eC (by omega) (by decide), nm_r (qc_rr eC (by omega)) ?_⟩⟩⟩
        refine qc_yco I qc_S1 _ t5 hg hA hY _ (br_f (fun z => s0 ((nI_eq (b := 0) (by omega) (by omega)).mp z)) (br_f (fun z => s3 ((nI_eq (b := 3) (by omega) (by omega)).mp z)) ?_))
        exact br_t rfl ⟨qc_vi eA (by omega) (by decide), nm_r (qc_sr eA (by omega) rfl) ⟨qc_vi eA1 (by omega) (by decide), nm_r (qc_sr eA1 (by omega) rfl) hP⟩⟩
  obtain ⟨htl, t0⟩ := qc_s0 I s0
  rcases I.2.2.2.2.2.2 t t5 htl with o | ⟨-, -, -, o1, o2, o3⟩
  · omega
  have htc : t ≠ c := fun z => htl (by rw [z]; exact List.mem_cons_self)
  have hbd : bd t < 64 := K.2.2.2.2.2.2.1 t
  have xs : (fun zz => nI (s zz)) (nI t).toNatClampNeg = 0 := by rw [qc_rd s rfl (by omega), s0]; rfl
  by_cases dt : d t = 0
  · have I' := qc_tr_en1 (b := bd t) hm K.2.1.1 I hxx (.inl ho) t5 htl s0 dt (by omega)
    have xd : (fun zz => nI (d zz)) (nI t).toNatClampNeg = 0 := by rw [qc_rd d rfl (by omega), dt]; rfl
    refine .inl ⟨(nI mc, nI md, nI cl, nI lc, 1, 0, nI t, nI h, 0, re, oo, oa, ob, oc, lg, hn, (fun zz => nI ((qc_u (qc_u s c 2) t 1) zz)), (fun zz => nI ((qc_u rs t c) zz)), (fun zz => nI (bd zz)), (fun zz => nI ((qc_u d t (d t + 1)) zz)), (fun zz => nI ((qc_u (qc_u p (c * 6 + d c - 1) (x + 1)) (t * 6 + d t) (bd t)) zz)), (fun zz => nI ((qc_u n (t * 6 + d t) 0) zz)), (qc_pr rg ((t * 6 + d t) * 8) (rg ((c * 6 + d c - 1) * 8 + g))), tg), (nI mc, nI md, 1, 0, nI t, nI h, nI cl, nI lc, oo, oa, ob, oc, lg, hn, (fun zz => nI ((qc_u d t (d t + 1)) zz)), (fun zz => nI ((qc_u rs t c) zz)), (fun zz => nI (bd zz)), (fun zz => nI (yr zz)), (fun zz => nI (lv zz)), (qc_pr rg ((t * 6 + d t) * 8) (rg ((c * 6 + d c - 1) * 8 + g))), (fun zz => nI ((qc_u (qc_u q (c * 6 + d c - 1) (x + 1)) (t * 6 + d t) (bd t)) zz)), (fun zz => nI ((qc_u m (t * 6 + d t) 0) zz)), tg), qc_Rmk (qc_K_up K) I', fun P hP => ?_, fun P hP => ?_⟩
    · unfold wpX_step; refine qc_xtf _ c5 h1 ?_; refine ⟨vp_in_nI (by omega) (by decide), nm_r ((qc_rd p rfl (by omega)).trans (congrArg nI hp)) (br_t (nI_lt hx (by omega)) (nm_r (qc_m8 _) ⟨vp_in_nI (by omega) (by decide), nm_r ((qc_rr rfl (by omega)).trans ha) ⟨vp_in_nI (by omega) (by decide), nm_r ((qc_rr rfl (by omega)).trans hb) ⟨vp_in_nI (by omega) (by decide), nm_r ((qc_rr rfl (by omega)).trans hc) ⟨vp_in_nI (by omega) (by decide), nm_r (qc_st rfl (nI_1 x) (by omega)) ⟨vp_in_nI (by omega) (by decide), nm_r ((qc_rr rfl (by omega)).trans ho) (br_f (by decide) (br_f (by decide) (br_f (by decide) (br_f (by decide) (br_f (by decide) (br_f (by decide) (br_f (by decide) (br_f (by decide) (br_f (by decide) (br_f (by decide) (br_f (by decide) (br_f (by decide) (br_f (by decide) (br_f (by decide) (br_f (by decide) (br_t rfl ?_))))))))))))))))⟩⟩⟩⟩⟩))⟩
      refine ⟨qc_vi eB (by omega) (by decide), qc_vi eC (by omega) (by decide), ?_⟩
      rw [qc_rr (f := rg) eB (by omega), qc_rr (f := rg) eC (by omega)]
      unfold wpX_resumeHandle
      refine hX _ (br_f (qc_nm1 t5) ⟨vp_in_nI (by omega) (by decide), br_t xs ⟨vp_in_nI (by omega) (by decide), nm_r (qc_st (x := 2) rfl rfl (by omega)) ⟨vp_in_nI (by omega) (by decide), nm_r (qc_st rfl rfl (by omega)) ⟨vp_in_nI (by omega) (by decide), nm_r (qc_st (x := 1) rfl rfl (by omega)) ⟨vp_in_nI (by omega) (by decide), br_t xd ⟨vp_in_nI (by omega) (by decide), ?_⟩⟩⟩⟩⟩⟩)
      rw [qc_rd bd rfl (by omega)]
      exact qc_xpush _ _ t5 (by omega) hP
    · refine br_f (nI_pos (by omega)) (br_f (nI_nlt (a := 4) (by omega) (by decide)) ⟨vp_in_nI (by omega) (by decide), br_t (by rw [qc_rd d rfl (by omega)]; exact nI_le (a := 1) h1 (by omega)) ⟨vp_in_nI (by omega) (by decide), nm_r ((congrArg (fun z => nI c * 6 + z - 1) (qc_rd d rfl (by omega))).trans (qc_tf h1)) ⟨vp_in_nI (by omega) (by decide), nm_r ((qc_rd q rfl (by omega)).trans (congrArg nI hq)) (br_f (nI_pos (by omega)) (br_t (nI_lt hx (by omega)) ⟨vp_in_nI (by omega) (by decide), nm_r ((qc_rr rfl (by omega)).trans ho) ⟨vp_in_nI (by omega) (by decide), nm_r (congrArg (· &&& 7) ((qc_rr rfl (by omega)).trans ha) |>.trans (qc_a7 a8)) ⟨vp_in_nI (by omega) (by decide), nm_r ((qc_rr rfl (by omega)).trans hb) (nm_r (qc_a7 b8) ⟨vp_in_nI (by omega) (by decide), nm_r (congrArg (· &&& 7) ((qc_rr rfl (by omega)).trans hc) |>.trans (qc_a7 g8)) (nm_r (qc_m8 _) (br_f (by decide) (br_f (by decide) (br_f (by decide) (br_f (by decide) (br_f (by decide) (br_f (by decide) (br_f (by decide) (br_f (by decide) (br_f (by decide) (br_f (by decide) (br_f (by decide) (br_f (by decide) (br_f (by decide) (br_t rfl ?_)))))))))))))))⟩)⟩⟩⟩))⟩⟩⟩)
      refine ⟨vp_in_nI (by omega) (by decide), nm_r (qc_st rfl (nI_1 x) (by omega)) ⟨qc_vi eB (by omega) (by decide), nm_r (qc_rr eB (by omega)) ⟨qc_vi eC (by omega) (by decide), nm_r (qc_rr eC (by omega)) ?_⟩⟩⟩
      refine qc_yco I qc_S1 _ t5 hg hA hY _ ?_
      rw [s0]
      refine br_t rfl (hY _ (br_t (nI_le (a := 1) (by omega) (by omega)) ⟨vp_in_nI (by omega) (by decide), nm_r (qc_st rfl rfl (by omega)) ⟨vp_in_nI (by omega) (by decide), br_t xd ⟨vp_in_nI (by omega) (by decide), ?_⟩⟩⟩))
      rw [qc_rd bd rfl (by omega)]
      exact qc_ypush _ _ t5 (by omega) hP
  · have I' := qc_tr_en2 hm I hxx (.inl ho) t5 htl s0 (by omega)
    obtain ⟨y1, yr8, yb⟩ := o3 (by omega)
    obtain ⟨yq, -, -⟩ := qc_qtop (by omega) o2
    have y64 : p (t * 6 + d t - 1) ≤ 64 := by
      have e : t * 6 + (d t - 1) = t * 6 + d t - 1 := by omega
      have := (o2 (d t - 1) (by omega)).2.1
      rw [e] at this
      exact this
    have xd : ¬ (fun zz => nI (d zz)) (nI t).toNatClampNeg = 0 := by
      rw [qc_rd d rfl (by omega)]
      exact fun z => dt ((nI_eq (b := 0) (by omega) (by omega)).mp z)
    have hp2 : qc_u p (c * 6 + d c - 1) (x + 1) (t * 6 + d t - 1) = p (t * 6 + d t - 1) := qc_uo (by omega)
    have eI : nI (t * 6 + d t - 1) * 8 + ob (nI (p (t * 6 + d t - 1) - 1)).toNatClampNeg = nI ((t * 6 + d t - 1) * 8 + yr t) := qc_fr8 rfl ((qc_rr rfl (by omega)).trans yb)
    have eY : (nI t * 6 + (fun zz => nI (d zz)) (nI t).toNatClampNeg - 1) * 8 + (fun zz => nI (yr zz)) (nI t).toNatClampNeg = nI ((t * 6 + d t - 1) * 8 + yr t) := by
      rw [qc_rd d rfl (by omega), qc_rd yr rfl (by omega), qc_tf (by omega)]
      exact qc_fr8 rfl rfl
    refine .inl ⟨(nI mc, nI md, nI cl, nI lc, 1, 0, nI t, nI h, 0, re, oo, oa, ob, oc, lg, hn, (fun zz => nI ((qc_u (qc_u s c 2) t 1) zz)), (fun zz => nI ((qc_u rs t c) zz)), (fun zz => nI (bd zz)), (fun zz => nI (d zz)), (fun zz => nI ((qc_u p (c * 6 + d c - 1) (x + 1)) zz)), (fun zz => nI (n zz)), (upd rg ((t * 6 + d t - 1) * 8 + yr t) (rg ((c * 6 + d c - 1) * 8 + g))), tg), (nI mc, nI md, 1, 0, nI t, nI h, nI cl, nI lc, oo, oa, ob, oc, lg, hn, (fun zz => nI (d zz)), (fun zz => nI ((qc_u rs t c) zz)), (fun zz => nI (bd zz)), (fun zz => nI (yr zz)), (fun zz => nI (lv zz)), (upd rg ((t * 6 + d t - 1) * 8 + yr t) (rg ((c * 6 + d c - 1) * 8 + g))), (fun zz => nI ((qc_u q (c * 6 + d c - 1) (x + 1)) zz)), (fun zz => nI (m zz)), tg), qc_Rmk (qc_K_up K) I', fun P hP => ?_, fun P hP => ?_⟩
    · unfold wpX_step; refine qc_xtf _ c5 h1 ?_; refine ⟨vp_in_nI (by omega) (by decide), nm_r ((qc_rd p rfl (by omega)).trans (congrArg nI hp)) (br_t (nI_lt hx (by omega)) (nm_r (qc_m8 _) ⟨vp_in_nI (by omega) (by decide), nm_r ((qc_rr rfl (by omega)).trans ha) ⟨vp_in_nI (by omega) (by decide), nm_r ((qc_rr rfl (by omega)).trans hb) ⟨vp_in_nI (by omega) (by decide), nm_r ((qc_rr rfl (by omega)).trans hc) ⟨vp_in_nI (by omega) (by decide), nm_r (qc_st rfl (nI_1 x) (by omega)) ⟨vp_in_nI (by omega) (by decide), nm_r ((qc_rr rfl (by omega)).trans ho) (br_f (by decide) (br_f (by decide) (br_f (by decide) (br_f (by decide) (br_f (by decide) (br_f (by decide) (br_f (by decide) (br_f (by decide) (br_f (by decide) (br_f (by decide) (br_f (by decide) (br_f (by decide) (br_f (by decide) (br_f (by decide) (br_f (by decide) (br_t rfl ?_))))))))))))))))⟩⟩⟩⟩⟩))⟩
      refine ⟨qc_vi eB (by omega) (by decide), qc_vi eC (by omega) (by decide), ?_⟩
      rw [qc_rr (f := rg) eB (by omega), qc_rr (f := rg) eC (by omega)]
      unfold wpX_resumeHandle
      refine hX _ (br_f (qc_nm1 t5) ⟨vp_in_nI (by omega) (by decide), br_t xs ⟨vp_in_nI (by omega) (by decide), nm_r (qc_st (x := 2) rfl rfl (by omega)) ⟨vp_in_nI (by omega) (by decide), nm_r (qc_st rfl rfl (by omega)) ⟨vp_in_nI (by omega) (by decide), nm_r (qc_st (x := 1) rfl rfl (by omega)) ⟨vp_in_nI (by omega) (by decide), br_f xd ?_⟩⟩⟩⟩⟩)
      refine qc_xtf _ t5 (by omega) ?_
      exact ⟨vp_in_nI (by omega) (by decide), nm_r (qc_de1 ((qc_rd (qc_u p (c * 6 + d c - 1) (x + 1)) rfl (by omega)).trans (congrArg nI hp2)) y1) ⟨vp_in_nI (by omega) (by decide), qc_vi eI (by omega) (by decide), nm_r (qc_sr eI (by omega) rfl) hP⟩⟩
    · refine br_f (nI_pos (by omega)) (br_f (nI_nlt (a := 4) (by omega) (by decide)) ⟨vp_in_nI (by omega) (by decide), br_t (by rw [qc_rd d rfl (by omega)]; exact nI_le (a := 1) h1 (by omega)) ⟨vp_in_nI (by omega) (by decide), nm_r ((congrArg (fun z => nI c * 6 + z - 1) (qc_rd d rfl (by omega))).trans (qc_tf h1)) ⟨vp_in_nI (by omega) (by decide), nm_r ((qc_rd q rfl (by omega)).trans (congrArg nI hq)) (br_f (nI_pos (by omega)) (br_t (nI_lt hx (by omega)) ⟨vp_in_nI (by omega) (by decide), nm_r ((qc_rr rfl (by omega)).trans ho) ⟨vp_in_nI (by omega) (by decide), nm_r (congrArg (· &&& 7) ((qc_rr rfl (by omega)).trans ha) |>.trans (qc_a7 a8)) ⟨vp_in_nI (by omega) (by decide), nm_r ((qc_rr rfl (by omega)).trans hb) (nm_r (qc_a7 b8) ⟨vp_in_nI (by omega) (by decide), nm_r (congrArg (· &&& 7) ((qc_rr rfl (by omega)).trans hc) |>.trans (qc_a7 g8)) (nm_r (qc_m8 _) (br_f (by decide) (br_f (by decide) (br_f (by decide) (br_f (by decide) (br_f (by decide) (br_f (by decide) (br_f (by decide) (br_f (by decide) (br_f (by decide) (br_f (by decide) (br_f (by decide) (br_f (by decide) (br_f (by decide) (br_t rfl ?_)))))))))))))))⟩)⟩⟩⟩))⟩⟩⟩)
      refine ⟨vp_in_nI (by omega) (by decide), nm_r (qc_st rfl (nI_1 x) (by omega)) ⟨qc_vi eB (by omega) (by decide), nm_r (qc_rr eB (by omega)) ⟨qc_vi eC (by omega) (by decide), nm_r (qc_rr eC (by omega)) ?_⟩⟩⟩
      refine qc_yco I qc_S1 _ t5 hg hA hY _ ?_
      rw [s0]
      exact br_t rfl (hY _ (br_t (nI_le (a := 1) (by omega) (by omega)) ⟨vp_in_nI (by omega) (by decide), nm_r (qc_st rfl rfl (by omega)) ⟨vp_in_nI (by omega) (by decide), br_f xd ⟨vp_in_nI (by omega) (by decide), vp_in_nI (by omega) (by decide), qc_vi eY (by omega) (by decide), nm_r (qc_sr eY (by omega) rfl) hP⟩⟩⟩))
theorem qc_o14 (K : qc_K mc md cl lc h B oo oa ob oc lv bd) (I : qc_I mc md oo oa ob d s lv rs yr p q n m (c :: l)) (hp : p (c * 6 + d c - 1) = x) (hx : x < cl) (ho : oo x = 14) (ha : oa x = nI a) (a8 : a < 8) (hb : ob x = nI b) (b8 : b < 8) {g : Nat} (hc : oc x = nI g) (g8 : g < 8) : qc_Out B (nI mc, nI md, nI cl, nI lc, 1, 0, nI c, nI h, 0, re, oo, oa, ob, oc, lg, hn, (fun zz => nI (s zz)), (fun zz => nI (rs zz)), (fun zz => nI (bd zz)), (fun zz => nI (d zz)), (fun zz => nI (p zz)), (fun zz => nI (n zz)), rg, tg) (nI mc, nI md, 1, 0, nI c, nI h, nI cl, nI lc, oo, oa, ob, oc, lg, hn, (fun zz => nI (d zz)), (fun zz => nI (rs zz)), (fun zz => nI (bd zz)), (fun zz => nI (yr zz)), (fun zz => nI (lv zz)), rg, (fun zz => nI (q zz)), (fun zz => nI (m zz)), tg) := by
  have c5 : c < 5 := I.2.2.1 c List.mem_cons_self
  obtain ⟨h1, hdm, hs1, hlv, hth⟩ := I.2.2.2.2.1
  have hm : md ≤ 6 := K.2.1.2
  have h6 : d c ≤ 6 := by omega
  have h64 : cl ≤ 64 := K.2.2.1
  have hl : lc ≤ 64 := K.2.2.2.1
  have hq : q (c * 6 + d c - 1) = x := (qc_qtop h1 hth).1.trans hp
  have hf : (c * 6 + d c - 1) < 30 := by omega
  have eA : nI ((c * 6 + d c - 1) * 8) + nI a = nI ((c * 6 + d c - 1) * 8 + a) := nI_add _ _
  have eA1 : nI ((c * 6 + d c - 1) * 8) + ((nI a + 1) &&& 7) = nI ((c * 6 + d c - 1) * 8 + (a + 1) % 8) := by rw [qc_a17 a8, nI_add]
  have eB : nI ((c * 6 + d c - 1) * 8) + nI b = nI ((c * 6 + d c - 1) * 8 + b) := nI_add _ _
  have eC : nI ((c * 6 + d c - 1) * 8) + nI g = nI ((c * 6 + d c - 1) * 8 + g) := nI_add _ _
  have I1 := qc_tr_pc (x := x + 1) hm I (by omega)
  have hxx : qc_RA oa (x + 1) := ⟨by omega, by omega, a, a8, ha⟩
  rcases qc_thr (mc := mc) (md := md) (cl := cl) (lc := lc) (cu := c) (st := 1) (rt := 0) (lh := nI h) (rd := 0) (re := re) (cy := nI c) (oo := oo) (oa := oa) (ob := ob) (oc := oc) (lg := lg) (hn := hn) (rg := rg) (tg := tg) (d := d) (rs := rs) (bd := bd) (yr := yr) (n := n) (m := m) (p := qc_u p (c * 6 + d c - 1) (x + 1)) (q := qc_u q (c * 6 + d c - 1) (x + 1)) (fun t => qc_al I) (rg ((c * 6 + d c - 1) * 8 + b)) with ⟨t, t5, hg, hA, hX, hY⟩ | ⟨hg, hX, hY⟩
  rotate_left
  · refine .inr ⟨(nI mc, nI md, nI cl, nI lc, 1, 0, nI c, nI h, 1, (-1), oo, oa, ob, oc, lg, hn, (fun zz => nI (s zz)), (fun zz => nI (rs zz)), (fun zz => nI (bd zz)), (fun zz => nI (d zz)), (fun zz => nI ((qc_u p (c * 6 + d c - 1) (x + 1)) zz)), (fun zz => nI (n zz)), rg, tg), (nI mc, nI md, 1, 0, nI c, nI h, nI cl, nI lc, oo, oa, ob, oc, lg, hn, (fun zz => nI (d zz)), (fun zz => nI (rs zz)), (fun zz => nI (bd zz)), (fun zz => nI (yr zz)), (fun zz => nI (lv zz)), rg, (fun zz => nI ((qc_u q (c * 6 + d c - 1) (x + 1)) zz)), (fun zz => nI (m zz)), tg), c, -1, qc_Qmk (qc_K_up K) (qc_J_of I1), fun P hP => ?_, fun w hw P hP => ?_⟩
    · unfold wpX_step; refine qc_xtf _ c5 h1 ?_; refine ⟨vp_in_nI (by omega) (by decide), nm_r ((qc_rd p rfl (by omega)).trans (congrArg nI hp)) (br_t (nI_lt hx (by omega)) (nm_r (qc_m8 _) ⟨vp_in_nI (by omega) (by decide), nm_r ((qc_rr rfl (by omega)).trans ha) ⟨vp_in_nI (by omega) (by decide), nm_r ((qc_rr rfl (by omega)).trans hb) ⟨vp_in_nI (by omega) (by decide), nm_r ((qc_rr rfl (by omega)).trans hc) ⟨vp_in_nI (by omega) (by decide), nm_r (qc_st rfl (nI_1 x) (by omega)) ⟨vp_in_nI (by omega) (by decide), nm_r ((qc_rr rfl (by omega)).trans ho) (br_f (by decide) (br_f (by decide) (br_f (by decide) (br_f (by decide) (br_f (by decide) (br_f (by decide) (br_f (by decide) (br_f (by decide) (br_f (by decide) (br_f (by decide) (br_f (by decide) (br_f (by decide) (br_f (by decide) (br_f (by decide) (br_f (by decide) (br_f (by decide) (br_t rfl ?_)))))))))))))))))⟩⟩⟩⟩⟩))⟩
      refine ⟨qc_vi eB (by omega) (by decide), qc_vi eC (by omega) (by decide), ?_⟩
      rw [qc_rr (f := rg) eB (by omega), qc_rr (f := rg) eC (by omega)]
      unfold wpX_resumeHandle
      refine hX _ (br_t rfl ?_)
      refine qc_xcr _ c5 h1 (by omega) (qc_us _ _ _) (by omega) (by omega) ho _ ?_
      rw [qc_ue hs1]
      exact hP
    · refine br_f (nI_pos (by omega)) (br_f (nI_nlt (a := 4) (by omega) (by decide)) ⟨vp_in_nI (by omega) (by decide), br_t (by rw [qc_rd d rfl (by omega)]; exact nI_le (a := 1) h1 (by omega)) ⟨vp_in_nI (by omega) (by decide), nm_r ((congrArg (fun z => nI c * 6 + z - 1) (qc_rd d rfl (by omega))).trans (qc_tf h1)) ⟨vp_in_nI (by omega) (by decide), nm_r ((qc_rd q rfl (by omega)).trans (congrArg nI hq)) (br_f (nI_pos (by omega)) (br_t (nI_lt hx (by omega)) ⟨vp_in_nI (by omega) (by decide), nm_r ((qc_rr rfl (by omega)).trans ho) ⟨vp_in_nI (by omega) (by decide), nm_r (congrArg (· &&& 7) ((qc_rr rfl (by omega)).trans ha) |>.trans (qc_a7 a8)) ⟨vp_in_nI (by omega) (by decide), nm_r ((qc_rr rfl (by omega)).trans hb) (nm_r (qc_a7 b8) ⟨vp_in_nI (by omega) (by decide), nm_r (congrArg (· &&& 7) ((qc_rr rfl (by omega)).trans hc) |>.trans (qc_a7 g8)) (nm_r (qc_m8 _) (br_f (by decide) (br_f (by decide) (br_f (by decide) (br_f (by decide) (br_f (by decide) (br_f (by decide) (br_f (by decide) (br_f (by decide) (br_f (by decide) (br_f (by decide) (br_f (by decide) (br_f (by decide) (br_f (by decide) (br_f (by decide) (br_t rfl ?_))))))))))))))))⟩)⟩⟩⟩))⟩⟩⟩)
      refine ⟨vp_in_nI (by omega) (by decide), nm_r (qc_st rfl (nI_1 x) (by omega)) ⟨qc_vi eB (by omega) (by decide), nm_r (qc_rr eB (by omega)) ⟨qc_vi eC (by omega) (by decide), nm_r (qc_rr eC (by omega)) ?_⟩⟩⟩
      refine br_f hg (hY _ (br_f (by decide) (br_f (by decide) (br_t rfl ?_))))
      exact br_f (by decide) (hw _ hP)
  by_cases s0 : s t = 0
  rotate_left
  · have s3 : s t ≠ 3 := by
      by_cases t0 : t = 0
      · rw [t0]
        have := qc_s00 I
        omega
      · have := (hA t0).2; omega
    have s4 : s t ≤ 3 := by
      by_cases t0 : t = 0
      · rw [t0]
        have := qc_s00 I
        omega
      · have := (hA t0).2; omega
    · refine .inr ⟨(nI mc, nI md, nI cl, nI lc, 1, 0, nI c, nI h, 1, (-2), oo, oa, ob, oc, lg, hn, (fun zz => nI (s zz)), (fun zz => nI (rs zz)), (fun zz => nI (bd zz)), (fun zz => nI (d zz)), (fun zz => nI ((qc_u p (c * 6 + d c - 1) (x + 1)) zz)), (fun zz => nI (n zz)), rg, tg), (nI mc, nI md, 1, 0, nI c, nI h, nI cl, nI lc, oo, oa, ob, oc, lg, hn, (fun zz => nI (d zz)), (fun zz => nI (rs zz)), (fun zz => nI (bd zz)), (fun zz => nI (yr zz)), (fun zz => nI (lv zz)), rg, (fun zz => nI ((qc_u q (c * 6 + d c - 1) (x + 1)) zz)), (fun zz => nI (m zz)), tg), c, -2, qc_Qmk (qc_K_up K) (qc_J_of I1), fun P hP => ?_, fun w hw P hP => ?_⟩
      · unfold wpX_step; refine qc_xtf _ c5 h1 ?_; refine ⟨vp_in_nI (by omega) (by decide), nm_r ((qc_rd p rfl (by omega)).trans (congrArg nI hp)) (br_t (nI_lt hx (by omega)) (nm_r (qc_m8 _) ⟨vp_in_nI (by omega) (by decide), nm_r ((qc_rr rfl (by omega)).trans ha) ⟨vp_in_nI (by omega) (by decide), nm_r ((qc_rr rfl (by omega)).trans hb) ⟨vp_in_nI (by omega) (by decide), nm_r ((qc_rr rfl (by omega)).trans hc) ⟨vp_in_nI (by omega) (by decide), nm_r (qc_st rfl (nI_1 x) (by omega)) ⟨vp_in_nI (by omega) (by decide), nm_r ((qc_rr rfl (by omega)).trans ho) (br_f (by decide) (br_f (by decide) (br_f (by decide) (br_f (by decide) (br_f (by decide) (br_f (by decide) (br_f (by decide) (br_f (by decide) (br_f (by decide) (br_f (by decide) (br_f (by decide) (br_f (by decide) (br_f (by decide) (br_f (by decide) (br_f (by decide) (br_f (by decide) (br_t rfl ?_)))))))))))))))))⟩⟩⟩⟩⟩))⟩
        refine ⟨qc_vi eB (by omega) (by decide), qc_vi eC (by omega) (by decide), ?_⟩
        rw [qc_rr (f := rg) eB (by omega), qc_rr (f := rg) eC (by omega)]
        unfold wpX_resumeHandle
        refine hX _ (br_f (qc_nm1 t5) ⟨vp_in_nI (by omega) (by decide), br_f ?_ ?_⟩)
        · rw [qc_rd s rfl (by omega)]
          exact fun z => s0 ((nI_eq (b := 0) (by omega) (by omega)).mp z)
        refine qc_xcr _ c5 h1 (by omega) (qc_us _ _ _) (by omega) (by omega) ho _ ?_
        rw [qc_ue hs1]
        exact hP
      · refine br_f (nI_pos (by omega)) (br_f (nI_nlt (a := 4) (by omega) (by decide)) ⟨vp_in_nI (by omega) (by decide), br_t (by rw [qc_rd d rfl (by omega)]; exact nI_le (a := 1) h1 (by omega)) ⟨vp_in_nI (by omega) (by decide), nm_r ((congrArg (fun z => nI c * 6 + z - 1) (qc_rd d rfl (by omega))).trans (qc_tf h1)) ⟨vp_in_nI (by omega) (by decide), nm_r ((qc_rd q rfl (by omega)).trans (congrArg nI hq)) (br_f (nI_pos (by omega)) (br_t (nI_lt hx (by omega)) ⟨vp_in_nI (by omega) (by decide), nm_r ((qc_rr rfl (by omega)).trans ho) ⟨vp_in_nI (by omega) (by decide), nm_r (congrArg (· &&& 7) ((qc_rr rfl (by omega)).trans ha) |>.trans (qc_a7 a8)) ⟨vp_in_nI (by omega) (by decide), nm_r ((qc_rr rfl (by omega)).trans hb) (nm_r (qc_a7 b8) ⟨vp_in_nI (by omega) (by decide), nm_r (congrArg (· &&& 7) ((qc_rr rfl (by omega)).trans hc) |>.trans (qc_a7 g8)) (nm_r (qc_m8 _) (br_f (by decide) (br_f (by decide) (br_f (by decide) (br_f (by decide) (br_f (by decide) (br_f (by decide) (br_f (by decide) (br_f (by decide) (br_f (by decide) (br_f (by decide) (br_f (by decide) (br_f (by decide) (br_f (by decide) (br_f (by decide) (br_t rfl ?_))))))))))))))))⟩)⟩⟩⟩))⟩⟩⟩)
        refine ⟨vp_in_nI (by omega) (by decide), nm_r (qc_st rfl (nI_1 x) (by omega)) ⟨qc_vi eB (by omega) (by decide), nm_r (qc_rr eB (by omega)) ⟨qc_vi eC (by omega) (by decide), nm_r (qc_rr eC (by omega)) ?_⟩⟩⟩
        refine qc_yco I qc_S1 _ t5 hg hA hY _ (br_f (fun z => s0 ((nI_eq (b := 0) (by omega) (by omega)).mp z)) (br_f (fun z => s3 ((nI_eq (b := 3) (by omega) (by omega)).mp z)) ?_))
        exact br_f (by decide) (hw _ hP)
  obtain ⟨htl, t0⟩ := qc_s0 I s0
  rcases I.2.2.2.2.2.2 t t5 htl with o | ⟨-, -, -, o1, o2, o3⟩
  · omega
  have htc : t ≠ c := fun z => htl (by rw [z]; exact List.mem_cons_self)
  have hbd : bd t < 64 := K.2.2.2.2.2.2.1 t
  have xs : (fun zz => nI (s zz)) (nI t).toNatClampNeg = 0 := by rw [qc_rd s rfl (by omega), s0]; rfl
  by_cases dt : d t = 0
  · have I' := qc_tr_en1 (b := bd t) hm K.2.1.1 I hxx (.inr ho) t5 htl s0 dt (by omega)
    have xd : (fun zz => nI (d zz)) (nI t).toNatClampNeg = 0 := by rw [qc_rd d rfl (by omega), dt]; rfl
    refine .inl ⟨(nI mc, nI md, nI cl, nI lc, 1, 0, nI t, nI h, 0, re, oo, oa, ob, oc, lg, hn, (fun zz => nI ((qc_u (qc_u s c 2) t 1) zz)), (fun zz => nI ((qc_u rs t c) zz)), (fun zz => nI (bd zz)), (fun zz => nI ((qc_u d t (d t + 1)) zz)), (fun zz => nI ((qc_u (qc_u p (c * 6 + d c - 1) (x + 1)) (t * 6 + d t) (bd t)) zz)), (fun zz => nI ((qc_u n (t * 6 + d t) 0) zz)), (qc_pr rg ((t * 6 + d t) * 8) (rg ((c * 6 + d c - 1) * 8 + g))), tg), (nI mc, nI md, 1, 0, nI t, nI h, nI cl, nI lc, oo, oa, ob, oc, lg, hn, (fun zz => nI ((qc_u d t (d t + 1)) zz)), (fun zz => nI ((qc_u rs t c) zz)), (fun zz => nI (bd zz)), (fun zz => nI (yr zz)), (fun zz => nI (lv zz)), (qc_pr rg ((t * 6 + d t) * 8) (rg ((c * 6 + d c - 1) * 8 + g))), (fun zz => nI ((qc_u (qc_u q (c * 6 + d c - 1) (x + 1)) (t * 6 + d t) (bd t)) zz)), (fun zz => nI ((qc_u m (t * 6 + d t) 0) zz)), tg), qc_Rmk (qc_K_up K) I', fun P hP => ?_, fun P hP => ?_⟩
    · unfold wpX_step; refine qc_xtf _ c5 h1 ?_; refine ⟨vp_in_nI (by omega) (by decide), nm_r ((qc_rd p rfl (by omega)).trans (congrArg nI hp)) (br_t (nI_lt hx (by omega)) (nm_r (qc_m8 _) ⟨vp_in_nI (by omega) (by decide), nm_r ((qc_rr rfl (by omega)).trans ha) ⟨vp_in_nI (by omega) (by decide), nm_r ((qc_rr rfl (by omega)).trans hb) ⟨vp_in_nI (by omega) (by decide), nm_r ((qc_rr rfl (by omega)).trans hc) ⟨vp_in_nI (by omega) (by decide), nm_r (qc_st rfl (nI_1 x) (by omega)) ⟨vp_in_nI (by omega) (by decide), nm_r ((qc_rr rfl (by omega)).trans ho) (br_f (by decide) (br_f (by decide) (br_f (by decide) (br_f (by decide) (br_f (by decide) (br_f (by decide) (br_f (by decide) (br_f (by decide) (br_f (by decide) (br_f (by decide) (br_f (by decide) (br_f (by decide) (br_f (by decide) (br_f (by decide) (br_f (by decide) (br_f (by decide) (br_t rfl ?_)))))))))))))))))⟩⟩⟩⟩⟩))⟩
      refine ⟨qc_vi eB (by omega) (by decide), qc_vi eC (by omega) (by decide), ?_⟩
      rw [qc_rr (f := rg) eB (by omega), qc_rr (f := rg) eC (by omega)]
      unfold wpX_resumeHandle
      refine hX _ (br_f (qc_nm1 t5) ⟨vp_in_nI (by omega) (by decide), br_t xs ⟨vp_in_nI (by omega) (by decide), nm_r (qc_st (x := 2) rfl rfl (by omega)) ⟨vp_in_nI (by omega) (by decide), nm_r (qc_st rfl rfl (by omega)) ⟨vp_in_nI (by omega) (by decide), nm_r (qc_st (x := 1) rfl rfl (by omega)) ⟨vp_in_nI (by omega) (by decide), br_t xd ⟨vp_in_nI (by omega) (by decide), ?_⟩⟩⟩⟩⟩⟩)
      rw [qc_rd bd rfl (by omega)]
      exact qc_xpush _ _ t5 (by omega) hP
    · refine br_f (nI_pos (by omega)) (br_f (nI_nlt (a := 4) (by omega) (by decide)) ⟨vp_in_nI (by omega) (by decide), br_t (by rw [qc_rd d rfl (by omega)]; exact nI_le (a := 1) h1 (by omega)) ⟨vp_in_nI (by omega) (by decide), nm_r ((congrArg (fun z => nI c * 6 + z - 1) (qc_rd d rfl (by omega))).trans (qc_tf h1)) ⟨vp_in_nI (by omega) (by decide), nm_r ((qc_rd q rfl (by omega)).trans (congrArg nI hq)) (br_f (nI_pos (by omega)) (br_t (nI_lt hx (by omega)) ⟨vp_in_nI (by omega) (by decide), nm_r ((qc_rr rfl (by omega)).trans ho) ⟨vp_in_nI (by omega) (by decide), nm_r (congrArg (· &&& 7) ((qc_rr rfl (by omega)).trans ha) |>.trans (qc_a7 a8)) ⟨vp_in_nI (by omega) (by decide), nm_r ((qc_rr rfl (by omega)).trans hb) (nm_r (qc_a7 b8) ⟨vp_in_nI (by omega) (by decide), nm_r (congrArg (· &&& 7) ((qc_rr rfl (by omega)).trans hc) |>.trans (qc_a7 g8)) (nm_r (qc_m8 _) (br_f (by decide) (br_f (by decide) (br_f (by decide) (br_f (by decide) (br_f (by decide) (br_f (by decide) (br_f (by decide) (br_f (by decide) (br_f (by decide) (br_f (by decide) (br_f (by decide) (br_f (by decide) (br_f (by decide) (br_f (by decide) (br_t rfl ?_))))))))))))))))⟩)⟩⟩⟩))⟩⟩⟩)
      refine ⟨vp_in_nI (by omega) (by decide), nm_r (qc_st rfl (nI_1 x) (by omega)) ⟨qc_vi eB (by omega) (by decide), nm_r (qc_rr eB (by omega)) ⟨qc_vi eC (by omega) (by decide), nm_r (qc_rr eC (by omega)) ?_⟩⟩⟩
      refine qc_yco I qc_S1 _ t5 hg hA hY _ ?_
      rw [s0]
      refine br_t rfl (hY _ (br_t (nI_le (a := 1) (by omega) (by omega)) ⟨vp_in_nI (by omega) (by decide), nm_r (qc_st rfl rfl (by omega)) ⟨vp_in_nI (by omega) (by decide), br_t xd ⟨vp_in_nI (by omega) (by decide), ?_⟩⟩⟩))
      rw [qc_rd bd rfl (by omega)]
      exact qc_ypush _ _ t5 (by omega) hP
  · have I' := qc_tr_en2 hm I hxx (.inr ho) t5 htl s0 (by omega)
    obtain ⟨y1, yr8, yb⟩ := o3 (by omega)
    obtain ⟨yq, -, -⟩ := qc_qtop (by omega) o2
    have y64 : p (t * 6 + d t - 1) ≤ 64 := by
      have e : t * 6 + (d t - 1) = t * 6 + d t - 1 := by omega
      have := (o2 (d t - 1) (by omega)).2.1
      rw [e] at this
      exact this
    have xd : ¬ (fun zz => nI (d zz)) (nI t).toNatClampNeg = 0 := by
      rw [qc_rd d rfl (by omega)]
      exact fun z => dt ((nI_eq (b := 0) (by omega) (by omega)).mp z)
    have hp2 : qc_u p (c * 6 + d c - 1) (x + 1) (t * 6 + d t - 1) = p (t * 6 + d t - 1) := qc_uo (by omega)
    have eI : nI (t * 6 + d t - 1) * 8 + ob (nI (p (t * 6 + d t - 1) - 1)).toNatClampNeg = nI ((t * 6 + d t - 1) * 8 + yr t) := qc_fr8 rfl ((qc_rr rfl (by omega)).trans yb)
    have eY : (nI t * 6 + (fun zz => nI (d zz)) (nI t).toNatClampNeg - 1) * 8 + (fun zz => nI (yr zz)) (nI t).toNatClampNeg = nI ((t * 6 + d t - 1) * 8 + yr t) := by
      rw [qc_rd d rfl (by omega), qc_rd yr rfl (by omega), qc_tf (by omega)]
      exact qc_fr8 rfl rfl
    refine .inl ⟨(nI mc, nI md, nI cl, nI lc, 1, 0, nI t, nI h, 0, re, oo, oa, ob, oc, lg, hn, (fun zz => nI ((qc_u (qc_u s c 2) t 1) zz)), (fun zz => nI ((qc_u rs t c) zz)), (fun zz => nI (bd zz)), (fun zz => nI (d zz)), (fun zz => nI ((qc_u p (c * 6 + d c - 1) (x + 1)) zz)), (fun zz => nI (n zz)), (upd rg ((t * 6 + d t - 1) * 8 + yr t) (rg ((c * 6 + d c - 1) * 8 + g))), tg), (nI mc, nI md, 1, 0, nI t, nI h, nI cl, nI lc, oo, oa, ob, oc, lg, hn, (fun zz => nI (d zz)), (fun zz => nI ((qc_u rs t c) zz)), (fun zz => nI (bd zz)), (fun zz => nI (yr zz)), (fun zz => nI (lv zz)), (upd rg ((t * 6 + d t - 1) * 8 + yr t) (rg ((c * 6 + d c - 1) * 8 + g))), (fun zz => nI ((qc_u q (c * 6 + d c - 1) (x + 1)) zz)), (fun zz => nI (m zz)), tg), qc_Rmk (qc_K_up K) I', fun P hP => ?_, fun P hP => ?_⟩
    · unfold wpX_step; refine qc_xtf _ c5 h1 ?_; refine ⟨vp_in_nI (by omega) (by decide), nm_r ((qc_rd p rfl (by omega)).trans (congrArg nI hp)) (br_t (nI_lt hx (by omega)) (nm_r (qc_m8 _) ⟨vp_in_nI (by omega) (by decide), nm_r ((qc_rr rfl (by omega)).trans ha) ⟨vp_in_nI (by omega) (by decide), nm_r ((qc_rr rfl (by omega)).trans hb) ⟨vp_in_nI (by omega) (by decide), nm_r ((qc_rr rfl (by omega)).trans hc) ⟨vp_in_nI (by omega) (by decide), nm_r (qc_st rfl (nI_1 x) (by omega)) ⟨vp_in_nI (by omega) (by decide), nm_r ((qc_rr rfl (by omega)).trans ho) (br_f (by decide) (br_f (by decide) (br_f (by decide) (br_f (by decide) (br_f (by decide) (br_f (by decide) (br_f (by decide) (br_f (by decide) (br_f (by decide) (br_f (by decide) (br_f (by decide) (br_f (by decide) (br_f (by decide) (br_f (by decide) (br_f (by decide) (br_f (by decide) (br_t rfl ?_)))))))))))))))))⟩⟩⟩⟩⟩))⟩
      refine ⟨qc_vi eB (by omega) (by decide), qc_vi eC (by omega) (by decide), ?_⟩
      rw [qc_rr (f := rg) eB (by omega), qc_rr (f := rg) eC (by omega)]
      unfold wpX_resumeHandle
      refine hX _ (br_f (qc_nm1 t5) ⟨vp_in_nI (by omega) (by decide), br_t xs ⟨vp_in_nI (by omega) (by decide), nm_r (qc_st (x := 2) rfl rfl (by omega)) ⟨vp_in_nI (by omega) (by decide), nm_r (qc_st rfl rfl (by omega)) ⟨vp_in_nI (by omega) (by decide), nm_r (qc_st (x := 1) rfl rfl (by omega)) ⟨vp_in_nI (by omega) (by decide), br_f xd ?_⟩⟩⟩⟩⟩)
      refine qc_xtf _ t5 (by omega) ?_
      exact ⟨vp_in_nI (by omega) (by decide), nm_r (qc_de1 ((qc_rd (qc_u p (c * 6 + d c - 1) (x + 1)) rfl (by omega)).trans (congrArg nI hp2)) y1) ⟨vp_in_nI (by omega) (by decide), qc_vi eI (by omega) (by decide), nm_r (qc_sr eI (by omega) rfl) hP⟩⟩
    · refine br_f (nI_pos (by omega)) (br_f (nI_nlt (a := 4) (by omega) (by decide)) ⟨vp_in_nI (by omega) (by decide), br_t (by rw [qc_rd d rfl (by omega)]; exact nI_le (a := 1) h1 (by omega)) ⟨vp_in_nI (by omega) (by decide), nm_r ((congrArg (fun z => nI c * 6 + z - 1) (qc_rd d rfl (by omega))).trans (qc_tf h1)) ⟨vp_in_nI (by omega) (by decide), nm_r ((qc_rd q rfl (by omega)).trans (congrArg nI hq)) (br_f (nI_pos (by omega)) (br_t (nI_lt hx (by omega)) ⟨vp_in_nI (by omega) (by decide), nm_r ((qc_rr rfl (by omega)).trans ho) ⟨vp_in_nI (by omega) (by decide), nm_r (congrArg (· &&& 7) ((qc_rr rfl (by omega)).trans ha) |>.trans (qc_a7 a8)) ⟨vp_in_nI (by omega) (by decide), nm_r ((qc_rr rfl (by omega)).trans hb) (nm_r (qc_a7 b8) ⟨vp_in_nI (by omega) (by decide), nm_r (congrArg (· &&& 7) ((qc_rr rfl (by omega)).trans hc) |>.trans (qc_a7 g8)) (nm_r (qc_m8 _) (br_f (by decide) (br_f (by decide) (br_f (by decide) (br_f (by decide) (br_f (by decide) (br_f (by decide) (br_f (by decide) (br_f (by decide) (br_f (by decide) (br_f (by decide) (br_f (by decide) (br_f (by decide) (br_f (by decide) (br_f (by decide) (br_t rfl ?_))))))))))))))))⟩)⟩⟩⟩))⟩⟩⟩)
      refine ⟨vp_in_nI (by omega) (by decide), nm_r (qc_st rfl (nI_1 x) (by omega)) ⟨qc_vi eB (by omega) (by decide), nm_r (qc_rr eB (by omega)) ⟨qc_vi eC (by omega) (by decide), nm_r (qc_rr eC (by omega)) ?_⟩⟩⟩
      refine qc_yco I qc_S1 _ t5 hg hA hY _ ?_
      rw [s0]
      exact br_t rfl (hY _ (br_t (nI_le (a := 1) (by omega) (by omega)) ⟨vp_in_nI (by omega) (by decide), nm_r (qc_st rfl rfl (by omega)) ⟨vp_in_nI (by omega) (by decide), br_f xd ⟨vp_in_nI (by omega) (by decide), vp_in_nI (by omega) (by decide), qc_vi eY (by omega) (by decide), nm_r (qc_sr eY (by omega) rfl) hP⟩⟩⟩))
end
end
section
section
variable {mc md cl lc cu h B : Nat} {st rt lh rd re cy : Int32} {oo oa ob oc lg hn rg tg : Nat → Int32} {d s lv rs bd yr p q n m : Nat → Nat} {c r t x a b : Nat} {l L : List Nat}
theorem qc_xlcl (P : Int32 → Prop) (al : ∀ t, t ≠ 0 → t < 5 → (s t = 3 ∧ lv t = 0) ∨ (s t < 3 ∧ lv t = 1)) : ∀ k j acc, j + k = 5 → j ≠ 0 → acc ≤ j → P (nI (acc + qc_sm lv k j)) → wX_getLiveCount_4 P (nI mc) (nI md) (nI cl) (nI lc) st rt (nI cu) lh rd re oo oa ob oc lg hn (fun zz => nI (s zz)) (fun zz => nI (rs zz)) (fun zz => nI (bd zz)) (fun zz => nI (d zz)) (fun zz => nI (p zz)) (fun zz => nI (n zz)) rg tg (k + 1) (nI acc) (nI j) := by
  intro k
  induction k with
  | zero =>
    intro j acc hj _ _ hP
    have e : j = 5 := by omega
    subst e
    exact br_t (nI_le (a := 5) (b := 5) (by omega) (by decide)) hP
  | succ k ih =>
    intro j acc hj j0 ha hP
    refine br_f (nI_ge (b := 5) (by omega) (by decide)) ⟨vp_in_nI (by omega) (by decide), ?_⟩
    have es : (fun zz => nI (s zz)) (nI j).toNatClampNeg = nI (s j) := qc_rd s rfl (by omega)
    have hs : qc_sm lv (k + 1) j = lv j + qc_sm lv k (j + 1) := rfl
    rw [hs] at hP
    rcases al j j0 (by omega) with ⟨a1, a2⟩ | ⟨a1, a2⟩
    · refine br_t (by rw [es, a1]; rfl) (nm_r (nI_1 j) (ih (j + 1) acc (by omega) (by omega) (by omega) ?_))
      rw [a2, Nat.zero_add] at hP
      exact hP
    · refine br_f (by rw [es]; exact fun z => by have := (nI_eq (b := 3) (by omega) (by decide)).mp z; omega) (nm_r (nI_1 acc) (nm_r (nI_1 j) (ih (j + 1) (acc + 1) (by omega) (by omega) (by omega) ?_)))
      rw [a2, ← Nat.add_assoc] at hP
      exact hP
theorem qc_xlc (P : Int32 → Prop) (al : ∀ t, t ≠ 0 → t < 5 → (s t = 3 ∧ lv t = 0) ∨ (s t < 3 ∧ lv t = 1)) (hP : P (nI (qc_sm lv 4 1))) : wpX_getLiveCount P (nI mc, nI md, nI cl, nI lc, st, rt, nI cu, lh, rd, re, oo, oa, ob, oc, lg, hn, (fun zz => nI (s zz)), (fun zz => nI (rs zz)), (fun zz => nI (bd zz)), (fun zz => nI (d zz)), (fun zz => nI (p zz)), (fun zz => nI (n zz)), rg, tg) :=
  ⟨5, qc_xlcl P al 4 1 0 rfl (by omega) (by omega) (by rw [Nat.zero_add]; exact hP)⟩
theorem qc_ylcl (P : Int32 → Prop) (al : ∀ t, t ≠ 0 → t < 5 → (s t = 3 ∧ lv t = 0) ∨ (s t < 3 ∧ lv t = 1)) : ∀ k j acc, j + k = 5 → j ≠ 0 → acc ≤ j → P (nI (acc + qc_sm lv k j)) → wY_getLiveCount_4 P (nI mc) (nI md) st rt cy lh (nI cl) (nI lc) oo oa ob oc lg hn (fun zz => nI (d zz)) (fun zz => nI (rs zz)) (fun zz => nI (bd zz)) (fun zz => nI (yr zz)) (fun zz => nI (lv zz)) rg (fun zz => nI (q zz)) (fun zz => nI (m zz)) tg (k + 1) (nI acc) (nI j) := by
  intro k
  induction k with
  | zero =>
    intro j acc hj _ _ hP
    have e : j = 5 := by omega
    subst e
    exact br_t (nI_lt (a := 4) (b := 5) (by omega) (by decide)) hP
  | succ k ih =>
    intro j acc hj j0 ha hP
    refine br_f (nI_nlt (a := 4) (by omega) (by decide)) ⟨vp_in_nI (by omega) (by decide), ?_⟩
    have es : (fun zz => nI (lv zz)) (nI j).toNatClampNeg = nI (lv j) := qc_rd lv rfl (by omega)
    have hs : qc_sm lv (k + 1) j = lv j + qc_sm lv k (j + 1) := rfl
    rw [hs] at hP
    rcases al j j0 (by omega) with ⟨a1, a2⟩ | ⟨a1, a2⟩
    · refine br_t (by rw [es, a2]; rfl) (nm_r (nI_1 j) (ih (j + 1) acc (by omega) (by omega) (by omega) ?_))
      rw [a2, Nat.zero_add] at hP
      exact hP
    · refine br_f (by rw [es, a2]; decide) (nm_r (nI_1 acc) (nm_r (nI_1 j) (ih (j + 1) (acc + 1) (by omega) (by omega) (by omega) ?_)))
      rw [a2, ← Nat.add_assoc] at hP
      exact hP
theorem qc_ylc (P : Int32 → Prop) (al : ∀ t, t ≠ 0 → t < 5 → (s t = 3 ∧ lv t = 0) ∨ (s t < 3 ∧ lv t = 1)) (hP : P (nI (qc_sm lv 4 1))) : wpY_getLiveCount P (nI mc, nI md, st, rt, cy, lh, nI cl, nI lc, oo, oa, ob, oc, lg, hn, (fun zz => nI (d zz)), (fun zz => nI (rs zz)), (fun zz => nI (bd zz)), (fun zz => nI (yr zz)), (fun zz => nI (lv zz)), rg, (fun zz => nI (q zz)), (fun zz => nI (m zz)), tg) :=
  ⟨5, qc_ylcl (s := s) P al 4 1 0 rfl (by omega) (by omega) (by rw [Nat.zero_add]; exact hP)⟩
theorem qc_xfrl (P : Int32 → Prop) (h4 : mc ≤ 4) (al : ∀ t, t ≠ 0 → t < 5 → (s t = 3 ∧ lv t = 0) ∨ (s t < 3 ∧ lv t = 1)) : ∀ k j, j + k = mc + 1 → j ≠ 0 → (qc_fr lv k j < j + k → P (nI (qc_fr lv k j))) → (¬ qc_fr lv k j < j + k → P (-1)) → wX_freeThread_2 P (nI mc) (nI md) (nI cl) (nI lc) st rt (nI cu) lh rd re oo oa ob oc lg hn (fun zz => nI (s zz)) (fun zz => nI (rs zz)) (fun zz => nI (bd zz)) (fun zz => nI (d zz)) (fun zz => nI (p zz)) (fun zz => nI (n zz)) rg tg (k + 1) (nI j) := by
  intro k
  induction k with
  | zero =>
    intro j hj _ _ hN
    exact br_t (nI_lt (by omega) (by omega)) (hN (by show ¬ j < j + 0; omega))
  | succ k ih =>
    intro j hj j0 hP hN
    refine br_f (nI_nlt (by omega) (by omega)) ⟨vp_in_nI (by omega) (by decide), ?_⟩
    have es : (fun zz => nI (s zz)) (nI j).toNatClampNeg = nI (s j) := qc_rd s rfl (by omega)
    rcases al j j0 (by omega) with ⟨a1, a2⟩ | ⟨a1, a2⟩
    · have e : qc_fr lv (k + 1) j = j := if_pos a2
      rw [e] at hP
      exact br_t (by rw [es, a1]; rfl) (hP (by omega))
    · have e : qc_fr lv (k + 1) j = qc_fr lv k (j + 1) := if_neg (by omega)
      have e2 : j + (k + 1) = j + 1 + k := by omega
      rw [e, e2] at hP hN
      exact br_f (by rw [es]; exact fun z => by have := (nI_eq (b := 3) (by omega) (by decide)).mp z; omega) (nm_r (nI_1 j) (ih (j + 1) (by omega) (by omega) hP hN))
theorem qc_xfr (P : Int32 → Prop) (h4 : mc ≤ 4) (al : ∀ t, t ≠ 0 → t < 5 → (s t = 3 ∧ lv t = 0) ∨ (s t < 3 ∧ lv t = 1)) (hP : qc_fr lv mc 1 ≤ mc → P (nI (qc_fr lv mc 1))) (hN : ¬ qc_fr lv mc 1 ≤ mc → P (-1)) : wpX_freeThread P (nI mc, nI md, nI cl, nI lc, st, rt, nI cu, lh, rd, re, oo, oa, ob, oc, lg, hn, (fun zz => nI (s zz)), (fun zz => nI (rs zz)), (fun zz => nI (bd zz)), (fun zz => nI (d zz)), (fun zz => nI (p zz)), (fun zz => nI (n zz)), rg, tg) :=
  ⟨mc + 1, qc_xfrl P h4 al mc 1 (by omega) (by omega) (fun z => hP (by omega)) (fun z => hN (by omega))⟩
theorem qc_yfrl (P : SY → Prop) {x1 x2 x3 x5 x6 x9 : Int32} (hv : ∀ t, t < 5 → lv t ≤ 1) : ∀ (i : Nat) (T : Int32), i ≤ 4 →
    wY_step_665 P x1 x2 x3 x5 x6 x9 (nI mc) (nI md) st rt cy lh (nI cl) (nI lc) oo oa ob oc lg hn (fun zz => nI (d zz)) (fun zz => nI (rs zz)) (fun zz => nI (bd zz)) (fun zz => nI (yr zz)) (fun zz => nI (lv zz)) rg (fun zz => nI (q zz)) (fun zz => nI (m zz)) tg 1 (if qc_fr lv i 1 ≤ i then nI (qc_fr lv i 1) else T) (nI 0) → wY_step_665 P x1 x2 x3 x5 x6 x9 (nI mc) (nI md) st rt cy lh (nI cl) (nI lc) oo oa ob oc lg hn (fun zz => nI (d zz)) (fun zz => nI (rs zz)) (fun zz => nI (bd zz)) (fun zz => nI (yr zz)) (fun zz => nI (lv zz)) rg (fun zz => nI (q zz)) (fun zz => nI (m zz)) tg (i + 1) T (nI i) := by
  intro i
  induction i with
  | zero =>
    intro T _ H
    have e : ¬ qc_fr lv 0 1 ≤ 0 := by show ¬ 1 ≤ 0; omega
    rw [if_neg e] at H
    exact H
  | succ i ih =>
    intro T hi H
    have el : (fun zz => nI (lv zz)) (nI (i + 1)).toNatClampNeg = nI (lv (i + 1)) := qc_rd lv rfl (by omega)
    have hs := qc_fr_s (f := lv) i 1
    have e1 : 1 + i = i + 1 := by omega
    rw [e1] at hs
    refine br_f (nI_nlt (b := 1) (by omega) (by omega)) ⟨vp_in_nI (by omega) (by decide), ?_⟩
    by_cases z : lv (i + 1) = 0
    · refine br_t (by rw [el, z]; rfl) (nm_r (pk_m1 i) (ih _ (by omega) ?_))
      by_cases y : qc_fr lv i 1 ≤ i
      · rw [if_pos y]
        rw [if_pos (show qc_fr lv i 1 < i + 1 by omega)] at hs
        rw [hs, if_pos (by omega)] at H
        exact H
      · rw [if_neg y]
        rw [if_neg (show ¬ qc_fr lv i 1 < i + 1 by omega), if_pos z] at hs
        rw [hs, if_pos (by omega)] at H
        exact H
    · refine br_f (by rw [el]; have := hv (i + 1) (by omega); exact fun w => z ((nI_eq (b := 0) (by omega) (by omega)).mp w)) (nm_r (pk_m1 i) (ih _ (by omega) ?_))
      by_cases y : qc_fr lv i 1 ≤ i
      · rw [if_pos y]
        rw [if_pos (show qc_fr lv i 1 < i + 1 by omega)] at hs
        rw [hs, if_pos (by omega)] at H
        exact H
      · rw [if_neg y]
        rw [if_neg (show ¬ qc_fr lv i 1 < i + 1 by omega), if_neg z] at hs
        rw [hs, if_neg (by omega)] at H
        exact H
theorem qc_o12 (K : qc_K mc md cl lc h B oo oa ob oc lv bd) (I : qc_I mc md oo oa ob d s lv rs yr p q n m (c :: l)) (hp : p (c * 6 + d c - 1) = x) (hx : x < cl) (hB : B < 2147483647) (ho : oo x = 12) (ha : oa x = nI a) (a8 : a < 8) (hb : ob x = nI b) (b6 : b < 64) : qc_Out B (nI mc, nI md, nI cl, nI lc, 1, 0, nI c, nI h, 0, re, oo, oa, ob, oc, lg, hn, (fun zz => nI (s zz)), (fun zz => nI (rs zz)), (fun zz => nI (bd zz)), (fun zz => nI (d zz)), (fun zz => nI (p zz)), (fun zz => nI (n zz)), rg, tg) (nI mc, nI md, 1, 0, nI c, nI h, nI cl, nI lc, oo, oa, ob, oc, lg, hn, (fun zz => nI (d zz)), (fun zz => nI (rs zz)), (fun zz => nI (bd zz)), (fun zz => nI (yr zz)), (fun zz => nI (lv zz)), rg, (fun zz => nI (q zz)), (fun zz => nI (m zz)), tg) := by
  have c5 : c < 5 := I.2.2.1 c List.mem_cons_self
  obtain ⟨h1, hdm, hs1, hlv, hth⟩ := I.2.2.2.2.1
  have hm : md ≤ 6 := K.2.1.2
  have h6 : d c ≤ 6 := by omega
  have h64 : cl ≤ 64 := K.2.2.1
  have hl : lc ≤ 64 := K.2.2.2.1
  have hq : q (c * 6 + d c - 1) = x := (qc_qtop h1 hth).1.trans hp
  have hf : (c * 6 + d c - 1) < 30 := by omega
  have eA : nI ((c * 6 + d c - 1) * 8) + nI a = nI ((c * 6 + d c - 1) * 8 + a) := nI_add _ _
  have al : ∀ t, t ≠ 0 → t < 5 → (s t = 3 ∧ lv t = 0) ∨ (s t < 3 ∧ lv t = 1) := fun t => qc_al I
  have m4 : mc ≤ 4 := K.1.2
  have hv : ∀ t, t < 5 → lv t ≤ 1 := by
    intro t t5
    by_cases t0 : t = 0
    · rw [t0, K.2.2.2.2.2.2.2]; omega
    · have := al t t0 t5; omega
  have hB' : h ≤ B := K.2.2.2.2.1
  have fre := qc_free K.1.1 m4 hv I.2.2.2.1
  have fin := qc_fr_in (f := lv) mc 1
  have fin4 := qc_fr_in (f := lv) 4 1
  by_cases z : qc_fr lv mc 1 ≤ mc
  · obtain ⟨e4, lt⟩ := fre.1 z
    have F0 : qc_fr lv mc 1 ≠ 0 := by omega
    have F5 : qc_fr lv mc 1 < 5 := by omega
    have Flv : lv (qc_fr lv mc 1) = 0 := fin.2.2 (by omega)
    have Fs : s (qc_fr lv mc 1) = 3 := by have := al _ F0 F5; omega
    have ct := qc_tr_create (t := qc_fr lv mc 1) hm (qc_tr_pc (x := x + 1) hm I (by omega)) F5 F0 z Fs
    generalize hF : qc_fr lv mc 1 = F at *
    obtain ⟨d0, I'⟩ := ct
    have K' : qc_K mc md cl lc (h + 1) (B + 1) oo oa ob oc (qc_u lv F 1) (qc_u bd F b) := by
      refine ⟨K.1, K.2.1, K.2.2.1, K.2.2.2.1, by omega, K.2.2.2.2.2.1, fun t => ?_, ?_⟩
      · by_cases w : t = F
        · rw [w, qc_us]; exact b6
        · rw [qc_uo w]; exact K.2.2.2.2.2.2.1 t
      · rw [qc_uo (by omega)]; exact K.2.2.2.2.2.2.2
    have sm4 : qc_sm lv 4 1 < 2 ^ 31 := by omega
    refine .inl ⟨(nI mc, nI md, nI cl, nI lc, 1, 0, nI c, nI (h + 1), 0, re, oo, oa, ob, oc, lg, (upd hn F (nI (h + 1))), (fun zz => nI ((qc_u s F 0) zz)), (fun zz => nI (rs zz)), (fun zz => nI ((qc_u bd F b) zz)), (fun zz => nI (d zz)), (fun zz => nI ((qc_u p (c * 6 + d c - 1) (x + 1)) zz)), (fun zz => nI (n zz)), (upd rg ((c * 6 + d c - 1) * 8 + a) (nI (h + 1))), tg), (nI mc, nI md, 1, 0, nI c, nI (h + 1), nI cl, nI lc, oo, oa, ob, oc, lg, (upd hn F (nI (h + 1))), (fun zz => nI (d zz)), (fun zz => nI (rs zz)), (fun zz => nI ((qc_u bd F b) zz)), (fun zz => nI (yr zz)), (fun zz => nI ((qc_u lv F 1) zz)), (upd rg ((c * 6 + d c - 1) * 8 + a) (nI (h + 1))), (fun zz => nI ((qc_u q (c * 6 + d c - 1) (x + 1)) zz)), (fun zz => nI (m zz)), tg), qc_Rmk K' I', fun P hP => ?_, fun P hP => ?_⟩
    · unfold wpX_step; refine qc_xtf _ c5 h1 ?_; refine ⟨vp_in_nI (by omega) (by decide), nm_r ((qc_rd p rfl (by omega)).trans (congrArg nI hp)) (br_t (nI_lt hx (by omega)) (nm_r (qc_m8 _) ⟨vp_in_nI (by omega) (by decide), nm_r ((qc_rr rfl (by omega)).trans ha) ⟨vp_in_nI (by omega) (by decide), nm_r ((qc_rr rfl (by omega)).trans hb) ⟨vp_in_nI (by omega) (by decide), nm_r ((qc_rr rfl (by omega))) ⟨vp_in_nI (by omega) (by decide), nm_r (qc_st rfl (nI_1 x) (by omega)) ⟨vp_in_nI (by omega) (by decide), nm_r ((qc_rr rfl (by omega)).trans ho) (br_f (by decide) (br_f (by decide) (br_f (by decide) (br_f (by decide) (br_f (by decide) (br_f (by decide) (br_f (by decide) (br_f (by decide) (br_f (by decide) (br_f (by decide) (br_f (by decide) (br_f (by decide) (br_f (by decide) (br_f (by decide) (br_t rfl ?_)))))))))))))))⟩⟩⟩⟩⟩))⟩
      unfold wpX_createCoroutine
      refine qc_xfr (lv := lv) _ m4 al (fun w => ?_) (fun w => ?_)
      · rw [hF]
        exact br_f (qc_nm1 F5) (br_t (nI_lt (b := 2147483647) (by omega) (by omega)) (nm_r (nI_1 h) ⟨vp_in_nI (by omega) (by decide), nm_r (qc_sr rfl (by omega) rfl) ⟨vp_in_nI (by omega) (by decide), nm_r (qc_st (x := 0) rfl rfl (by omega)) ⟨vp_in_nI (by omega) (by decide), nm_r (qc_st rfl rfl (by omega)) ⟨qc_vi eA (by omega) (by decide), nm_r (qc_sr eA (by omega) rfl) hP⟩⟩⟩⟩))
      · rw [hF] at w
        exact absurd z w
    · refine br_f (nI_pos (by omega)) (br_f (nI_nlt (a := 4) (by omega) (by decide)) ⟨vp_in_nI (by omega) (by decide), br_t (by rw [qc_rd d rfl (by omega)]; exact nI_le (a := 1) h1 (by omega)) ⟨vp_in_nI (by omega) (by decide), nm_r ((congrArg (fun z => nI c * 6 + z - 1) (qc_rd d rfl (by omega))).trans (qc_tf h1)) ⟨vp_in_nI (by omega) (by decide), nm_r ((qc_rd q rfl (by omega)).trans (congrArg nI hq)) (br_f (nI_pos (by omega)) (br_t (nI_lt hx (by omega)) ⟨vp_in_nI (by omega) (by decide), nm_r ((qc_rr rfl (by omega)).trans ho) ⟨vp_in_nI (by omega) (by decide), nm_r (congrArg (· &&& 7) ((qc_rr rfl (by omega)).trans ha) |>.trans (qc_a7 a8)) ⟨vp_in_nI (by omega) (by decide), nm_r ((qc_rr rfl (by omega)).trans hb) (nm_e ⟨vp_in_nI (by omega) (by decide), nm_e (nm_r (qc_m8 _) (br_f (by decide) (br_f (by decide) (br_f (by decide) (br_f (by decide) (br_f (by decide) (br_f (by decide) (br_f (by decide) (br_f (by decide) (br_f (by decide) (br_f (by decide) (br_f (by decide) (br_f (by decide) (br_t rfl ?_))))))))))))))⟩)⟩⟩⟩))⟩⟩⟩)
      refine ⟨5, qc_yfrl _ hv 4 _ (by omega) ?_⟩
      rw [e4, if_pos (by omega)]
      refine br_t (by decide) (qc_ylc (s := s) _ al (br_f (nI_ge lt (by omega)) (br_t (nI_pos' (by omega)) (nm_r (nI_1 h) ⟨vp_in_nI (by omega) (by decide), nm_r (qc_sr rfl (by omega) rfl) ⟨vp_in_nI (by omega) (by decide), nm_r (qc_st rfl qc_nb1 (by omega)) ⟨vp_in_nI (by omega) (by decide), nm_r ((qc_st (x := 0) rfl rfl (by omega)).trans (by rw [qc_ue d0])) ⟨vp_in_nI (by omega) (by decide), nm_r (qc_st rfl rfl (by omega)) ⟨qc_vi eA (by omega) (by decide), nm_r (qc_sr eA (by omega) rfl) ⟨vp_in_nI (by omega) (by decide), nm_r (qc_st rfl (nI_1 x) (by omega)) hP⟩⟩⟩⟩⟩⟩))))
  · have ge := fre.2 z
    have sm4 : qc_sm lv 4 1 < 2 ^ 31 := by
      have a1 := hv 1 (by omega)
      have a2 := hv 2 (by omega)
      have a3 := hv 3 (by omega)
      have a4 := hv 4 (by omega)
      show lv 1 + (lv 2 + (lv 3 + (lv 4 + 0))) < 2 ^ 31
      omega
    refine .inr ⟨(nI mc, nI md, nI cl, nI lc, 1, 0, nI c, nI h, 1, (-5), oo, oa, ob, oc, lg, hn, (fun zz => nI (s zz)), (fun zz => nI (rs zz)), (fun zz => nI (bd zz)), (fun zz => nI (d zz)), (fun zz => nI ((qc_u p (c * 6 + d c - 1) (x + 1)) zz)), (fun zz => nI (n zz)), rg, tg), (nI mc, nI md, 1, 0, nI c, nI h, nI cl, nI lc, oo, oa, ob, oc, lg, hn, (fun zz => nI (d zz)), (fun zz => nI (rs zz)), (fun zz => nI (bd zz)), (fun zz => nI (yr zz)), (fun zz => nI (lv zz)), rg, (fun zz => nI (q zz)), (fun zz => nI (m zz)), tg), c, -5, qc_Qmk (qc_K_up K) (qc_tr_j hm I), fun P hP => ?_, fun w hw P hP => ?_⟩
    · unfold wpX_step; refine qc_xtf _ c5 h1 ?_; refine ⟨vp_in_nI (by omega) (by decide), nm_r ((qc_rd p rfl (by omega)).trans (congrArg nI hp)) (br_t (nI_lt hx (by omega)) (nm_r (qc_m8 _) ⟨vp_in_nI (by omega) (by decide), nm_r ((qc_rr rfl (by omega)).trans ha) ⟨vp_in_nI (by omega) (by decide), nm_r ((qc_rr rfl (by omega)).trans hb) ⟨vp_in_nI (by omega) (by decide), nm_r ((qc_rr rfl (by omega))) ⟨vp_in_nI (by omega) (by decide), nm_r (qc_st rfl (nI_1 x) (by omega)) ⟨vp_in_nI (by omega) (by decide), nm_r ((qc_rr rfl (by omega)).trans ho) (br_f (by decide) (br_f (by decide) (br_f (by decide) (br_f (by decide) (br_f (by decide) (br_f (by decide) (br_f (by decide) (br_f (by decide) (br_f (by decide) (br_f (by decide) (br_f (by decide) (br_f (by decide) (br_f (by decide) (br_f (by decide) (br_t rfl ?_)))))))))))))))⟩⟩⟩⟩⟩))⟩
      unfold wpX_createCoroutine
      exact qc_xfr (lv := lv) _ m4 al (fun w => absurd w z) (fun w => br_t rfl hP)
    · refine br_f (nI_pos (by omega)) (br_f (nI_nlt (a := 4) (by omega) (by decide)) ⟨vp_in_nI (by omega) (by decide), br_t (by rw [qc_rd d rfl (by omega)]; exact nI_le (a := 1) h1 (by omega)) ⟨vp_in_nI (by omega) (by decide), nm_r ((congrArg (fun z => nI c * 6 + z - 1) (qc_rd d rfl (by omega))).trans (qc_tf h1)) ⟨vp_in_nI (by omega) (by decide), nm_r ((qc_rd q rfl (by omega)).trans (congrArg nI hq)) (br_f (nI_pos (by omega)) (br_t (nI_lt hx (by omega)) ⟨vp_in_nI (by omega) (by decide), nm_r ((qc_rr rfl (by omega)).trans ho) ⟨vp_in_nI (by omega) (by decide), nm_r (congrArg (· &&& 7) ((qc_rr rfl (by omega)).trans ha) |>.trans (qc_a7 a8)) ⟨vp_in_nI (by omega) (by decide), nm_r ((qc_rr rfl (by omega)).trans hb) (nm_e ⟨vp_in_nI (by omega) (by decide), nm_e (nm_r (qc_m8 _) (br_f (by decide) (br_f (by decide) (br_f (by decide) (br_f (by decide) (br_f (by decide) (br_f (by decide) (br_f (by decide) (br_f (by decide) (br_f (by decide) (br_f (by decide) (br_f (by decide) (br_f (by decide) (br_t rfl ?_))))))))))))))⟩)⟩⟩⟩))⟩⟩⟩)
      refine ⟨5, qc_yfrl _ hv 4 _ (by omega) ?_⟩
      exact br_t (by decide) (qc_ylc (s := s) _ al (br_t (nI_le ge (by omega)) (hw _ hP)))
end
end
section
section
variable {mc md cl lc cu h B : Nat} {st rt lh rd re cy : Int32} {oo oa ob oc lg hn rg tg : Nat → Int32} {d s lv rs bd yr p q n m : Nat → Nat} {c r t x a b : Nat} {l L : List Nat}
theorem qc_step (K : qc_K mc md cl lc h B oo oa ob oc lv bd) (I : qc_I mc md oo oa ob d s lv rs yr p q n m (c :: l)) (hB : B < 2147483647) : qc_Out B (nI mc, nI md, nI cl, nI lc, 1, 0, nI c, nI h, 0, re, oo, oa, ob, oc, lg, hn, (fun zz => nI (s zz)), (fun zz => nI (rs zz)), (fun zz => nI (bd zz)), (fun zz => nI (d zz)), (fun zz => nI (p zz)), (fun zz => nI (n zz)), rg, tg) (nI mc, nI md, 1, 0, nI c, nI h, nI cl, nI lc, oo, oa, ob, oc, lg, hn, (fun zz => nI (d zz)), (fun zz => nI (rs zz)), (fun zz => nI (bd zz)), (fun zz => nI (yr zz)), (fun zz => nI (lv zz)), rg, (fun zz => nI (q zz)), (fun zz => nI (m zz)), tg) := by
  generalize hp : p (c * 6 + d c - 1) = x
  by_cases hx : x < cl
  · rcases K.2.2.2.2.2.1 x hx with ⟨ho, ⟨a, a8, ha⟩⟩ | ⟨ho, ⟨a, a8, ha⟩, ⟨b, b8, hb⟩⟩ | ⟨ho, ⟨a, a8, ha⟩, ⟨b, b8, hb⟩, ⟨g, g8, hc⟩⟩ | ⟨ho, ⟨a, a8, ha⟩⟩ | ⟨ho, ⟨a, a8, ha⟩, ⟨b, b6, hb⟩⟩ | ⟨ho, ⟨a, a8, ha⟩, ⟨b, b6, hb⟩, ⟨g, g8, hc⟩⟩
    · rcases ho with ho | ho | ho | ho | ho | ho
      · exact qc_o0 K I hp hx ho ha a8
      · exact qc_o8 K I hp hx ho ha a8
      · exact qc_o9 K I hp hx ho ha a8
      · exact qc_o10 K I hp hx ho ha a8
      · exact qc_o11 K I hp hx ho ha a8
      · exact qc_o18 K I hp hx ho ha a8
    · rcases ho with ho | ho | ho | ho
      · exact qc_o1 K I hp hx ho ha a8 hb b8
      · exact qc_o15 K I hp hx ho ha a8 hb b8
      · exact qc_o16 K I hp hx ho ha a8 hb b8
      · exact qc_o17 K I hp hx ho ha a8 hb b8
    · rcases ho with ho | ho | ho | ho | ho
      · exact qc_o2 K I hp hx ho ha a8 hb b8 hc g8
      · exact qc_o3 K I hp hx ho ha a8 hb b8 hc g8
      · exact qc_o4 K I hp hx ho ha a8 hb b8 hc g8
      · exact qc_o13 K I hp hx ho ha a8 hb b8 hc g8
      · exact qc_o14 K I hp hx ho ha a8 hb b8 hc g8
    · exact qc_o5 K I hp hx ho ha a8
    · rcases ho with ho | ho
      · exact qc_o6 K I hp hx ho ha a8 hb b6
      · exact qc_o12 K I hp hx hB ho ha a8 hb b6
    · exact qc_o7 K I hp hx ho ha a8 hb b6 hc g8
  · exact qc_bad K I hp (by omega)
end
def qc_WX (P : Int32 → SX → Prop) (x2 : Int32) (n : Nat) (x3 : Int32) (u : SX) : Prop := match u with
  | (a0, a1, a2, a3, a4, a5, a6, a7, a8, a9, a10, a11, a12, a13, a14, a15, a16, a17, a18, a19, a20, a21, a22, a23) => wX_run_11 P x2 n x3 a0 a1 a2 a3 a4 a5 a6 a7 a8 a9 a10 a11 a12 a13 a14 a15 a16 a17 a18 a19 a20 a21 a22 a23
def qc_WY (P : Int32 → SY → Prop) (x2 : Int32) (n : Nat) (x3 x4 : Int32) (v : SY) : Prop := match v with
  | (a0, a1, a2, a3, a4, a5, a6, a7, a8, a9, a10, a11, a12, a13, a14, a15, a16, a17, a18, a19, a20, a21, a22) => wY_run_29 P x2 n x3 x4 a0 a1 a2 a3 a4 a5 a6 a7 a8 a9 a10 a11 a12 a13 a14 a15 a16 a17 a18 a19 a20 a21 a22
theorem qc_R_up {B B' : Nat} {u : SX} {v : SY} (hB : B ≤ B') (R : qc_R B u v) : qc_R B' u v := by
  obtain ⟨mc, md, cl, lc, cu, h, st, rt, re, oo, oa, ob, oc, lg, hn, rg, tg, d, s, lv, rs, bd, yr, p, q, n, m, L, hu, hv, K, S⟩ := R
  exact ⟨mc, md, cl, lc, cu, h, st, rt, re, oo, oa, ob, oc, lg, hn, rg, tg, d, s, lv, rs, bd, yr, p, q, n, m, L, hu, hv, ⟨K.1, K.2.1, K.2.2.1, K.2.2.2.1, by have := K.2.2.2.2.1; omega, K.2.2.2.2.2⟩, S⟩
theorem qc_runl {lim : Nat} (hlim : lim ≤ 1000) : ∀ (k i B : Nat) (u : SX) (v : SY), qc_R B u v → i + k = lim → B + k < 2147483647 →
    ∃ (r : Int32) (u' : SX) (v' : SY), qc_R (B + k) u' v' ∧ (∀ P : Int32 → SX → Prop, P r u' → qc_WX P (nI lim) (k + 1) (nI i) u) ∧ (∀ P : Int32 → SY → Prop, P r v' → qc_WY P (nI lim) (k + 1) (nI i) (nI i) v) := by
  intro k
  induction k with
  | zero =>
    intro i B u v R hi hB
    refine ⟨nI i, u, v, R, fun P hP => ?_, fun P hP => ?_⟩
    · obtain ⟨_, _, _, _, _, _, _, _, _, _, _, _, _, _, _, _, _, _, _, _, _, _, _, _, _, _, _, _, rfl, rfl, -⟩ := R
      exact br_t (nI_le (by omega) (by omega)) hP
    · obtain ⟨_, _, _, _, _, _, _, _, _, _, _, _, _, _, _, _, _, _, _, _, _, _, _, _, _, _, _, _, rfl, rfl, -⟩ := R
      exact br_t (nI_le (by omega) (by omega)) hP
  | succ k ih =>
    intro i B u v R hi hB
    have R0 := R
    obtain ⟨mc, md, cl, lc, cu, h, st, rt, re, oo, oa, ob, oc, lg, hn, rg, tg, d, s, lv, rs, bd, yr, p, q, n, m, L, rfl, rfl, K, S, hcu, I⟩ := R
    have hl : ¬ nI lim ≤ nI i := nI_ge (by omega) (by omega)
    cases L with
    | nil =>
      have hs : ¬ st = 1 := by
        rcases S with S | S | S
        · exact absurd rfl S.2.2
        · rw [S.1]; decide
        · rcases S.1 with e | e <;> rw [e] <;> decide
      exact ⟨nI i, _, _, qc_R_up (by omega) R0, fun P hP => br_f hl (br_f hs hP), fun P hP => br_f hl (br_f hs hP)⟩
    | cons c l =>
      have hcc : cu = c := hcu.1 c l rfl
      subst hcc
      obtain ⟨rfl, rfl⟩ : st = 1 ∧ rt = 0 := by
        rcases S with S | S | S
        · exact ⟨S.1, S.2.1⟩
        · exact absurd S.2.2 (by simp)
        · exact absurd S.2 (by simp)
      rcases qc_step (re := re) (lg := lg) (hn := hn) (rg := rg) (tg := tg) K I (by omega) with ⟨u1, v1, R1, X1, Y1⟩ | ⟨u1, v1, c1, e1, Q1, X1, Y1⟩
      · obtain ⟨r, u', v', R', hX, hY⟩ := ih (i + 1) (B + 1) u1 v1 R1 (by omega) (by omega)
        obtain ⟨_, _, _, _, _, _, _, _, _, _, _, _, _, _, _, _, _, _, _, _, _, _, _, _, _, _, _, _, rfl, rfl, -⟩ := R1
        refine ⟨r, u', v', qc_R_up (by omega) R', fun P hP => ?_, fun P hP => ?_⟩
        · exact br_f hl (br_t rfl (X1 _ (br_t rfl (nm_r (nI_1 i) (hX P hP)))))
        · exact br_f hl (br_t rfl (Y1 _ (nm_r (nI_1 i) (nm_r (nI_1 i) (hY P hP)))))
      · obtain ⟨u2, v2, R2, X2, Y2⟩ := qc_settle Q1
        obtain ⟨r, u', v', R', hX, hY⟩ := ih (i + 1) (B + 1) u2 v2 R2 (by omega) (by omega)
        obtain ⟨_, _, _, _, _, _, _, _, _, _, _, _, _, _, _, _, _, _, _, _, _, _, _, _, _, _, _, _, rfl, rfl, -⟩ := R2
        obtain ⟨_, _, _, _, _, _, _, _, _, _, _, _, _, _, _, _, _, _, _, _, _, _, _, _, rfl, rfl, -⟩ := Q1
        refine ⟨r, u', v', qc_R_up (by omega) R', fun P hP => ?_, fun P hP => ?_⟩
        · exact br_f hl (br_t rfl (X1 _ (br_f (by decide) (X2 _ (nm_r (nI_1 i) (hX P hP))))))
        · exact br_f hl (br_t rfl (Y1 _ Y2 _ (nm_r (nI_1 i) (nm_r (nI_1 i) (hY P hP)))))
theorem i_vc_run {k : Nat} {u : SX} {v : SY} (I : i_Rel k u v) (hk : k + 5 ≤ 2562) (v1 : Int32) : wpX_run (fun r u' => wpY_run (fun r' v' => r' = r ∧ i_Rel (k + 5) u' v') v v1) u v1 := by
  have main : ∀ lim : Nat, lim ≤ 1000 → ∃ (r : Int32) (u' : SX) (v' : SY), i_Rel (k + 5) u' v' ∧ (∀ P : Int32 → SX → Prop, P r u' → ∃ n, qc_WX P (nI lim) n 0 u) ∧ (∀ P : Int32 → SY → Prop, P r v' → ∃ n, qc_WY P (nI lim) n 0 0 v) := by
    intro lim hl
    obtain ⟨r, u', v', R, hX, hY⟩ := qc_runl hl lim 0 (1000 * k) u v I (by omega) (by omega)
    exact ⟨r, u', v', qc_R_up (by omega) R, fun P hP => ⟨_, hX P hP⟩, fun P hP => ⟨_, hY P hP⟩⟩
  obtain ⟨_, _, _, _, _, _, _, _, _, _, _, _, _, _, _, _, _, _, _, _, _, _, _, _, _, _, _, _, rfl, rfl, -⟩ := I
  by_cases z1 : 1 ≤ v1
  · by_cases z2 : v1 ≤ 1000
    · obtain ⟨j, hj, rfl⟩ := nI_of2 (x := v1) (M := 1000) (n := 1000) (by decide) (fun w => by exact absurd (Int32.lt_of_le_of_lt z1 w) (by decide)) z2
      obtain ⟨r, u', v', R, hX, hY⟩ := main j hj
      unfold wpX_run
      exact br_t z1 (br_t z2 (hX _ (br_t z1 (br_t z2 (hY _ ⟨rfl, R⟩)))))
    · obtain ⟨r, u', v', R, hX, hY⟩ := main 1000 (by omega)
      unfold wpX_run
      exact br_t z1 (br_f z2 (hX _ (br_t z1 (br_f z2 (hY _ ⟨rfl, R⟩)))))
  · obtain ⟨r, u', v', R, hX, hY⟩ := main 1 (by omega)
    unfold wpX_run
    exact br_f z1 (hX _ (br_f z1 (hY _ ⟨rfl, R⟩)))
end
section
theorem i_up {k : Nat} {u : SX} {v : SY} (h : i_Rel k u v) : i_Rel (k + 5) u v := qc_R_up (by omega) h
theorem i_vc_getState {k : Nat} {u : SX} {v : SY} (I : i_Rel k u v) (hk : k + 5 ≤ 2562) : wpX_getState (fun r => wpY_getState (fun r' => r' = r ∧ i_Rel (k + 5) u v) v) u := by
  have R := i_up I
  obtain ⟨_, _, _, _, _, _, _, _, _, _, _, _, _, _, _, _, _, _, _, _, _, _, _, _, _, _, _, _, rfl, rfl, -⟩ := I
  exact ⟨rfl, R⟩
theorem i_vc_getLastHandle {k : Nat} {u : SX} {v : SY} (I : i_Rel k u v) (hk : k + 5 ≤ 2562) : wpX_getLastHandle (fun r => wpY_getLastHandle (fun r' => r' = r ∧ i_Rel (k + 5) u v) v) u := by
  have R := i_up I
  obtain ⟨_, _, _, _, _, _, _, _, _, _, _, _, _, _, _, _, _, _, _, _, _, _, _, _, _, _, _, _, rfl, rfl, -⟩ := I
  exact ⟨rfl, R⟩
theorem i_vc_getLogCount {k : Nat} {u : SX} {v : SY} (I : i_Rel k u v) (hk : k + 5 ≤ 2562) : wpX_getLogCount (fun r => wpY_getLogCount (fun r' => r' = r ∧ i_Rel (k + 5) u v) v) u := by
  have R := i_up I
  obtain ⟨_, _, _, _, _, _, _, _, _, _, _, _, _, _, _, _, _, _, _, _, _, _, _, _, _, _, _, _, rfl, rfl, -⟩ := I
  exact ⟨rfl, R⟩
theorem i_vc_getCodeLength {k : Nat} {u : SX} {v : SY} (I : i_Rel k u v) (hk : k + 5 ≤ 2562) : wpX_getCodeLength (fun r => wpY_getCodeLength (fun r' => r' = r ∧ i_Rel (k + 5) u v) v) u := by
  have R := i_up I
  obtain ⟨_, _, _, _, _, _, _, _, _, _, _, _, _, _, _, _, _, _, _, _, _, _, _, _, _, _, _, _, rfl, rfl, -⟩ := I
  exact ⟨rfl, R⟩
theorem i_vc_getResult {k : Nat} {u : SX} {v : SY} (I : i_Rel k u v) (hk : k + 5 ≤ 2562) : wpX_getResult (fun r => wpY_getResult (fun r' => r' = r ∧ i_Rel (k + 5) u v) v) u := by
  have R := i_up I
  obtain ⟨mc, md, cl, lc, cu, h, st, rt, re, oo, oa, ob, oc, lg, hn, rg, tg, d, s, lv, rs, bd, yr, p, q, n, m, L, rfl, rfl, K, S, hcu, J⟩ := I
  rcases S with S | S | S
  · obtain ⟨rfl, rfl, -⟩ := S
    exact br_f (by decide) (br_f (by decide) ⟨rfl, R⟩)
  · obtain ⟨rfl, rfl, -⟩ := S
    exact br_f (by decide) (br_f (by decide) ⟨rfl, R⟩)
  · rcases S.1 with rfl | rfl
    · exact br_t rfl ⟨rfl, R⟩
    · exact br_f (by decide) (br_t rfl ⟨rfl, R⟩)
theorem i_vc_getLog {k : Nat} {u : SX} {v : SY} (I : i_Rel k u v) (hk : k + 5 ≤ 2562) (v1 : Int32) : wpX_getLog (fun r => wpY_getLog (fun r' => r' = r ∧ i_Rel (k + 5) u v) v v1) u v1 := by
  have R := i_up I
  obtain ⟨mc, md, cl, lc, cu, h, st, rt, re, oo, oa, ob, oc, lg, hn, rg, tg, d, s, lv, rs, bd, yr, p, q, n, m, L, rfl, rfl, K, S, hcu, J⟩ := I
  have hl : lc ≤ 64 := K.2.2.2.1
  by_cases z : v1 < 0
  · exact br_t z (br_t z ⟨rfl, R⟩)
  · by_cases y : nI lc ≤ v1
    · exact br_f z (br_t y (br_f z (br_t y ⟨rfl, R⟩)))
    · obtain ⟨j, hj, rfl⟩ := nI_of z
      have hj' : j < lc := by
        by_cases w : lc ≤ j
        · exact absurd (nI_le w hj) y
        · omega
      exact br_f z (br_f y ⟨vp_in_nI (by omega) (by decide), br_f z (br_f y ⟨vp_in_nI (by omega) (by decide), rfl, R⟩)⟩)
theorem i_vc_getLiveCount {k : Nat} {u : SX} {v : SY} (I : i_Rel k u v) (hk : k + 5 ≤ 2562) : wpX_getLiveCount (fun r => wpY_getLiveCount (fun r' => r' = r ∧ i_Rel (k + 5) u v) v) u := by
  have R := i_up I
  obtain ⟨mc, md, cl, lc, cu, h, st, rt, re, oo, oa, ob, oc, lg, hn, rg, tg, d, s, lv, rs, bd, yr, p, q, n, m, L, rfl, rfl, K, S, hcu, J⟩ := I
  exact qc_xlc _ (fun t => qc_al J) (qc_ylc (s := s) _ (fun t => qc_al J) ⟨rfl, R⟩)
theorem i_vc_currentCo {k : Nat} {u : SX} {v : SY} (I : i_Rel k u v) (hk : k + 5 ≤ 2562) : wpX_currentCo (fun r => wpY_currentCo (fun r' => r' = r ∧ i_Rel (k + 5) u v) v) u := by
  have R := i_up I
  obtain ⟨mc, md, cl, lc, cu, h, st, rt, re, oo, oa, ob, oc, lg, hn, rg, tg, d, s, lv, rs, bd, yr, p, q, n, m, L, rfl, rfl, K, S, hcu, J⟩ := I
  cases L with
  | nil =>
    have hs : ¬ st = 1 := by
      rcases S with S | S | S
      · exact absurd rfl S.2.2
      · rw [S.1]; decide
      · rcases S.1 with e | e <;> rw [e] <;> decide
    exact br_f hs (br_f hs ⟨rfl, R⟩)
  | cons c l =>
    have hcc : cu = c := hcu.1 c l rfl
    subst hcc
    have hs : st = 1 := by
      rcases S with S | S | S
      · exact S.1
      · exact absurd S.2.2 (by simp)
      · exact absurd S.2 (by simp)
    have c5 : cu < 5 := J.2.2.1 cu List.mem_cons_self
    exact br_t hs ⟨vp_in_nI c5 (by decide), br_t hs (br_f (nI_pos (by omega)) (br_f (nI_nlt (a := 4) (by omega) (by decide)) ⟨vp_in_nI c5 (by decide), rfl, R⟩))⟩
theorem i_vc_coStatus {k : Nat} {u : SX} {v : SY} (I : i_Rel k u v) (hk : k + 5 ≤ 2562) (v1 : Int32) : wpX_coStatus (fun r => wpY_coStatus (fun r' => r' = r ∧ i_Rel (k + 5) u v) v v1) u v1 := by
  have R := i_up I
  obtain ⟨mc, md, cl, lc, cu, h, st, rt, re, oo, oa, ob, oc, lg, hn, rg, tg, d, s, lv, rs, bd, yr, p, q, n, m, L, rfl, rfl, K, S, hcu, J⟩ := I
  unfold wpX_coStatus
  rcases qc_thr (mc := mc) (md := md) (cl := cl) (lc := lc) (cu := cu) (st := st) (rt := rt) (lh := nI h) (rd := 0) (re := re) (cy := qc_cy L) (oo := oo) (oa := oa) (ob := ob) (oc := oc) (lg := lg) (hn := hn) (rg := rg) (tg := tg) (d := d) (rs := rs) (bd := bd) (yr := yr) (n := n) (m := m) (p := p) (q := q) (fun t => qc_al J) v1 with ⟨t, t5, hg, hA, hX, hY⟩ | ⟨hg, hX, hY⟩
  · refine hX _ (br_f (qc_nm1 t5) ⟨vp_in_nI t5 (by decide), ?_⟩)
    rw [qc_rd s rfl (by omega)]
    exact qc_yco J S _ t5 hg hA hY _ ⟨rfl, R⟩
  · exact hX _ (br_t rfl (br_f hg (hY _ (br_f (by decide) ⟨rfl, R⟩))))
theorem i_vc_getDepth {k : Nat} {u : SX} {v : SY} (I : i_Rel k u v) (hk : k + 5 ≤ 2562) (v1 : Int32) : wpX_getDepth (fun r => wpY_getDepth (fun r' => r' = r ∧ i_Rel (k + 5) u v) v v1) u v1 := by
  have R := i_up I
  obtain ⟨mc, md, cl, lc, cu, h, st, rt, re, oo, oa, ob, oc, lg, hn, rg, tg, d, s, lv, rs, bd, yr, p, q, n, m, L, rfl, rfl, K, S, hcu, J⟩ := I
  unfold wpX_getDepth
  rcases qc_thr (mc := mc) (md := md) (cl := cl) (lc := lc) (cu := cu) (st := st) (rt := rt) (lh := nI h) (rd := 0) (re := re) (cy := qc_cy L) (oo := oo) (oa := oa) (ob := ob) (oc := oc) (lg := lg) (hn := hn) (rg := rg) (tg := tg) (d := d) (rs := rs) (bd := bd) (yr := yr) (n := n) (m := m) (p := p) (q := q) (fun t => qc_al J) v1 with ⟨t, t5, hg, hA, hX, hY⟩ | ⟨hg, hX, hY⟩
  · refine hX _ (br_f (qc_nm1 t5) ⟨vp_in_nI t5 (by decide), ?_⟩)
    unfold wpY_getDepth
    exact hY _ (br_t (nI_pos' (by omega)) ⟨vp_in_nI t5 (by decide), rfl, R⟩)
  · refine hX _ (br_t rfl ?_)
    unfold wpY_getDepth
    exact hY _ (br_f (by decide) ⟨rfl, R⟩)
section
variable {mc md cl lc cu h B : Nat} {st rt lh rd re cy : Int32} {oo oa ob oc lg hn rg tg : Nat → Int32} {d s lv rs bd yr p q n m : Nat → Nat} {c r t x a b : Nat} {l L : List Nat}
theorem qc_hold (hm : md ≤ 6) (I : qc_I mc md oo oa ob d s lv rs yr p q n m L) (t5 : t < 5) : d t ≤ 6 ∧ qc_Tw n m t (d t) := by
  have o : qc_O md oa ob d s lv yr p q n m t → d t ≤ 6 ∧ qc_Tw n m t (d t) := by
    intro o
    rcases o with o | o
    · rw [o.2.2]; exact ⟨by omega, fun i hi => by omega⟩
    · exact ⟨by have := o.2.2.2.1; omega, qc_Tw_of o.2.2.2.2.1⟩
  cases L with
  | nil => exact o (I.2.2.2.2 t t5)
  | cons c l =>
    obtain ⟨i1, i2, i3, i4, i5, i6, i7⟩ := I
    by_cases z : t ∈ c :: l
    · rcases List.mem_cons.mp z with y | y
      · subst y
        exact ⟨by have := i5.2.1; omega, qc_Tw_of i5.2.2.2.2⟩
      · exact ⟨by have := (i6 t y).2.1; omega, qc_Tw_of (i6 t y).2.2.2.2.1⟩
    · exact o (i7 t t5 z)
theorem qc_isr (P : Int32 → Prop) (v : Int32) (h1 : qc_R8 v → P 1) (h0 : ¬ qc_R8 v → P 0) : wpX_isReg P v := by
  rcases pk_ix v (n := 8) (by decide) with z | z | ⟨j, hj, rfl⟩
  · exact br_t z (h0 fun ⟨a, a8, e⟩ => absurd (e ▸ z) (nI_pos (by omega)))
  · refine br_f (fun w => absurd (Int32.lt_of_le_of_lt z w) (by decide)) (br_t z (h0 fun ⟨a, a8, e⟩ => ?_))
    rw [e] at z
    exact nI_ge a8 (by decide) z
  · exact br_f (nI_pos (by omega)) (br_f (nI_ge (b := 8) hj (by decide)) (h1 ⟨j, hj, rfl⟩))
theorem qc_isa (P : Int32 → Prop) (v : Int32) (h1 : qc_A6 v → P 1) (h0 : ¬ qc_A6 v → P 0) : wpX_isAddr P v := by
  rcases pk_ix v (n := 64) (by decide) with z | z | ⟨j, hj, rfl⟩
  · exact br_t z (h0 fun ⟨a, a8, e⟩ => absurd (e ▸ z) (nI_pos (by omega)))
  · refine br_f (fun w => absurd (Int32.lt_of_le_of_lt z w) (by decide)) (br_t z (h0 fun ⟨a, a8, e⟩ => ?_))
    rw [e] at z
    exact nI_ge a8 (by decide) z
  · exact br_f (nI_pos (by omega)) (br_f (nI_ge (b := 64) hj (by decide)) (h1 ⟨j, hj, rfl⟩))
end
theorem i_vc_getReg {k : Nat} {u : SX} {v : SY} (I : i_Rel k u v) (hk : k + 5 ≤ 2562) (v1 : Int32) (v2 : Int32) : wpX_getReg (fun r => wpY_getReg (fun r' => r' = r ∧ i_Rel (k + 5) u v) v v1 v2) u v1 v2 := by
  have R := i_up I
  obtain ⟨mc, md, cl, lc, cu, h, st, rt, re, oo, oa, ob, oc, lg, hn, rg, tg, d, s, lv, rs, bd, yr, p, q, n, m, L, rfl, rfl, K, S, hcu, J⟩ := I
  unfold wpX_getReg
  rcases qc_thr (mc := mc) (md := md) (cl := cl) (lc := lc) (cu := cu) (st := st) (rt := rt) (lh := nI h) (rd := 0) (re := re) (cy := qc_cy L) (oo := oo) (oa := oa) (ob := ob) (oc := oc) (lg := lg) (hn := hn) (rg := rg) (tg := tg) (d := d) (rs := rs) (bd := bd) (yr := yr) (n := n) (m := m) (p := p) (q := q) (fun t => qc_al J) v1 with ⟨t, t5, hg, hA, hX, hY⟩ | ⟨hg, hX, hY⟩
  · obtain ⟨d6, -⟩ := qc_hold K.2.1.2 J t5
    have ed : (fun zz => nI (d zz)) (nI t).toNatClampNeg = nI (d t) := qc_rd d rfl (by omega)
    refine hX _ (br_f (qc_nm1 t5) ⟨vp_in_nI t5 (by decide), ?_⟩)
    by_cases dt : d t = 0
    · refine br_t (by rw [ed, dt]; rfl) ?_
      unfold wpY_getReg
      refine hY _ (br_f (nI_pos (by omega)) (br_c (fun _ => ⟨rfl, R⟩) (fun _ => br_c (fun _ => ⟨rfl, R⟩) (fun _ => ⟨vp_in_nI t5 (by decide), br_f ?_ ⟨rfl, R⟩⟩))))
      rw [ed, dt]; decide
    · refine br_f (by rw [ed]; exact fun z => dt ((nI_eq (b := 0) (by omega) (by omega)).mp z)) (qc_isr _ _ (fun ⟨j, j8, e⟩ => br_f (by decide) ?_) (fun w => br_t rfl ?_))
      · subst e
        refine qc_xtf _ t5 (by omega) ?_
        have eI : nI (t * 6 + d t - 1) * 8 + nI j = nI ((t * 6 + d t - 1) * 8 + j) := qc_fr8 rfl rfl
        have eY : (nI t * 6 + (fun zz => nI (d zz)) (nI t).toNatClampNeg - 1) * 8 + nI j = nI ((t * 6 + d t - 1) * 8 + j) := by
          rw [ed, qc_tf (by omega)]
          exact qc_fr8 rfl rfl
        refine ⟨qc_vi eI (by omega) (by decide), ?_⟩
        unfold wpY_getReg
        refine hY _ (br_f (nI_pos (by omega)) (br_f (nI_pos (by omega)) (br_f (nI_nlt (a := 7) (by omega) (by decide)) ⟨vp_in_nI t5 (by decide), br_t (by rw [ed]; exact nI_le (a := 1) (by omega) (by omega)) ⟨vp_in_nI t5 (by decide), qc_vi eY (by omega) (by decide), ?_, R⟩⟩)))
        rw [eY, eI]
      · unfold wpY_getReg
        refine hY _ (br_f (nI_pos (by omega)) (br_c (fun _ => ⟨rfl, R⟩) (fun z0 => br_c (fun _ => ⟨rfl, R⟩) (fun z7 => ?_))))
        obtain ⟨j, hj, rfl⟩ := nI_of z0
        have j8 : ¬ j < 8 := fun q => w ⟨j, q, rfl⟩
        exact absurd (nI_lt (a := 7) (by omega) hj) z7
  · refine hX _ (br_t rfl ?_)
    unfold wpY_getReg
    exact hY _ (br_t (by decide) ⟨rfl, R⟩)
def qc_ts (tg : Nat → Int32) (b : Nat) : Nat → Nat → Int32 → Int32
  | 0, _, acc => acc
  | k + 1, i, acc => qc_ts tg b k (i + 1) (acc + tg (b + i))
def qc_ps (tg : Nat → Int32) (n : Nat → Nat) (t : Nat) : Nat → Nat → Int32 → Int32
  | 0, _, acc => acc
  | k + 1, l, acc => qc_ps tg n t k (l + 1) (qc_ts tg ((t * 6 + l) * 4) (n (t * 6 + l)) 0 acc)
theorem qc_ps_c {tg : Nat → Int32} {n m : Nat → Nat} {t D : Nat} (h : ∀ l, l < D → m (t * 6 + l) = n (t * 6 + l)) : ∀ k l acc, l + k = D → qc_ps tg m t k l acc = qc_ps tg n t k l acc := by
  intro k
  induction k with
  | zero => intro l acc _; rfl
  | succ k ih =>
    intro l acc hl
    show qc_ps tg m t k (l + 1) (qc_ts tg ((t * 6 + l) * 4) (m (t * 6 + l)) 0 acc) = qc_ps tg n t k (l + 1) (qc_ts tg ((t * 6 + l) * 4) (n (t * 6 + l)) 0 acc)
    rw [h l (by omega), ih (l + 1) _ (by omega)]
section
variable {mc md cl lc cu h B : Nat} {st rt lh rd re cy : Int32} {oo oa ob oc lg hn rg tg : Nat → Int32} {d s lv rs bd yr p q n m : Nat → Nat} {c r t x a b : Nat} {l L : List Nat}
theorem qc_xpi (P : Int32 → Prop) (J : Int32 → Int32 → Prop) {x2 : Int32} {f lev : Nat} (hf : f < 30) (h4 : n f ≤ 4) : ∀ (k i : Nat) (acc : Int32), i + k = n f → J (qc_ts tg (f * 4) k i acc) (nI (lev + 1)) →
    wX_getPendingCleanups_41 P J x2 (nI lev) (nI f) (nI mc) (nI md) (nI cl) (nI lc) st rt (nI cu) lh rd re oo oa ob oc lg hn (fun zz => nI (s zz)) (fun zz => nI (rs zz)) (fun zz => nI (bd zz)) (fun zz => nI (d zz)) (fun zz => nI (p zz)) (fun zz => nI (n zz)) rg tg (k + 1) acc (nI i) := by
  intro k
  induction k with
  | zero =>
    intro i acc hi H
    refine ⟨vp_in_nI (by omega) (by decide), br_t ?_ (nm_r (nI_1 lev) H)⟩
    rw [qc_rd n rfl (by omega)]
    exact nI_le (by omega) (by omega)
  | succ k ih =>
    intro i acc hi H
    have e : nI f * 4 + nI i = nI (f * 4 + i) := qc_fr4 rfl rfl
    refine ⟨vp_in_nI (by omega) (by decide), br_f ?_ ⟨qc_vi e (by omega) (by decide), nm_r (e' := acc + tg (f * 4 + i)) ?_ (nm_r (nI_1 i) (ih (i + 1) _ (by omega) H))⟩⟩
    · rw [qc_rd n rfl (by omega)]
      exact nI_ge (by omega) (by omega)
    · rw [qc_rr (f := tg) e (by omega)]
theorem qc_xpo (P : Int32 → Prop) (t5 : t < 5) (d6 : d t ≤ 6) (h4 : ∀ l, l < d t → n (t * 6 + l) ≤ 4) : ∀ (k i : Nat) (acc : Int32), i + k = d t → P (qc_ps tg n t k i acc) →
    wX_getPendingCleanups_18 P (nI t) (nI mc) (nI md) (nI cl) (nI lc) st rt (nI cu) lh rd re oo oa ob oc lg hn (fun zz => nI (s zz)) (fun zz => nI (rs zz)) (fun zz => nI (bd zz)) (fun zz => nI (d zz)) (fun zz => nI (p zz)) (fun zz => nI (n zz)) rg tg (k + 1) acc (nI i) := by
  intro k
  induction k with
  | zero =>
    intro i acc hi H
    refine ⟨vp_in_nI (by omega) (by decide), br_t ?_ H⟩
    rw [qc_rd d rfl (by omega)]
    exact nI_le (by omega) (by omega)
  | succ k ih =>
    intro i acc hi H
    refine ⟨vp_in_nI (by omega) (by decide), br_f ?_ (nm_r (show nI t * 6 + nI i = nI (t * 6 + i) by rw [qc_m6, nI_add]) ⟨n (t * 6 + i) + 1, qc_xpi P _ (by omega) (h4 i (by omega)) _ 0 _ (by omega) (ih (i + 1) _ (by omega) H)⟩)⟩
    rw [qc_rd d rfl (by omega)]
    exact nI_ge (by omega) (by omega)
theorem qc_ypi (P : Int32 → Prop) (J : Int32 → Int32 → Prop) {x2 : Int32} {f lev : Nat} (hf : f < 30) (h4 : m f ≤ 4) : ∀ (k i : Nat) (acc : Int32), i + k = 4 → J (qc_ts tg (f * 4) (m f - i) i acc) (nI (lev + 1)) →
    wY_getPendingCleanups_50 P J x2 (nI lev) (nI f) (nI mc) (nI md) st rt cy lh (nI cl) (nI lc) oo oa ob oc lg hn (fun zz => nI (d zz)) (fun zz => nI (rs zz)) (fun zz => nI (bd zz)) (fun zz => nI (yr zz)) (fun zz => nI (lv zz)) rg (fun zz => nI (q zz)) (fun zz => nI (m zz)) tg (k + 1) acc (nI i) := by
  intro k
  induction k with
  | zero =>
    intro i acc hi H
    have e : m f - i = 0 := by omega
    rw [e] at H
    exact br_t (nI_le (a := 4) (by omega) (by omega)) (nm_r (nI_1 lev) H)
  | succ k ih =>
    intro i acc hi H
    have e : nI f * 4 + nI i = nI (f * 4 + i) := qc_fr4 rfl rfl
    have em : (fun zz => nI (m zz)) (nI f).toNatClampNeg = nI (m f) := qc_rd m rfl (by omega)
    refine br_f (nI_ge (b := 4) (by omega) (by decide)) ⟨vp_in_nI (by omega) (by decide), ?_⟩
    by_cases z : m f ≤ i
    · refine br_t (by rw [em]; exact nI_le z (by omega)) (nm_r (nI_1 i) (ih (i + 1) _ (by omega) ?_))
      have e1 : m f - i = 0 := by omega
      have e2 : m f - (i + 1) = 0 := by omega
      rw [e1] at H
      rw [e2]
      exact H
    · refine br_f (by rw [em]; exact nI_ge (by omega) (by omega)) ⟨qc_vi e (by omega) (by decide), nm_r (e' := acc + tg (f * 4 + i)) ?_ (nm_r (nI_1 i) (ih (i + 1) _ (by omega) ?_))⟩
      · rw [qc_rr (f := tg) e (by omega)]
      · have e1 : m f - i = (m f - (i + 1)) + 1 := by omega
        rw [e1] at H
        exact H
theorem qc_ypo (P : Int32 → Prop) (t5 : t < 5) (d6 : d t ≤ 6) (h4 : ∀ l, l < d t → m (t * 6 + l) ≤ 4) : ∀ (k i : Nat) (acc : Int32), i + k = d t → P (qc_ps tg m t k i acc) →
    wY_getPendingCleanups_17 P (nI t) (nI mc) (nI md) st rt cy lh (nI cl) (nI lc) oo oa ob oc lg hn (fun zz => nI (d zz)) (fun zz => nI (rs zz)) (fun zz => nI (bd zz)) (fun zz => nI (yr zz)) (fun zz => nI (lv zz)) rg (fun zz => nI (q zz)) (fun zz => nI (m zz)) tg (k + 1) acc (nI i) := by
  intro k
  induction k with
  | zero =>
    intro i acc hi H
    by_cases z : i = 6
    · exact br_t (nI_le (a := 6) (by omega) (by omega)) H
    · refine br_f (nI_ge (b := 6) (by omega) (by decide)) ⟨vp_in_nI (by omega) (by decide), br_f ?_ H⟩
      rw [qc_rd d rfl (by omega)]
      exact nI_nlt (by omega) (by omega)
  | succ k ih =>
    intro i acc hi H
    refine br_f (nI_ge (b := 6) (by omega) (by decide)) ⟨vp_in_nI (by omega) (by decide), br_t ?_ (nm_r (show nI t * 6 + nI i = nI (t * 6 + i) by rw [qc_m6, nI_add]) ⟨5, qc_ypi P _ (by omega) (h4 i (by omega)) 4 0 _ (by omega) (ih (i + 1) _ (by omega) H)⟩)⟩
    rw [qc_rd d rfl (by omega)]
    exact nI_lt (by omega) (by omega)
end
theorem i_vc_getPendingCleanups {k : Nat} {u : SX} {v : SY} (I : i_Rel k u v) (hk : k + 5 ≤ 2562) (v1 : Int32) : wpX_getPendingCleanups (fun r => wpY_getPendingCleanups (fun r' => r' = r ∧ i_Rel (k + 5) u v) v v1) u v1 := by
  have R := i_up I
  obtain ⟨mc, md, cl, lc, cu, h, st, rt, re, oo, oa, ob, oc, lg, hn, rg, tg, d, s, lv, rs, bd, yr, p, q, n, m, L, rfl, rfl, K, S, hcu, J⟩ := I
  unfold wpX_getPendingCleanups
  rcases qc_thr (mc := mc) (md := md) (cl := cl) (lc := lc) (cu := cu) (st := st) (rt := rt) (lh := nI h) (rd := 0) (re := re) (cy := qc_cy L) (oo := oo) (oa := oa) (ob := ob) (oc := oc) (lg := lg) (hn := hn) (rg := rg) (tg := tg) (d := d) (rs := rs) (bd := bd) (yr := yr) (n := n) (m := m) (p := p) (q := q) (fun t => qc_al J) v1 with ⟨t, t5, hg, hA, hX, hY⟩ | ⟨hg, hX, hY⟩
  · obtain ⟨d6, tw⟩ := qc_hold K.2.1.2 J t5
    refine hX _ (br_f (qc_nm1 t5) ⟨d t + 1, qc_xpo _ t5 d6 (fun l hl => (tw l hl).2) (d t) 0 _ (by omega) ?_⟩)
    unfold wpY_getPendingCleanups
    refine hY _ (br_t (nI_pos' (by omega)) ⟨d t + 1, qc_ypo _ t5 d6 (fun l hl => by have := tw l hl; omega) (d t) 0 _ (by omega) ⟨?_, R⟩⟩)
    exact qc_ps_c (fun l hl => (tw l hl).1) _ _ _ (by omega)
  · refine hX _ (br_t rfl ?_)
    unfold wpY_getPendingCleanups
    exact hY _ (br_f (by decide) ⟨rfl, R⟩)
end
section
theorem qc_nr0 : narrow .boolean (.int 0) = .int 0 := by first | rfl | decide
theorem qc_nr1 : narrow .boolean (.int 1) = .int 1 := by first | rfl | decide
theorem qc_x92 (P : Int32 → Prop) (a : Int32) (h1 : qc_R8 a → P 1) (h0 : ¬ qc_R8 a → P 0) : wX_operandsFit_92 P a :=
  qc_isr _ _ (fun z => ⟨qc_nr1, h1 z⟩) (fun z => ⟨qc_nr0, h0 z⟩)
theorem qc_x97 (P : Int32 → Prop) (a b : Int32) (h1 : qc_R8 a ∧ qc_R8 b → P 1) (h0 : ¬ (qc_R8 a ∧ qc_R8 b) → P 0) : wX_operandsFit_97 P a b :=
  qc_isr _ _ (fun z => br_f (by decide) (qc_isr _ _ (fun y => br_f (by decide) (h1 ⟨z, y⟩)) (fun y => br_t rfl (h0 fun w => y w.2)))) (fun z => br_t rfl (h0 fun w => z w.1))
theorem qc_x117 (P : Int32 → Prop) (a b c : Int32) (h1 : qc_R8 a ∧ qc_R8 b ∧ qc_R8 c → P 1) (h0 : ¬ (qc_R8 a ∧ qc_R8 b ∧ qc_R8 c) → P 0) : wX_operandsFit_117 P a b c :=
  qc_isr _ _ (fun z => br_f (by decide) (qc_isr _ _ (fun y => br_f (by decide) (qc_isr _ _ (fun x => br_f (by decide) (h1 ⟨z, y, x⟩)) (fun x => br_t rfl (h0 fun w => x w.2.2)))) (fun y => br_t rfl (h0 fun w => y w.2.1)))) (fun z => br_t rfl (h0 fun w => z w.1))
theorem qc_x149 (P : Int32 → Prop) (a b : Int32) (h1 : qc_R8 a ∧ qc_A6 b → P 1) (h0 : ¬ (qc_R8 a ∧ qc_A6 b) → P 0) : wX_operandsFit_149 P a b :=
  qc_isr _ _ (fun z => br_f (by decide) (qc_isa _ _ (fun y => br_f (by decide) (h1 ⟨z, y⟩)) (fun y => br_t rfl (h0 fun w => y w.2)))) (fun z => br_t rfl (h0 fun w => z w.1))
theorem qc_F0 (a b c : Int32) : qc_Fit 0 a b c ↔ (qc_R8 a) := by
  simp only [qc_Fit, show ((0 : Int32) = 1) = False from eq_false (by decide), show ((0 : Int32) = 2) = False from eq_false (by decide), show ((0 : Int32) = 3) = False from eq_false (by decide), show ((0 : Int32) = 4) = False from eq_false (by decide), show ((0 : Int32) = 5) = False from eq_false (by decide), show ((0 : Int32) = 6) = False from eq_false (by decide), show ((0 : Int32) = 7) = False from eq_false (by decide), show ((0 : Int32) = 8) = False from eq_false (by decide), show ((0 : Int32) = 9) = False from eq_false (by decide), show ((0 : Int32) = 10) = False from eq_false (by decide), show ((0 : Int32) = 11) = False from eq_false (by decide), show ((0 : Int32) = 12) = False from eq_false (by decide), show ((0 : Int32) = 13) = False from eq_false (by decide), show ((0 : Int32) = 14) = False from eq_false (by decide), show ((0 : Int32) = 15) = False from eq_false (by decide), show ((0 : Int32) = 16) = False from eq_false (by decide), show ((0 : Int32) = 17) = False from eq_false (by decide), show ((0 : Int32) = 18) = False from eq_false (by decide), or_false, false_or, false_and, true_or, or_true, true_and]
theorem qc_F1 (a b c : Int32) : qc_Fit 1 a b c ↔ (qc_R8 a ∧ qc_R8 b) := by
  simp only [qc_Fit, show ((1 : Int32) = 0) = False from eq_false (by decide), show ((1 : Int32) = 2) = False from eq_false (by decide), show ((1 : Int32) = 3) = False from eq_false (by decide), show ((1 : Int32) = 4) = False from eq_false (by decide), show ((1 : Int32) = 5) = False from eq_false (by decide), show ((1 : Int32) = 6) = False from eq_false (by decide), show ((1 : Int32) = 7) = False from eq_false (by decide), show ((1 : Int32) = 8) = False from eq_false (by decide), show ((1 : Int32) = 9) = False from eq_false (by decide), show ((1 : Int32) = 10) = False from eq_false (by decide), show ((1 : Int32) = 11) = False from eq_false (by decide), show ((1 : Int32) = 12) = False from eq_false (by decide), show ((1 : Int32) = 13) = False from eq_false (by decide), show ((1 : Int32) = 14) = False from eq_false (by decide), show ((1 : Int32) = 15) = False from eq_false (by decide), show ((1 : Int32) = 16) = False from eq_false (by decide), show ((1 : Int32) = 17) = False from eq_false (by decide), show ((1 : Int32) = 18) = False from eq_false (by decide), or_false, false_or, false_and, true_or, or_true, true_and]
theorem qc_F2 (a b c : Int32) : qc_Fit 2 a b c ↔ (qc_R8 a ∧ qc_R8 b ∧ qc_R8 c) := by
  simp only [qc_Fit, show ((2 : Int32) = 0) = False from eq_false (by decide), show ((2 : Int32) = 1) = False from eq_false (by decide), show ((2 : Int32) = 3) = False from eq_false (by decide), show ((2 : Int32) = 4) = False from eq_false (by decide), show ((2 : Int32) = 5) = False from eq_false (by decide), show ((2 : Int32) = 6) = False from eq_false (by decide), show ((2 : Int32) = 7) = False from eq_false (by decide), show ((2 : Int32) = 8) = False from eq_false (by decide), show ((2 : Int32) = 9) = False from eq_false (by decide), show ((2 : Int32) = 10) = False from eq_false (by decide), show ((2 : Int32) = 11) = False from eq_false (by decide), show ((2 : Int32) = 12) = False from eq_false (by decide), show ((2 : Int32) = 13) = False from eq_false (by decide), show ((2 : Int32) = 14) = False from eq_false (by decide), show ((2 : Int32) = 15) = False from eq_false (by decide), show ((2 : Int32) = 16) = False from eq_false (by decide), show ((2 : Int32) = 17) = False from eq_false (by decide), show ((2 : Int32) = 18) = False from eq_false (by decide), or_false, false_or, false_and, true_or, or_true, true_and]
theorem qc_F3 (a b c : Int32) : qc_Fit 3 a b c ↔ (qc_R8 a ∧ qc_R8 b ∧ qc_R8 c) := by
  simp only [qc_Fit, show ((3 : Int32) = 0) = False from eq_false (by decide), show ((3 : Int32) = 1) = False from eq_false (by decide), show ((3 : Int32) = 2) = False from eq_false (by decide), show ((3 : Int32) = 4) = False from eq_false (by decide), show ((3 : Int32) = 5) = False from eq_false (by decide), show ((3 : Int32) = 6) = False from eq_false (by decide), show ((3 : Int32) = 7) = False from eq_false (by decide), show ((3 : Int32) = 8) = False from eq_false (by decide), show ((3 : Int32) = 9) = False from eq_false (by decide), show ((3 : Int32) = 10) = False from eq_false (by decide), show ((3 : Int32) = 11) = False from eq_false (by decide), show ((3 : Int32) = 12) = False from eq_false (by decide), show ((3 : Int32) = 13) = False from eq_false (by decide), show ((3 : Int32) = 14) = False from eq_false (by decide), show ((3 : Int32) = 15) = False from eq_false (by decide), show ((3 : Int32) = 16) = False from eq_false (by decide), show ((3 : Int32) = 17) = False from eq_false (by decide), show ((3 : Int32) = 18) = False from eq_false (by decide), or_false, false_or, false_and, true_or, or_true, true_and]
theorem qc_F4 (a b c : Int32) : qc_Fit 4 a b c ↔ (qc_R8 a ∧ qc_R8 b ∧ qc_R8 c) := by
  simp only [qc_Fit, show ((4 : Int32) = 0) = False from eq_false (by decide), show ((4 : Int32) = 1) = False from eq_false (by decide), show ((4 : Int32) = 2) = False from eq_false (by decide), show ((4 : Int32) = 3) = False from eq_false (by decide), show ((4 : Int32) = 5) = False from eq_false (by decide), show ((4 : Int32) = 6) = False from eq_false (by decide), show ((4 : Int32) = 7) = False from eq_false (by decide), show ((4 : Int32) = 8) = False from eq_false (by decide), show ((4 : Int32) = 9) = False from eq_false (by decide), show ((4 : Int32) = 10) = False from eq_false (by decide), show ((4 : Int32) = 11) = False from eq_false (by decide), show ((4 : Int32) = 12) = False from eq_false (by decide), show ((4 : Int32) = 13) = False from eq_false (by decide), show ((4 : Int32) = 14) = False from eq_false (by decide), show ((4 : Int32) = 15) = False from eq_false (by decide), show ((4 : Int32) = 16) = False from eq_false (by decide), show ((4 : Int32) = 17) = False from eq_false (by decide), show ((4 : Int32) = 18) = False from eq_false (by decide), or_false, false_or, false_and, true_or, or_true, true_and]
theorem qc_F5 (a b c : Int32) : qc_Fit 5 a b c ↔ (qc_A6 a) := by
  simp only [qc_Fit, show ((5 : Int32) = 0) = False from eq_false (by decide), show ((5 : Int32) = 1) = False from eq_false (by decide), show ((5 : Int32) = 2) = False from eq_false (by decide), show ((5 : Int32) = 3) = False from eq_false (by decide), show ((5 : Int32) = 4) = False from eq_false (by decide), show ((5 : Int32) = 6) = False from eq_false (by decide), show ((5 : Int32) = 7) = False from eq_false (by decide), show ((5 : Int32) = 8) = False from eq_false (by decide), show ((5 : Int32) = 9) = False from eq_false (by decide), show ((5 : Int32) = 10) = False from eq_false (by decide), show ((5 : Int32) = 11) = False from eq_false (by decide), show ((5 : Int32) = 12) = False from eq_false (by decide), show ((5 : Int32) = 13) = False from eq_false (by decide), show ((5 : Int32) = 14) = False from eq_false (by decide), show ((5 : Int32) = 15) = False from eq_false (by decide), show ((5 : Int32) = 16) = False from eq_false (by decide), show ((5 : Int32) = 17) = False from eq_false (by decide), show ((5 : Int32) = 18) = False from eq_false (by decide), or_false, false_or, false_and, true_or, or_true, true_and]
theorem qc_F6 (a b c : Int32) : qc_Fit 6 a b c ↔ (qc_R8 a ∧ qc_A6 b) := by
  simp only [qc_Fit, show ((6 : Int32) = 0) = False from eq_false (by decide), show ((6 : Int32) = 1) = False from eq_false (by decide), show ((6 : Int32) = 2) = False from eq_false (by decide), show ((6 : Int32) = 3) = False from eq_false (by decide), show ((6 : Int32) = 4) = False from eq_false (by decide), show ((6 : Int32) = 5) = False from eq_false (by decide), show ((6 : Int32) = 7) = False from eq_false (by decide), show ((6 : Int32) = 8) = False from eq_false (by decide), show ((6 : Int32) = 9) = False from eq_false (by decide), show ((6 : Int32) = 10) = False from eq_false (by decide), show ((6 : Int32) = 11) = False from eq_false (by decide), show ((6 : Int32) = 12) = False from eq_false (by decide), show ((6 : Int32) = 13) = False from eq_false (by decide), show ((6 : Int32) = 14) = False from eq_false (by decide), show ((6 : Int32) = 15) = False from eq_false (by decide), show ((6 : Int32) = 16) = False from eq_false (by decide), show ((6 : Int32) = 17) = False from eq_false (by decide), show ((6 : Int32) = 18) = False from eq_false (by decide), or_false, false_or, false_and, true_or, or_true, true_and]
theorem qc_F7 (a b c : Int32) : qc_Fit 7 a b c ↔ (qc_R8 a ∧ qc_A6 b ∧ qc_R8 c) := by
  simp only [qc_Fit, show ((7 : Int32) = 0) = False from eq_false (by decide), show ((7 : Int32) = 1) = False from eq_false (by decide), show ((7 : Int32) = 2) = False from eq_false (by decide), show ((7 : Int32) = 3) = False from eq_false (by decide), show ((7 : Int32) = 4) = False from eq_false (by decide), show ((7 : Int32) = 5) = False from eq_false (by decide), show ((7 : Int32) = 6) = False from eq_false (by decide), show ((7 : Int32) = 8) = False from eq_false (by decide), show ((7 : Int32) = 9) = False from eq_false (by decide), show ((7 : Int32) = 10) = False from eq_false (by decide), show ((7 : Int32) = 11) = False from eq_false (by decide), show ((7 : Int32) = 12) = False from eq_false (by decide), show ((7 : Int32) = 13) = False from eq_false (by decide), show ((7 : Int32) = 14) = False from eq_false (by decide), show ((7 : Int32) = 15) = False from eq_false (by decide), show ((7 : Int32) = 16) = False from eq_false (by decide), show ((7 : Int32) = 17) = False from eq_false (by decide), show ((7 : Int32) = 18) = False from eq_false (by decide), or_false, false_or, false_and, true_or, or_true, true_and]
theorem qc_F8 (a b c : Int32) : qc_Fit 8 a b c ↔ (qc_R8 a) := by
  simp only [qc_Fit, show ((8 : Int32) = 0) = False from eq_false (by decide), show ((8 : Int32) = 1) = False from eq_false (by decide), show ((8 : Int32) = 2) = False from eq_false (by decide), show ((8 : Int32) = 3) = False from eq_false (by decide), show ((8 : Int32) = 4) = False from eq_false (by decide), show ((8 : Int32) = 5) = False from eq_false (by decide), show ((8 : Int32) = 6) = False from eq_false (by decide), show ((8 : Int32) = 7) = False from eq_false (by decide), show ((8 : Int32) = 9) = False from eq_false (by decide), show ((8 : Int32) = 10) = False from eq_false (by decide), show ((8 : Int32) = 11) = False from eq_false (by decide), show ((8 : Int32) = 12) = False from eq_false (by decide), show ((8 : Int32) = 13) = False from eq_false (by decide), show ((8 : Int32) = 14) = False from eq_false (by decide), show ((8 : Int32) = 15) = False from eq_false (by decide), show ((8 : Int32) = 16) = False from eq_false (by decide), show ((8 : Int32) = 17) = False from eq_false (by decide), show ((8 : Int32) = 18) = False from eq_false (by decide), or_false, false_or, false_and, true_or, or_true, true_and]
theorem qc_F9 (a b c : Int32) : qc_Fit 9 a b c ↔ (qc_R8 a) := by
  simp only [qc_Fit, show ((9 : Int32) = 0) = False from eq_false (by decide), show ((9 : Int32) = 1) = False from eq_false (by decide), show ((9 : Int32) = 2) = False from eq_false (by decide), show ((9 : Int32) = 3) = False from eq_false (by decide), show ((9 : Int32) = 4) = False from eq_false (by decide), show ((9 : Int32) = 5) = False from eq_false (by decide), show ((9 : Int32) = 6) = False from eq_false (by decide), show ((9 : Int32) = 7) = False from eq_false (by decide), show ((9 : Int32) = 8) = False from eq_false (by decide), show ((9 : Int32) = 10) = False from eq_false (by decide), show ((9 : Int32) = 11) = False from eq_false (by decide), show ((9 : Int32) = 12) = False from eq_false (by decide), show ((9 : Int32) = 13) = False from eq_false (by decide), show ((9 : Int32) = 14) = False from eq_false (by decide), show ((9 : Int32) = 15) = False from eq_false (by decide), show ((9 : Int32) = 16) = False from eq_false (by decide), show ((9 : Int32) = 17) = False from eq_false (by decide), show ((9 : Int32) = 18) = False from eq_false (by decide), or_false, false_or, false_and, true_or, or_true, true_and]
theorem qc_F10 (a b c : Int32) : qc_Fit 10 a b c ↔ (qc_R8 a) := by
  simp only [qc_Fit, show ((10 : Int32) = 0) = False from eq_false (by decide), show ((10 : Int32) = 1) = False from eq_false (by decide), show ((10 : Int32) = 2) = False from eq_false (by decide), show ((10 : Int32) = 3) = False from eq_false (by decide), show ((10 : Int32) = 4) = False from eq_false (by decide), show ((10 : Int32) = 5) = False from eq_false (by decide), show ((10 : Int32) = 6) = False from eq_false (by decide), show ((10 : Int32) = 7) = False from eq_false (by decide), show ((10 : Int32) = 8) = False from eq_false (by decide), show ((10 : Int32) = 9) = False from eq_false (by decide), show ((10 : Int32) = 11) = False from eq_false (by decide), show ((10 : Int32) = 12) = False from eq_false (by decide), show ((10 : Int32) = 13) = False from eq_false (by decide), show ((10 : Int32) = 14) = False from eq_false (by decide), show ((10 : Int32) = 15) = False from eq_false (by decide), show ((10 : Int32) = 16) = False from eq_false (by decide), show ((10 : Int32) = 17) = False from eq_false (by decide), show ((10 : Int32) = 18) = False from eq_false (by decide), or_false, false_or, false_and, true_or, or_true, true_and]
theorem qc_F11 (a b c : Int32) : qc_Fit 11 a b c ↔ (qc_R8 a) := by
  simp only [qc_Fit, show ((11 : Int32) = 0) = False from eq_false (by decide), show ((11 : Int32) = 1) = False from eq_false (by decide), show ((11 : Int32) = 2) = False from eq_false (by decide), show ((11 : Int32) = 3) = False from eq_false (by decide), show ((11 : Int32) = 4) = False from eq_false (by decide), show ((11 : Int32) = 5) = False from eq_false (by decide), show ((11 : Int32) = 6) = False from eq_false (by decide), show ((11 : Int32) = 7) = False from eq_false (by decide), show ((11 : Int32) = 8) = False from eq_false (by decide), show ((11 : Int32) = 9) = False from eq_false (by decide), show ((11 : Int32) = 10) = False from eq_false (by decide), show ((11 : Int32) = 12) = False from eq_false (by decide), show ((11 : Int32) = 13) = False from eq_false (by decide), show ((11 : Int32) = 14) = False from eq_false (by decide), show ((11 : Int32) = 15) = False from eq_false (by decide), show ((11 : Int32) = 16) = False from eq_false (by decide), show ((11 : Int32) = 17) = False from eq_false (by decide), show ((11 : Int32) = 18) = False from eq_false (by decide), or_false, false_or, false_and, true_or, or_true, true_and]
theorem qc_F12 (a b c : Int32) : qc_Fit 12 a b c ↔ (qc_R8 a ∧ qc_A6 b) := by
  simp only [qc_Fit, show ((12 : Int32) = 0) = False from eq_false (by decide), show ((12 : Int32) = 1) = False from eq_false (by decide), show ((12 : Int32) = 2) = False from eq_false (by decide), show ((12 : Int32) = 3) = False from eq_false (by decide), show ((12 : Int32) = 4) = False from eq_false (by decide), show ((12 : Int32) = 5) = False from eq_false (by decide), show ((12 : Int32) = 6) = False from eq_false (by decide), show ((12 : Int32) = 7) = False from eq_false (by decide), show ((12 : Int32) = 8) = False from eq_false (by decide), show ((12 : Int32) = 9) = False from eq_false (by decide), show ((12 : Int32) = 10) = False from eq_false (by decide), show ((12 : Int32) = 11) = False from eq_false (by decide), show ((12 : Int32) = 13) = False from eq_false (by decide), show ((12 : Int32) = 14) = False from eq_false (by decide), show ((12 : Int32) = 15) = False from eq_false (by decide), show ((12 : Int32) = 16) = False from eq_false (by decide), show ((12 : Int32) = 17) = False from eq_false (by decide), show ((12 : Int32) = 18) = False from eq_false (by decide), or_false, false_or, false_and, true_or, or_true, true_and]
theorem qc_F13 (a b c : Int32) : qc_Fit 13 a b c ↔ (qc_R8 a ∧ qc_R8 b ∧ qc_R8 c) := by
  simp only [qc_Fit, show ((13 : Int32) = 0) = False from eq_false (by decide), show ((13 : Int32) = 1) = False from eq_false (by decide), show ((13 : Int32) = 2) = False from eq_false (by decide), show ((13 : Int32) = 3) = False from eq_false (by decide), show ((13 : Int32) = 4) = False from eq_false (by decide), show ((13 : Int32) = 5) = False from eq_false (by decide), show ((13 : Int32) = 6) = False from eq_false (by decide), show ((13 : Int32) = 7) = False from eq_false (by decide), show ((13 : Int32) = 8) = False from eq_false (by decide), show ((13 : Int32) = 9) = False from eq_false (by decide), show ((13 : Int32) = 10) = False from eq_false (by decide), show ((13 : Int32) = 11) = False from eq_false (by decide), show ((13 : Int32) = 12) = False from eq_false (by decide), show ((13 : Int32) = 14) = False from eq_false (by decide), show ((13 : Int32) = 15) = False from eq_false (by decide), show ((13 : Int32) = 16) = False from eq_false (by decide), show ((13 : Int32) = 17) = False from eq_false (by decide), show ((13 : Int32) = 18) = False from eq_false (by decide), or_false, false_or, false_and, true_or, or_true, true_and]
theorem qc_F14 (a b c : Int32) : qc_Fit 14 a b c ↔ (qc_R8 a ∧ qc_R8 b ∧ qc_R8 c) := by
  simp only [qc_Fit, show ((14 : Int32) = 0) = False from eq_false (by decide), show ((14 : Int32) = 1) = False from eq_false (by decide), show ((14 : Int32) = 2) = False from eq_false (by decide), show ((14 : Int32) = 3) = False from eq_false (by decide), show ((14 : Int32) = 4) = False from eq_false (by decide), show ((14 : Int32) = 5) = False from eq_false (by decide), show ((14 : Int32) = 6) = False from eq_false (by decide), show ((14 : Int32) = 7) = False from eq_false (by decide), show ((14 : Int32) = 8) = False from eq_false (by decide), show ((14 : Int32) = 9) = False from eq_false (by decide), show ((14 : Int32) = 10) = False from eq_false (by decide), show ((14 : Int32) = 11) = False from eq_false (by decide), show ((14 : Int32) = 12) = False from eq_false (by decide), show ((14 : Int32) = 13) = False from eq_false (by decide), show ((14 : Int32) = 15) = False from eq_false (by decide), show ((14 : Int32) = 16) = False from eq_false (by decide), show ((14 : Int32) = 17) = False from eq_false (by decide), show ((14 : Int32) = 18) = False from eq_false (by decide), or_false, false_or, false_and, true_or, or_true, true_and]
theorem qc_F15 (a b c : Int32) : qc_Fit 15 a b c ↔ (qc_R8 a ∧ qc_R8 b) := by
  simp only [qc_Fit, show ((15 : Int32) = 0) = False from eq_false (by decide), show ((15 : Int32) = 1) = False from eq_false (by decide), show ((15 : Int32) = 2) = False from eq_false (by decide), show ((15 : Int32) = 3) = False from eq_false (by decide), show ((15 : Int32) = 4) = False from eq_false (by decide), show ((15 : Int32) = 5) = False from eq_false (by decide), show ((15 : Int32) = 6) = False from eq_false (by decide), show ((15 : Int32) = 7) = False from eq_false (by decide), show ((15 : Int32) = 8) = False from eq_false (by decide), show ((15 : Int32) = 9) = False from eq_false (by decide), show ((15 : Int32) = 10) = False from eq_false (by decide), show ((15 : Int32) = 11) = False from eq_false (by decide), show ((15 : Int32) = 12) = False from eq_false (by decide), show ((15 : Int32) = 13) = False from eq_false (by decide), show ((15 : Int32) = 14) = False from eq_false (by decide), show ((15 : Int32) = 16) = False from eq_false (by decide), show ((15 : Int32) = 17) = False from eq_false (by decide), show ((15 : Int32) = 18) = False from eq_false (by decide), or_false, false_or, false_and, true_or, or_true, true_and]
theorem qc_F16 (a b c : Int32) : qc_Fit 16 a b c ↔ (qc_R8 a ∧ qc_R8 b) := by
  simp only [qc_Fit, show ((16 : Int32) = 0) = False from eq_false (by decide), show ((16 : Int32) = 1) = False from eq_false (by decide), show ((16 : Int32) = 2) = False from eq_false (by decide), show ((16 : Int32) = 3) = False from eq_false (by decide), show ((16 : Int32) = 4) = False from eq_false (by decide), show ((16 : Int32) = 5) = False from eq_false (by decide), show ((16 : Int32) = 6) = False from eq_false (by decide), show ((16 : Int32) = 7) = False from eq_false (by decide), show ((16 : Int32) = 8) = False from eq_false (by decide), show ((16 : Int32) = 9) = False from eq_false (by decide), show ((16 : Int32) = 10) = False from eq_false (by decide), show ((16 : Int32) = 11) = False from eq_false (by decide), show ((16 : Int32) = 12) = False from eq_false (by decide), show ((16 : Int32) = 13) = False from eq_false (by decide), show ((16 : Int32) = 14) = False from eq_false (by decide), show ((16 : Int32) = 15) = False from eq_false (by decide), show ((16 : Int32) = 17) = False from eq_false (by decide), show ((16 : Int32) = 18) = False from eq_false (by decide), or_false, false_or, false_and, true_or, or_true, true_and]
theorem qc_F17 (a b c : Int32) : qc_Fit 17 a b c ↔ (qc_R8 a ∧ qc_R8 b) := by
  simp only [qc_Fit, show ((17 : Int32) = 0) = False from eq_false (by decide), show ((17 : Int32) = 1) = False from eq_false (by decide), show ((17 : Int32) = 2) = False from eq_false (by decide), show ((17 : Int32) = 3) = False from eq_false (by decide), show ((17 : Int32) = 4) = False from eq_false (by decide), show ((17 : Int32) = 5) = False from eq_false (by decide), show ((17 : Int32) = 6) = False from eq_false (by decide), show ((17 : Int32) = 7) = False from eq_false (by decide), show ((17 : Int32) = 8) = False from eq_false (by decide), show ((17 : Int32) = 9) = False from eq_false (by decide), show ((17 : Int32) = 10) = False from eq_false (by decide), show ((17 : Int32) = 11) = False from eq_false (by decide), show ((17 : Int32) = 12) = False from eq_false (by decide), show ((17 : Int32) = 13) = False from eq_false (by decide), show ((17 : Int32) = 14) = False from eq_false (by decide), show ((17 : Int32) = 15) = False from eq_false (by decide), show ((17 : Int32) = 16) = False from eq_false (by decide), show ((17 : Int32) = 18) = False from eq_false (by decide), or_false, false_or, false_and, true_or, or_true, true_and]
theorem qc_F18 (a b c : Int32) : qc_Fit 18 a b c ↔ (qc_R8 a) := by
  simp only [qc_Fit, show ((18 : Int32) = 0) = False from eq_false (by decide), show ((18 : Int32) = 1) = False from eq_false (by decide), show ((18 : Int32) = 2) = False from eq_false (by decide), show ((18 : Int32) = 3) = False from eq_false (by decide), show ((18 : Int32) = 4) = False from eq_false (by decide), show ((18 : Int32) = 5) = False from eq_false (by decide), show ((18 : Int32) = 6) = False from eq_false (by decide), show ((18 : Int32) = 7) = False from eq_false (by decide), show ((18 : Int32) = 8) = False from eq_false (by decide), show ((18 : Int32) = 9) = False from eq_false (by decide), show ((18 : Int32) = 10) = False from eq_false (by decide), show ((18 : Int32) = 11) = False from eq_false (by decide), show ((18 : Int32) = 12) = False from eq_false (by decide), show ((18 : Int32) = 13) = False from eq_false (by decide), show ((18 : Int32) = 14) = False from eq_false (by decide), show ((18 : Int32) = 15) = False from eq_false (by decide), show ((18 : Int32) = 16) = False from eq_false (by decide), show ((18 : Int32) = 17) = False from eq_false (by decide), or_false, false_or, false_and, true_or, or_true, true_and]
theorem qc_xf0 (P : Int32 → Prop) (a b c : Int32) (h1 : qc_Fit 0 a b c → P 1) (h0 : ¬ qc_Fit 0 a b c → P 0) : wpX_operandsFit P 0 a b c :=
  br_f (by decide) (br_f (by decide) (br_t rfl (qc_x92 P a (fun z => h1 ((qc_F0 a b c).mpr z)) (fun z => h0 (fun w => z ((qc_F0 a b c).mp w))))))
theorem qc_xf1 (P : Int32 → Prop) (a b c : Int32) (h1 : qc_Fit 1 a b c → P 1) (h0 : ¬ qc_Fit 1 a b c → P 0) : wpX_operandsFit P 1 a b c :=
  br_f (by decide) (br_f (by decide) (br_f (by decide) (br_t rfl (qc_x97 P a b (fun z => h1 ((qc_F1 a b c).mpr z)) (fun z => h0 (fun w => z ((qc_F1 a b c).mp w)))))))
theorem qc_xf2 (P : Int32 → Prop) (a b c : Int32) (h1 : qc_Fit 2 a b c → P 1) (h0 : ¬ qc_Fit 2 a b c → P 0) : wpX_operandsFit P 2 a b c :=
  br_f (by decide) (br_f (by decide) (br_f (by decide) (br_f (by decide) (br_t rfl (qc_x117 P a b c (fun z => h1 ((qc_F2 a b c).mpr z)) (fun z => h0 (fun w => z ((qc_F2 a b c).mp w))))))))
theorem qc_xf3 (P : Int32 → Prop) (a b c : Int32) (h1 : qc_Fit 3 a b c → P 1) (h0 : ¬ qc_Fit 3 a b c → P 0) : wpX_operandsFit P 3 a b c :=
  br_f (by decide) (br_f (by decide) (br_f (by decide) (br_f (by decide) (br_f (by decide) (br_t rfl (qc_x117 P a b c (fun z => h1 ((qc_F3 a b c).mpr z)) (fun z => h0 (fun w => z ((qc_F3 a b c).mp w)))))))))
theorem qc_xf4 (P : Int32 → Prop) (a b c : Int32) (h1 : qc_Fit 4 a b c → P 1) (h0 : ¬ qc_Fit 4 a b c → P 0) : wpX_operandsFit P 4 a b c :=
  br_f (by decide) (br_f (by decide) (br_f (by decide) (br_f (by decide) (br_f (by decide) (br_f (by decide) (br_t rfl (qc_x117 P a b c (fun z => h1 ((qc_F4 a b c).mpr z)) (fun z => h0 (fun w => z ((qc_F4 a b c).mp w))))))))))
theorem qc_xf5 (P : Int32 → Prop) (a b c : Int32) (h1 : qc_Fit 5 a b c → P 1) (h0 : ¬ qc_Fit 5 a b c → P 0) : wpX_operandsFit P 5 a b c :=
  br_f (by decide) (br_f (by decide) (br_f (by decide) (br_f (by decide) (br_f (by decide) (br_f (by decide) (br_f (by decide) (br_t rfl (qc_isa _ _ (fun z => ⟨qc_nr1, h1 ((qc_F5 a b c).mpr z)⟩) (fun z => ⟨qc_nr0, h0 (fun w => z ((qc_F5 a b c).mp w))⟩)))))))))
theorem qc_xf6 (P : Int32 → Prop) (a b c : Int32) (h1 : qc_Fit 6 a b c → P 1) (h0 : ¬ qc_Fit 6 a b c → P 0) : wpX_operandsFit P 6 a b c :=
  br_f (by decide) (br_f (by decide) (br_f (by decide) (br_f (by decide) (br_f (by decide) (br_f (by decide) (br_f (by decide) (br_f (by decide) (br_t rfl (qc_x149 P a b (fun z => h1 ((qc_F6 a b c).mpr z)) (fun z => h0 (fun w => z ((qc_F6 a b c).mp w))))))))))))
theorem qc_xf7 (P : Int32 → Prop) (a b c : Int32) (h1 : qc_Fit 7 a b c → P 1) (h0 : ¬ qc_Fit 7 a b c → P 0) : wpX_operandsFit P 7 a b c :=
  br_f (by decide) (br_f (by decide) (br_f (by decide) (br_f (by decide) (br_f (by decide) (br_f (by decide) (br_f (by decide) (br_f (by decide) (br_f (by decide) (br_t rfl (qc_isr _ _ (fun z => br_f (by decide) (qc_isa _ _ (fun y => br_f (by decide) (qc_isr _ _ (fun x => br_f (by decide) (h1 ((qc_F7 a b c).mpr ⟨z, y, x⟩))) (fun x => br_t rfl (h0 fun w => x ((qc_F7 a b c).mp w).2.2)))) (fun y => br_t rfl (h0 fun w => y ((qc_F7 a b c).mp w).2.1)))) (fun z => br_t rfl (h0 fun w => z ((qc_F7 a b c).mp w).1))))))))))))
theorem qc_xf8 (P : Int32 → Prop) (a b c : Int32) (h1 : qc_Fit 8 a b c → P 1) (h0 : ¬ qc_Fit 8 a b c → P 0) : wpX_operandsFit P 8 a b c :=
  br_f (by decide) (br_f (by decide) (br_f (by decide) (br_f (by decide) (br_f (by decide) (br_f (by decide) (br_f (by decide) (br_f (by decide) (br_f (by decide) (br_f (by decide) (br_t rfl (qc_x92 P a (fun z => h1 ((qc_F8 a b c).mpr z)) (fun z => h0 (fun w => z ((qc_F8 a b c).mp w))))))))))))))
theorem qc_xf9 (P : Int32 → Prop) (a b c : Int32) (h1 : qc_Fit 9 a b c → P 1) (h0 : ¬ qc_Fit 9 a b c → P 0) : wpX_operandsFit P 9 a b c :=
  br_f (by decide) (br_f (by decide) (br_f (by decide) (br_f (by decide) (br_f (by decide) (br_f (by decide) (br_f (by decide) (br_f (by decide) (br_f (by decide) (br_f (by decide) (br_f (by decide) (br_t rfl (qc_x92 P a (fun z => h1 ((qc_F9 a b c).mpr z)) (fun z => h0 (fun w => z ((qc_F9 a b c).mp w)))))))))))))))
theorem qc_xf10 (P : Int32 → Prop) (a b c : Int32) (h1 : qc_Fit 10 a b c → P 1) (h0 : ¬ qc_Fit 10 a b c → P 0) : wpX_operandsFit P 10 a b c :=
  br_f (by decide) (br_f (by decide) (br_f (by decide) (br_f (by decide) (br_f (by decide) (br_f (by decide) (br_f (by decide) (br_f (by decide) (br_f (by decide) (br_f (by decide) (br_f (by decide) (br_f (by decide) (br_t rfl (qc_x92 P a (fun z => h1 ((qc_F10 a b c).mpr z)) (fun z => h0 (fun w => z ((qc_F10 a b c).mp w))))))))))))))))
theorem qc_xf11 (P : Int32 → Prop) (a b c : Int32) (h1 : qc_Fit 11 a b c → P 1) (h0 : ¬ qc_Fit 11 a b c → P 0) : wpX_operandsFit P 11 a b c :=
  br_f (by decide) (br_f (by decide) (br_f (by decide) (br_f (by decide) (br_f (by decide) (br_f (by decide) (br_f (by decide) (br_f (by decide) (br_f (by decide) (br_f (by decide) (br_f (by decide) (br_f (by decide) (br_f (by decide) (br_t rfl (qc_x92 P a (fun z => h1 ((qc_F11 a b c).mpr z)) (fun z => h0 (fun w => z ((qc_F11 a b c).mp w)))))))))))))))))
theorem qc_xf12 (P : Int32 → Prop) (a b c : Int32) (h1 : qc_Fit 12 a b c → P 1) (h0 : ¬ qc_Fit 12 a b c → P 0) : wpX_operandsFit P 12 a b c :=
  br_f (by decide) (br_f (by decide) (br_f (by decide) (br_f (by decide) (br_f (by decide) (br_f (by decide) (br_f (by decide) (br_f (by decide) (br_f (by decide) (br_f (by decide) (br_f (by decide) (br_f (by decide) (br_f (by decide) (br_f (by decide) (br_t rfl (qc_x149 P a b (fun z => h1 ((qc_F12 a b c).mpr z)) (fun z => h0 (fun w => z ((qc_F12 a b c).mp w))))))))))))))))))
theorem qc_xf13 (P : Int32 → Prop) (a b c : Int32) (h1 : qc_Fit 13 a b c → P 1) (h0 : ¬ qc_Fit 13 a b c → P 0) : wpX_operandsFit P 13 a b c :=
  br_f (by decide) (br_f (by decide) (br_f (by decide) (br_f (by decide) (br_f (by decide) (br_f (by decide) (br_f (by decide) (br_f (by decide) (br_f (by decide) (br_f (by decide) (br_f (by decide) (br_f (by decide) (br_f (by decide) (br_f (by decide) (br_f (by decide) (br_t rfl (qc_x117 P a b c (fun z => h1 ((qc_F13 a b c).mpr z)) (fun z => h0 (fun w => z ((qc_F13 a b c).mp w)))))))))))))))))))
theorem qc_xf14 (P : Int32 → Prop) (a b c : Int32) (h1 : qc_Fit 14 a b c → P 1) (h0 : ¬ qc_Fit 14 a b c → P 0) : wpX_operandsFit P 14 a b c :=
  br_f (by decide) (br_f (by decide) (br_f (by decide) (br_f (by decide) (br_f (by decide) (br_f (by decide) (br_f (by decide) (br_f (by decide) (br_f (by decide) (br_f (by decide) (br_f (by decide) (br_f (by decide) (br_f (by decide) (br_f (by decide) (br_f (by decide) (br_f (by decide) (br_t rfl (qc_x117 P a b c (fun z => h1 ((qc_F14 a b c).mpr z)) (fun z => h0 (fun w => z ((qc_F14 a b c).mp w))))))))))))))))))))
theorem qc_xf15 (P : Int32 → Prop) (a b c : Int32) (h1 : qc_Fit 15 a b c → P 1) (h0 : ¬ qc_Fit 15 a b c → P 0) : wpX_operandsFit P 15 a b c :=
  br_f (by decide) (br_f (by decide) (br_f (by decide) (br_f (by decide) (br_f (by decide) (br_f (by decide) (br_f (by decide) (br_f (by decide) (br_f (by decide) (br_f (by decide) (br_f (by decide) (br_f (by decide) (br_f (by decide) (br_f (by decide) (br_f (by decide) (br_f (by decide) (br_f (by decide) (br_t rfl (qc_x97 P a b (fun z => h1 ((qc_F15 a b c).mpr z)) (fun z => h0 (fun w => z ((qc_F15 a b c).mp w)))))))))))))))))))))
theorem qc_xf16 (P : Int32 → Prop) (a b c : Int32) (h1 : qc_Fit 16 a b c → P 1) (h0 : ¬ qc_Fit 16 a b c → P 0) : wpX_operandsFit P 16 a b c :=
  br_f (by decide) (br_f (by decide) (br_f (by decide) (br_f (by decide) (br_f (by decide) (br_f (by decide) (br_f (by decide) (br_f (by decide) (br_f (by decide) (br_f (by decide) (br_f (by decide) (br_f (by decide) (br_f (by decide) (br_f (by decide) (br_f (by decide) (br_f (by decide) (br_f (by decide) (br_f (by decide) (br_t rfl (qc_x97 P a b (fun z => h1 ((qc_F16 a b c).mpr z)) (fun z => h0 (fun w => z ((qc_F16 a b c).mp w))))))))))))))))))))))
theorem qc_xf17 (P : Int32 → Prop) (a b c : Int32) (h1 : qc_Fit 17 a b c → P 1) (h0 : ¬ qc_Fit 17 a b c → P 0) : wpX_operandsFit P 17 a b c :=
  br_f (by decide) (br_f (by decide) (br_f (by decide) (br_f (by decide) (br_f (by decide) (br_f (by decide) (br_f (by decide) (br_f (by decide) (br_f (by decide) (br_f (by decide) (br_f (by decide) (br_f (by decide) (br_f (by decide) (br_f (by decide) (br_f (by decide) (br_f (by decide) (br_f (by decide) (br_f (by decide) (br_f (by decide) (br_t rfl (qc_x97 P a b (fun z => h1 ((qc_F17 a b c).mpr z)) (fun z => h0 (fun w => z ((qc_F17 a b c).mp w)))))))))))))))))))))))
theorem qc_xf18 (P : Int32 → Prop) (a b c : Int32) (h1 : qc_Fit 18 a b c → P 1) (h0 : ¬ qc_Fit 18 a b c → P 0) : wpX_operandsFit P 18 a b c :=
  br_f (by decide) (br_f (by decide) (br_f (by decide) (br_f (by decide) (br_f (by decide) (br_f (by decide) (br_f (by decide) (br_f (by decide) (br_f (by decide) (br_f (by decide) (br_f (by decide) (br_f (by decide) (br_f (by decide) (br_f (by decide) (br_f (by decide) (br_f (by decide) (br_f (by decide) (br_f (by decide) (br_f (by decide) (br_f (by decide) (br_t rfl (qc_x92 P a (fun z => h1 ((qc_F18 a b c).mpr z)) (fun z => h0 (fun w => z ((qc_F18 a b c).mp w))))))))))))))))))))))))
theorem qc_op (o : Int32) : o < 0 ∨ 18 < o ∨ o = 0 ∨ o = 1 ∨ o = 2 ∨ o = 3 ∨ o = 4 ∨ o = 5 ∨ o = 6 ∨ o = 7 ∨ o = 8 ∨ o = 9 ∨ o = 10 ∨ o = 11 ∨ o = 12 ∨ o = 13 ∨ o = 14 ∨ o = 15 ∨ o = 16 ∨ o = 17 ∨ o = 18 := by
  rcases pk_ix o (n := 19) (by decide) with z | z | ⟨j, hj, rfl⟩
  · exact .inl z
  · exact .inr (.inl (Int32.lt_of_lt_of_le (by decide) z))
  · right; right
    have e : j = 0 ∨ j = 1 ∨ j = 2 ∨ j = 3 ∨ j = 4 ∨ j = 5 ∨ j = 6 ∨ j = 7 ∨ j = 8 ∨ j = 9 ∨ j = 10 ∨ j = 11 ∨ j = 12 ∨ j = 13 ∨ j = 14 ∨ j = 15 ∨ j = 16 ∨ j = 17 ∨ j = 18 := by omega
    rcases e with rfl | rfl | rfl | rfl | rfl | rfl | rfl | rfl | rfl | rfl | rfl | rfl | rfl | rfl | rfl | rfl | rfl | rfl | rfl
    · exact .inl rfl
    · exact .inr (.inl rfl)
    · exact .inr (.inr (.inl rfl))
    · exact .inr (.inr (.inr (.inl rfl)))
    · exact .inr (.inr (.inr (.inr (.inl rfl))))
    · exact .inr (.inr (.inr (.inr (.inr (.inl rfl)))))
    · exact .inr (.inr (.inr (.inr (.inr (.inr (.inl rfl))))))
    · exact .inr (.inr (.inr (.inr (.inr (.inr (.inr (.inl rfl)))))))
    · exact .inr (.inr (.inr (.inr (.inr (.inr (.inr (.inr (.inl rfl))))))))
    · exact .inr (.inr (.inr (.inr (.inr (.inr (.inr (.inr (.inr (.inl rfl)))))))))
    · exact .inr (.inr (.inr (.inr (.inr (.inr (.inr (.inr (.inr (.inr (.inl rfl))))))))))
    · exact .inr (.inr (.inr (.inr (.inr (.inr (.inr (.inr (.inr (.inr (.inr (.inl rfl)))))))))))
    · exact .inr (.inr (.inr (.inr (.inr (.inr (.inr (.inr (.inr (.inr (.inr (.inr (.inl rfl))))))))))))
    · exact .inr (.inr (.inr (.inr (.inr (.inr (.inr (.inr (.inr (.inr (.inr (.inr (.inr (.inl rfl)))))))))))))
    · exact .inr (.inr (.inr (.inr (.inr (.inr (.inr (.inr (.inr (.inr (.inr (.inr (.inr (.inr (.inl rfl))))))))))))))
    · exact .inr (.inr (.inr (.inr (.inr (.inr (.inr (.inr (.inr (.inr (.inr (.inr (.inr (.inr (.inr (.inl rfl)))))))))))))))
    · exact .inr (.inr (.inr (.inr (.inr (.inr (.inr (.inr (.inr (.inr (.inr (.inr (.inr (.inr (.inr (.inr (.inl rfl))))))))))))))))
    · exact .inr (.inr (.inr (.inr (.inr (.inr (.inr (.inr (.inr (.inr (.inr (.inr (.inr (.inr (.inr (.inr (.inr (.inl rfl)))))))))))))))))
    · exact .inr (.inr (.inr (.inr (.inr (.inr (.inr (.inr (.inr (.inr (.inr (.inr (.inr (.inr (.inr (.inr (.inr (.inr (rfl))))))))))))))))))
theorem qc_Fno {o a b c : Int32} (h : qc_Fit o a b c) : ¬ o < 0 ∧ ¬ 18 < o := by
  unfold qc_Fit at h
  rcases h with ⟨h, -⟩ | ⟨h, -⟩ | ⟨h, -⟩ | ⟨h, -⟩ | ⟨h, -⟩ | ⟨h, -⟩
  · rcases h with rfl | rfl | rfl | rfl | rfl | rfl <;> decide
  · rcases h with rfl | rfl | rfl | rfl <;> decide
  · rcases h with rfl | rfl | rfl | rfl | rfl <;> decide
  · rw [h]; decide
  · rcases h with rfl | rfl <;> decide
  · rw [h]; decide
theorem qc_xof (P : Int32 → Prop) (o a b c : Int32) (h1 : qc_Fit o a b c → P 1) (h0 : ¬ qc_Fit o a b c → P 0) : wpX_operandsFit P o a b c := by
  rcases qc_op o with z | z | rfl | rfl | rfl | rfl | rfl | rfl | rfl | rfl | rfl | rfl | rfl | rfl | rfl | rfl | rfl | rfl | rfl | rfl | rfl
  · exact br_t z (h0 fun w => (qc_Fno w).1 z)
  · exact br_f (fun y => absurd (Int32.lt_trans z y) (by decide)) (br_t z (h0 fun w => (qc_Fno w).2 z))
  · exact qc_xf0 P a b c h1 h0
  · exact qc_xf1 P a b c h1 h0
  · exact qc_xf2 P a b c h1 h0
  · exact qc_xf3 P a b c h1 h0
  · exact qc_xf4 P a b c h1 h0
  · exact qc_xf5 P a b c h1 h0
  · exact qc_xf6 P a b c h1 h0
  · exact qc_xf7 P a b c h1 h0
  · exact qc_xf8 P a b c h1 h0
  · exact qc_xf9 P a b c h1 h0
  · exact qc_xf10 P a b c h1 h0
  · exact qc_xf11 P a b c h1 h0
  · exact qc_xf12 P a b c h1 h0
  · exact qc_xf13 P a b c h1 h0
  · exact qc_xf14 P a b c h1 h0
  · exact qc_xf15 P a b c h1 h0
  · exact qc_xf16 P a b c h1 h0
  · exact qc_xf17 P a b c h1 h0
  · exact qc_xf18 P a b c h1 h0
section
variable {mc md cl lc cu h B : Nat} {st rt lh rd re cy : Int32} {oo oa ob oc lg hn rg tg : Nat → Int32} {d s lv rs bd yr p q n m : Nat → Nat} {c r t x a b : Nat} {l L : List Nat}
theorem qc_yfR (P : Int32 → Prop) (v : Int32) (h1 : qc_R8 v → P 1) (h0 : ¬ qc_R8 v → P 0) : wpY_fits P (nI mc, nI md, st, rt, cy, lh, nI cl, nI lc, oo, oa, ob, oc, lg, hn, (fun zz => nI (d zz)), (fun zz => nI (rs zz)), (fun zz => nI (bd zz)), (fun zz => nI (yr zz)), (fun zz => nI (lv zz)), rg, (fun zz => nI (q zz)), (fun zz => nI (m zz)), tg) 1 v := by
  rcases pk_ix v (n := 8) (by decide) with z | z | ⟨j, hj, rfl⟩
  · exact br_t rfl (br_t z (h0 fun ⟨a, a8, e⟩ => absurd (e ▸ z) (nI_pos (by omega))))
  · refine br_t rfl (br_f (fun w => absurd (Int32.lt_of_le_of_lt z w) (by decide)) (br_t (Int32.lt_of_lt_of_le (by decide) z) (h0 fun ⟨a, a8, e⟩ => ?_)))
    rw [e] at z
    exact nI_ge a8 (by decide) z
  · exact br_t rfl (br_f (nI_pos (by omega)) (br_f (nI_nlt (a := 7) (by omega) (by decide)) (h1 ⟨j, hj, rfl⟩)))
theorem qc_yfA (P : Int32 → Prop) (v : Int32) (h1 : qc_A6 v → P 1) (h0 : ¬ qc_A6 v → P 0) : wpY_fits P (nI mc, nI md, st, rt, cy, lh, nI cl, nI lc, oo, oa, ob, oc, lg, hn, (fun zz => nI (d zz)), (fun zz => nI (rs zz)), (fun zz => nI (bd zz)), (fun zz => nI (yr zz)), (fun zz => nI (lv zz)), rg, (fun zz => nI (q zz)), (fun zz => nI (m zz)), tg) 2 v := by
  rcases pk_ix v (n := 64) (by decide) with z | z | ⟨j, hj, rfl⟩
  · exact br_f (by decide) (br_t rfl (br_t z (h0 fun ⟨a, a8, e⟩ => absurd (e ▸ z) (nI_pos (by omega)))))
  · refine br_f (by decide) (br_t rfl (br_f (fun w => absurd (Int32.lt_of_le_of_lt z w) (by decide)) (br_t (Int32.lt_of_lt_of_le (by decide) z) (h0 fun ⟨a, a8, e⟩ => ?_))))
    rw [e] at z
    exact nI_ge a8 (by decide) z
  · exact br_f (by decide) (br_t rfl (br_f (nI_pos (by omega)) (br_f (nI_nlt (a := 63) (by omega) (by decide)) (h1 ⟨j, hj, rfl⟩))))
theorem qc_yfN (P : Int32 → Prop) (v : Int32) (h1 : P 1) : wpY_fits P (nI mc, nI md, st, rt, cy, lh, nI cl, nI lc, oo, oa, ob, oc, lg, hn, (fun zz => nI (d zz)), (fun zz => nI (rs zz)), (fun zz => nI (bd zz)), (fun zz => nI (yr zz)), (fun zz => nI (lv zz)), rg, (fun zz => nI (q zz)), (fun zz => nI (m zz)), tg) 0 v := br_f (by decide) (br_f (by decide) h1)
theorem qc_yk0_0 (P : Int32 → Prop) (hP : P 1) : wpY_kindOf P (nI mc, nI md, st, rt, cy, lh, nI cl, nI lc, oo, oa, ob, oc, lg, hn, (fun zz => nI (d zz)), (fun zz => nI (rs zz)), (fun zz => nI (bd zz)), (fun zz => nI (yr zz)), (fun zz => nI (lv zz)), rg, (fun zz => nI (q zz)), (fun zz => nI (m zz)), tg) 0 0 := by
  repeat (first | exact hP | refine br_t (by decide) ?_ | refine br_f (by decide) ?_)
theorem qc_yk0_1 (P : Int32 → Prop) (hP : P 0) : wpY_kindOf P (nI mc, nI md, st, rt, cy, lh, nI cl, nI lc, oo, oa, ob, oc, lg, hn, (fun zz => nI (d zz)), (fun zz => nI (rs zz)), (fun zz => nI (bd zz)), (fun zz => nI (yr zz)), (fun zz => nI (lv zz)), rg, (fun zz => nI (q zz)), (fun zz => nI (m zz)), tg) 0 1 := by
  repeat (first | exact hP | refine br_t (by decide) ?_ | refine br_f (by decide) ?_)
theorem qc_yk0_2 (P : Int32 → Prop) (hP : P 0) : wpY_kindOf P (nI mc, nI md, st, rt, cy, lh, nI cl, nI lc, oo, oa, ob, oc, lg, hn, (fun zz => nI (d zz)), (fun zz => nI (rs zz)), (fun zz => nI (bd zz)), (fun zz => nI (yr zz)), (fun zz => nI (lv zz)), rg, (fun zz => nI (q zz)), (fun zz => nI (m zz)), tg) 0 2 := by
  repeat (first | exact hP | refine br_t (by decide) ?_ | refine br_f (by decide) ?_)
theorem qc_yk1_0 (P : Int32 → Prop) (hP : P 1) : wpY_kindOf P (nI mc, nI md, st, rt, cy, lh, nI cl, nI lc, oo, oa, ob, oc, lg, hn, (fun zz => nI (d zz)), (fun zz => nI (rs zz)), (fun zz => nI (bd zz)), (fun zz => nI (yr zz)), (fun zz => nI (lv zz)), rg, (fun zz => nI (q zz)), (fun zz => nI (m zz)), tg) 1 0 := by
  repeat (first | exact hP | refine br_t (by decide) ?_ | refine br_f (by decide) ?_)
theorem qc_yk1_1 (P : Int32 → Prop) (hP : P 1) : wpY_kindOf P (nI mc, nI md, st, rt, cy, lh, nI cl, nI lc, oo, oa, ob, oc, lg, hn, (fun zz => nI (d zz)), (fun zz => nI (rs zz)), (fun zz => nI (bd zz)), (fun zz => nI (yr zz)), (fun zz => nI (lv zz)), rg, (fun zz => nI (q zz)), (fun zz => nI (m zz)), tg) 1 1 := by
  repeat (first | exact hP | refine br_t (by decide) ?_ | refine br_f (by decide) ?_)
theorem qc_yk1_2 (P : Int32 → Prop) (hP : P 0) : wpY_kindOf P (nI mc, nI md, st, rt, cy, lh, nI cl, nI lc, oo, oa, ob, oc, lg, hn, (fun zz => nI (d zz)), (fun zz => nI (rs zz)), (fun zz => nI (bd zz)), (fun zz => nI (yr zz)), (fun zz => nI (lv zz)), rg, (fun zz => nI (q zz)), (fun zz => nI (m zz)), tg) 1 2 := by
  repeat (first | exact hP | refine br_t (by decide) ?_ | refine br_f (by decide) ?_)
theorem qc_yk2_0 (P : Int32 → Prop) (hP : P 1) : wpY_kindOf P (nI mc, nI md, st, rt, cy, lh, nI cl, nI lc, oo, oa, ob, oc, lg, hn, (fun zz => nI (d zz)), (fun zz => nI (rs zz)), (fun zz => nI (bd zz)), (fun zz => nI (yr zz)), (fun zz => nI (lv zz)), rg, (fun zz => nI (q zz)), (fun zz => nI (m zz)), tg) 2 0 := by
  repeat (first | exact hP | refine br_t (by decide) ?_ | refine br_f (by decide) ?_)
theorem qc_yk2_1 (P : Int32 → Prop) (hP : P 1) : wpY_kindOf P (nI mc, nI md, st, rt, cy, lh, nI cl, nI lc, oo, oa, ob, oc, lg, hn, (fun zz => nI (d zz)), (fun zz => nI (rs zz)), (fun zz => nI (bd zz)), (fun zz => nI (yr zz)), (fun zz => nI (lv zz)), rg, (fun zz => nI (q zz)), (fun zz => nI (m zz)), tg) 2 1 := by
  repeat (first | exact hP | refine br_t (by decide) ?_ | refine br_f (by decide) ?_)
theorem qc_yk2_2 (P : Int32 → Prop) (hP : P 1) : wpY_kindOf P (nI mc, nI md, st, rt, cy, lh, nI cl, nI lc, oo, oa, ob, oc, lg, hn, (fun zz => nI (d zz)), (fun zz => nI (rs zz)), (fun zz => nI (bd zz)), (fun zz => nI (yr zz)), (fun zz => nI (lv zz)), rg, (fun zz => nI (q zz)), (fun zz => nI (m zz)), tg) 2 2 := by
  repeat (first | exact hP | refine br_t (by decide) ?_ | refine br_f (by decide) ?_)
theorem qc_yk3_0 (P : Int32 → Prop) (hP : P 1) : wpY_kindOf P (nI mc, nI md, st, rt, cy, lh, nI cl, nI lc, oo, oa, ob, oc, lg, hn, (fun zz => nI (d zz)), (fun zz => nI (rs zz)), (fun zz => nI (bd zz)), (fun zz => nI (yr zz)), (fun zz => nI (lv zz)), rg, (fun zz => nI (q zz)), (fun zz => nI (m zz)), tg) 3 0 := by
  repeat (first | exact hP | refine br_t (by decide) ?_ | refine br_f (by decide) ?_)
theorem qc_yk3_1 (P : Int32 → Prop) (hP : P 1) : wpY_kindOf P (nI mc, nI md, st, rt, cy, lh, nI cl, nI lc, oo, oa, ob, oc, lg, hn, (fun zz => nI (d zz)), (fun zz => nI (rs zz)), (fun zz => nI (bd zz)), (fun zz => nI (yr zz)), (fun zz => nI (lv zz)), rg, (fun zz => nI (q zz)), (fun zz => nI (m zz)), tg) 3 1 := by
  repeat (first | exact hP | refine br_t (by decide) ?_ | refine br_f (by decide) ?_)
theorem qc_yk3_2 (P : Int32 → Prop) (hP : P 1) : wpY_kindOf P (nI mc, nI md, st, rt, cy, lh, nI cl, nI lc, oo, oa, ob, oc, lg, hn, (fun zz => nI (d zz)), (fun zz => nI (rs zz)), (fun zz => nI (bd zz)), (fun zz => nI (yr zz)), (fun zz => nI (lv zz)), rg, (fun zz => nI (q zz)), (fun zz => nI (m zz)), tg) 3 2 := by
  repeat (first | exact hP | refine br_t (by decide) ?_ | refine br_f (by decide) ?_)
theorem qc_yk4_0 (P : Int32 → Prop) (hP : P 1) : wpY_kindOf P (nI mc, nI md, st, rt, cy, lh, nI cl, nI lc, oo, oa, ob, oc, lg, hn, (fun zz => nI (d zz)), (fun zz => nI (rs zz)), (fun zz => nI (bd zz)), (fun zz => nI (yr zz)), (fun zz => nI (lv zz)), rg, (fun zz => nI (q zz)), (fun zz => nI (m zz)), tg) 4 0 := by
  repeat (first | exact hP | refine br_t (by decide) ?_ | refine br_f (by decide) ?_)
theorem qc_yk4_1 (P : Int32 → Prop) (hP : P 1) : wpY_kindOf P (nI mc, nI md, st, rt, cy, lh, nI cl, nI lc, oo, oa, ob, oc, lg, hn, (fun zz => nI (d zz)), (fun zz => nI (rs zz)), (fun zz => nI (bd zz)), (fun zz => nI (yr zz)), (fun zz => nI (lv zz)), rg, (fun zz => nI (q zz)), (fun zz => nI (m zz)), tg) 4 1 := by
  repeat (first | exact hP | refine br_t (by decide) ?_ | refine br_f (by decide) ?_)
theorem qc_yk4_2 (P : Int32 → Prop) (hP : P 1) : wpY_kindOf P (nI mc, nI md, st, rt, cy, lh, nI cl, nI lc, oo, oa, ob, oc, lg, hn, (fun zz => nI (d zz)), (fun zz => nI (rs zz)), (fun zz => nI (bd zz)), (fun zz => nI (yr zz)), (fun zz => nI (lv zz)), rg, (fun zz => nI (q zz)), (fun zz => nI (m zz)), tg) 4 2 := by
  repeat (first | exact hP | refine br_t (by decide) ?_ | refine br_f (by decide) ?_)
theorem qc_yk5_0 (P : Int32 → Prop) (hP : P 2) : wpY_kindOf P (nI mc, nI md, st, rt, cy, lh, nI cl, nI lc, oo, oa, ob, oc, lg, hn, (fun zz => nI (d zz)), (fun zz => nI (rs zz)), (fun zz => nI (bd zz)), (fun zz => nI (yr zz)), (fun zz => nI (lv zz)), rg, (fun zz => nI (q zz)), (fun zz => nI (m zz)), tg) 5 0 := by
  repeat (first | exact hP | refine br_t (by decide) ?_ | refine br_f (by decide) ?_)
theorem qc_yk5_1 (P : Int32 → Prop) (hP : P 0) : wpY_kindOf P (nI mc, nI md, st, rt, cy, lh, nI cl, nI lc, oo, oa, ob, oc, lg, hn, (fun zz => nI (d zz)), (fun zz => nI (rs zz)), (fun zz => nI (bd zz)), (fun zz => nI (yr zz)), (fun zz => nI (lv zz)), rg, (fun zz => nI (q zz)), (fun zz => nI (m zz)), tg) 5 1 := by
  repeat (first | exact hP | refine br_t (by decide) ?_ | refine br_f (by decide) ?_)
theorem qc_yk5_2 (P : Int32 → Prop) (hP : P 0) : wpY_kindOf P (nI mc, nI md, st, rt, cy, lh, nI cl, nI lc, oo, oa, ob, oc, lg, hn, (fun zz => nI (d zz)), (fun zz => nI (rs zz)), (fun zz => nI (bd zz)), (fun zz => nI (yr zz)), (fun zz => nI (lv zz)), rg, (fun zz => nI (q zz)), (fun zz => nI (m zz)), tg) 5 2 := by
  repeat (first | exact hP | refine br_t (by decide) ?_ | refine br_f (by decide) ?_)
theorem qc_yk6_0 (P : Int32 → Prop) (hP : P 1) : wpY_kindOf P (nI mc, nI md, st, rt, cy, lh, nI cl, nI lc, oo, oa, ob, oc, lg, hn, (fun zz => nI (d zz)), (fun zz => nI (rs zz)), (fun zz => nI (bd zz)), (fun zz => nI (yr zz)), (fun zz => nI (lv zz)), rg, (fun zz => nI (q zz)), (fun zz => nI (m zz)), tg) 6 0 := by
  repeat (first | exact hP | refine br_t (by decide) ?_ | refine br_f (by decide) ?_)
theorem qc_yk6_1 (P : Int32 → Prop) (hP : P 2) : wpY_kindOf P (nI mc, nI md, st, rt, cy, lh, nI cl, nI lc, oo, oa, ob, oc, lg, hn, (fun zz => nI (d zz)), (fun zz => nI (rs zz)), (fun zz => nI (bd zz)), (fun zz => nI (yr zz)), (fun zz => nI (lv zz)), rg, (fun zz => nI (q zz)), (fun zz => nI (m zz)), tg) 6 1 := by
  repeat (first | exact hP | refine br_t (by decide) ?_ | refine br_f (by decide) ?_)
theorem qc_yk6_2 (P : Int32 → Prop) (hP : P 0) : wpY_kindOf P (nI mc, nI md, st, rt, cy, lh, nI cl, nI lc, oo, oa, ob, oc, lg, hn, (fun zz => nI (d zz)), (fun zz => nI (rs zz)), (fun zz => nI (bd zz)), (fun zz => nI (yr zz)), (fun zz => nI (lv zz)), rg, (fun zz => nI (q zz)), (fun zz => nI (m zz)), tg) 6 2 := by
  repeat (first | exact hP | refine br_t (by decide) ?_ | refine br_f (by decide) ?_)
theorem qc_yk7_0 (P : Int32 → Prop) (hP : P 1) : wpY_kindOf P (nI mc, nI md, st, rt, cy, lh, nI cl, nI lc, oo, oa, ob, oc, lg, hn, (fun zz => nI (d zz)), (fun zz => nI (rs zz)), (fun zz => nI (bd zz)), (fun zz => nI (yr zz)), (fun zz => nI (lv zz)), rg, (fun zz => nI (q zz)), (fun zz => nI (m zz)), tg) 7 0 := by
  repeat (first | exact hP | refine br_t (by decide) ?_ | refine br_f (by decide) ?_)
theorem qc_yk7_1 (P : Int32 → Prop) (hP : P 2) : wpY_kindOf P (nI mc, nI md, st, rt, cy, lh, nI cl, nI lc, oo, oa, ob, oc, lg, hn, (fun zz => nI (d zz)), (fun zz => nI (rs zz)), (fun zz => nI (bd zz)), (fun zz => nI (yr zz)), (fun zz => nI (lv zz)), rg, (fun zz => nI (q zz)), (fun zz => nI (m zz)), tg) 7 1 := by
  repeat (first | exact hP | refine br_t (by decide) ?_ | refine br_f (by decide) ?_)
theorem qc_yk7_2 (P : Int32 → Prop) (hP : P 1) : wpY_kindOf P (nI mc, nI md, st, rt, cy, lh, nI cl, nI lc, oo, oa, ob, oc, lg, hn, (fun zz => nI (d zz)), (fun zz => nI (rs zz)), (fun zz => nI (bd zz)), (fun zz => nI (yr zz)), (fun zz => nI (lv zz)), rg, (fun zz => nI (q zz)), (fun zz => nI (m zz)), tg) 7 2 := by
  repeat (first | exact hP | refine br_t (by decide) ?_ | refine br_f (by decide) ?_)
theorem qc_yk8_0 (P : Int32 → Prop) (hP : P 1) : wpY_kindOf P (nI mc, nI md, st, rt, cy, lh, nI cl, nI lc, oo, oa, ob, oc, lg, hn, (fun zz => nI (d zz)), (fun zz => nI (rs zz)), (fun zz => nI (bd zz)), (fun zz => nI (yr zz)), (fun zz => nI (lv zz)), rg, (fun zz => nI (q zz)), (fun zz => nI (m zz)), tg) 8 0 := by
  repeat (first | exact hP | refine br_t (by decide) ?_ | refine br_f (by decide) ?_)
theorem qc_yk8_1 (P : Int32 → Prop) (hP : P 0) : wpY_kindOf P (nI mc, nI md, st, rt, cy, lh, nI cl, nI lc, oo, oa, ob, oc, lg, hn, (fun zz => nI (d zz)), (fun zz => nI (rs zz)), (fun zz => nI (bd zz)), (fun zz => nI (yr zz)), (fun zz => nI (lv zz)), rg, (fun zz => nI (q zz)), (fun zz => nI (m zz)), tg) 8 1 := by
  repeat (first | exact hP | refine br_t (by decide) ?_ | refine br_f (by decide) ?_)
theorem qc_yk8_2 (P : Int32 → Prop) (hP : P 0) : wpY_kindOf P (nI mc, nI md, st, rt, cy, lh, nI cl, nI lc, oo, oa, ob, oc, lg, hn, (fun zz => nI (d zz)), (fun zz => nI (rs zz)), (fun zz => nI (bd zz)), (fun zz => nI (yr zz)), (fun zz => nI (lv zz)), rg, (fun zz => nI (q zz)), (fun zz => nI (m zz)), tg) 8 2 := by
  repeat (first | exact hP | refine br_t (by decide) ?_ | refine br_f (by decide) ?_)
theorem qc_yk9_0 (P : Int32 → Prop) (hP : P 1) : wpY_kindOf P (nI mc, nI md, st, rt, cy, lh, nI cl, nI lc, oo, oa, ob, oc, lg, hn, (fun zz => nI (d zz)), (fun zz => nI (rs zz)), (fun zz => nI (bd zz)), (fun zz => nI (yr zz)), (fun zz => nI (lv zz)), rg, (fun zz => nI (q zz)), (fun zz => nI (m zz)), tg) 9 0 := by
  repeat (first | exact hP | refine br_t (by decide) ?_ | refine br_f (by decide) ?_)
theorem qc_yk9_1 (P : Int32 → Prop) (hP : P 0) : wpY_kindOf P (nI mc, nI md, st, rt, cy, lh, nI cl, nI lc, oo, oa, ob, oc, lg, hn, (fun zz => nI (d zz)), (fun zz => nI (rs zz)), (fun zz => nI (bd zz)), (fun zz => nI (yr zz)), (fun zz => nI (lv zz)), rg, (fun zz => nI (q zz)), (fun zz => nI (m zz)), tg) 9 1 := by
  repeat (first | exact hP | refine br_t (by decide) ?_ | refine br_f (by decide) ?_)
theorem qc_yk9_2 (P : Int32 → Prop) (hP : P 0) : wpY_kindOf P (nI mc, nI md, st, rt, cy, lh, nI cl, nI lc, oo, oa, ob, oc, lg, hn, (fun zz => nI (d zz)), (fun zz => nI (rs zz)), (fun zz => nI (bd zz)), (fun zz => nI (yr zz)), (fun zz => nI (lv zz)), rg, (fun zz => nI (q zz)), (fun zz => nI (m zz)), tg) 9 2 := by
  repeat (first | exact hP | refine br_t (by decide) ?_ | refine br_f (by decide) ?_)
theorem qc_yk10_0 (P : Int32 → Prop) (hP : P 1) : wpY_kindOf P (nI mc, nI md, st, rt, cy, lh, nI cl, nI lc, oo, oa, ob, oc, lg, hn, (fun zz => nI (d zz)), (fun zz => nI (rs zz)), (fun zz => nI (bd zz)), (fun zz => nI (yr zz)), (fun zz => nI (lv zz)), rg, (fun zz => nI (q zz)), (fun zz => nI (m zz)), tg) 10 0 := by
  repeat (first | exact hP | refine br_t (by decide) ?_ | refine br_f (by decide) ?_)
theorem qc_yk10_1 (P : Int32 → Prop) (hP : P 0) : wpY_kindOf P (nI mc, nI md, st, rt, cy, lh, nI cl, nI lc, oo, oa, ob, oc, lg, hn, (fun zz => nI (d zz)), (fun zz => nI (rs zz)), (fun zz => nI (bd zz)), (fun zz => nI (yr zz)), (fun zz => nI (lv zz)), rg, (fun zz => nI (q zz)), (fun zz => nI (m zz)), tg) 10 1 := by
  repeat (first | exact hP | refine br_t (by decide) ?_ | refine br_f (by decide) ?_)
theorem qc_yk10_2 (P : Int32 → Prop) (hP : P 0) : wpY_kindOf P (nI mc, nI md, st, rt, cy, lh, nI cl, nI lc, oo, oa, ob, oc, lg, hn, (fun zz => nI (d zz)), (fun zz => nI (rs zz)), (fun zz => nI (bd zz)), (fun zz => nI (yr zz)), (fun zz => nI (lv zz)), rg, (fun zz => nI (q zz)), (fun zz => nI (m zz)), tg) 10 2 := by
  repeat (first | exact hP | refine br_t (by decide) ?_ | refine br_f (by decide) ?_)
theorem qc_yk11_0 (P : Int32 → Prop) (hP : P 1) : wpY_kindOf P (nI mc, nI md, st, rt, cy, lh, nI cl, nI lc, oo, oa, ob, oc, lg, hn, (fun zz => nI (d zz)), (fun zz => nI (rs zz)), (fun zz => nI (bd zz)), (fun zz => nI (yr zz)), (fun zz => nI (lv zz)), rg, (fun zz => nI (q zz)), (fun zz => nI (m zz)), tg) 11 0 := by
  repeat (first | exact hP | refine br_t (by decide) ?_ | refine br_f (by decide) ?_)
theorem qc_yk11_1 (P : Int32 → Prop) (hP : P 0) : wpY_kindOf P (nI mc, nI md, st, rt, cy, lh, nI cl, nI lc, oo, oa, ob, oc, lg, hn, (fun zz => nI (d zz)), (fun zz => nI (rs zz)), (fun zz => nI (bd zz)), (fun zz => nI (yr zz)), (fun zz => nI (lv zz)), rg, (fun zz => nI (q zz)), (fun zz => nI (m zz)), tg) 11 1 := by
  repeat (first | exact hP | refine br_t (by decide) ?_ | refine br_f (by decide) ?_)
theorem qc_yk11_2 (P : Int32 → Prop) (hP : P 0) : wpY_kindOf P (nI mc, nI md, st, rt, cy, lh, nI cl, nI lc, oo, oa, ob, oc, lg, hn, (fun zz => nI (d zz)), (fun zz => nI (rs zz)), (fun zz => nI (bd zz)), (fun zz => nI (yr zz)), (fun zz => nI (lv zz)), rg, (fun zz => nI (q zz)), (fun zz => nI (m zz)), tg) 11 2 := by
  repeat (first | exact hP | refine br_t (by decide) ?_ | refine br_f (by decide) ?_)
theorem qc_yk12_0 (P : Int32 → Prop) (hP : P 1) : wpY_kindOf P (nI mc, nI md, st, rt, cy, lh, nI cl, nI lc, oo, oa, ob, oc, lg, hn, (fun zz => nI (d zz)), (fun zz => nI (rs zz)), (fun zz => nI (bd zz)), (fun zz => nI (yr zz)), (fun zz => nI (lv zz)), rg, (fun zz => nI (q zz)), (fun zz => nI (m zz)), tg) 12 0 := by
  repeat (first | exact hP | refine br_t (by decide) ?_ | refine br_f (by decide) ?_)
theorem qc_yk12_1 (P : Int32 → Prop) (hP : P 2) : wpY_kindOf P (nI mc, nI md, st, rt, cy, lh, nI cl, nI lc, oo, oa, ob, oc, lg, hn, (fun zz => nI (d zz)), (fun zz => nI (rs zz)), (fun zz => nI (bd zz)), (fun zz => nI (yr zz)), (fun zz => nI (lv zz)), rg, (fun zz => nI (q zz)), (fun zz => nI (m zz)), tg) 12 1 := by
  repeat (first | exact hP | refine br_t (by decide) ?_ | refine br_f (by decide) ?_)
theorem qc_yk12_2 (P : Int32 → Prop) (hP : P 0) : wpY_kindOf P (nI mc, nI md, st, rt, cy, lh, nI cl, nI lc, oo, oa, ob, oc, lg, hn, (fun zz => nI (d zz)), (fun zz => nI (rs zz)), (fun zz => nI (bd zz)), (fun zz => nI (yr zz)), (fun zz => nI (lv zz)), rg, (fun zz => nI (q zz)), (fun zz => nI (m zz)), tg) 12 2 := by
  repeat (first | exact hP | refine br_t (by decide) ?_ | refine br_f (by decide) ?_)
theorem qc_yk13_0 (P : Int32 → Prop) (hP : P 1) : wpY_kindOf P (nI mc, nI md, st, rt, cy, lh, nI cl, nI lc, oo, oa, ob, oc, lg, hn, (fun zz => nI (d zz)), (fun zz => nI (rs zz)), (fun zz => nI (bd zz)), (fun zz => nI (yr zz)), (fun zz => nI (lv zz)), rg, (fun zz => nI (q zz)), (fun zz => nI (m zz)), tg) 13 0 := by
  repeat (first | exact hP | refine br_t (by decide) ?_ | refine br_f (by decide) ?_)
theorem qc_yk13_1 (P : Int32 → Prop) (hP : P 1) : wpY_kindOf P (nI mc, nI md, st, rt, cy, lh, nI cl, nI lc, oo, oa, ob, oc, lg, hn, (fun zz => nI (d zz)), (fun zz => nI (rs zz)), (fun zz => nI (bd zz)), (fun zz => nI (yr zz)), (fun zz => nI (lv zz)), rg, (fun zz => nI (q zz)), (fun zz => nI (m zz)), tg) 13 1 := by
  repeat (first | exact hP | refine br_t (by decide) ?_ | refine br_f (by decide) ?_)
theorem qc_yk13_2 (P : Int32 → Prop) (hP : P 1) : wpY_kindOf P (nI mc, nI md, st, rt, cy, lh, nI cl, nI lc, oo, oa, ob, oc, lg, hn, (fun zz => nI (d zz)), (fun zz => nI (rs zz)), (fun zz => nI (bd zz)), (fun zz => nI (yr zz)), (fun zz => nI (lv zz)), rg, (fun zz => nI (q zz)), (fun zz => nI (m zz)), tg) 13 2 := by
  repeat (first | exact hP | refine br_t (by decide) ?_ | refine br_f (by decide) ?_)
theorem qc_yk14_0 (P : Int32 → Prop) (hP : P 1) : wpY_kindOf P (nI mc, nI md, st, rt, cy, lh, nI cl, nI lc, oo, oa, ob, oc, lg, hn, (fun zz => nI (d zz)), (fun zz => nI (rs zz)), (fun zz => nI (bd zz)), (fun zz => nI (yr zz)), (fun zz => nI (lv zz)), rg, (fun zz => nI (q zz)), (fun zz => nI (m zz)), tg) 14 0 := by
  repeat (first | exact hP | refine br_t (by decide) ?_ | refine br_f (by decide) ?_)
theorem qc_yk14_1 (P : Int32 → Prop) (hP : P 1) : wpY_kindOf P (nI mc, nI md, st, rt, cy, lh, nI cl, nI lc, oo, oa, ob, oc, lg, hn, (fun zz => nI (d zz)), (fun zz => nI (rs zz)), (fun zz => nI (bd zz)), (fun zz => nI (yr zz)), (fun zz => nI (lv zz)), rg, (fun zz => nI (q zz)), (fun zz => nI (m zz)), tg) 14 1 := by
  repeat (first | exact hP | refine br_t (by decide) ?_ | refine br_f (by decide) ?_)
theorem qc_yk14_2 (P : Int32 → Prop) (hP : P 1) : wpY_kindOf P (nI mc, nI md, st, rt, cy, lh, nI cl, nI lc, oo, oa, ob, oc, lg, hn, (fun zz => nI (d zz)), (fun zz => nI (rs zz)), (fun zz => nI (bd zz)), (fun zz => nI (yr zz)), (fun zz => nI (lv zz)), rg, (fun zz => nI (q zz)), (fun zz => nI (m zz)), tg) 14 2 := by
  repeat (first | exact hP | refine br_t (by decide) ?_ | refine br_f (by decide) ?_)
theorem qc_yk15_0 (P : Int32 → Prop) (hP : P 1) : wpY_kindOf P (nI mc, nI md, st, rt, cy, lh, nI cl, nI lc, oo, oa, ob, oc, lg, hn, (fun zz => nI (d zz)), (fun zz => nI (rs zz)), (fun zz => nI (bd zz)), (fun zz => nI (yr zz)), (fun zz => nI (lv zz)), rg, (fun zz => nI (q zz)), (fun zz => nI (m zz)), tg) 15 0 := by
  repeat (first | exact hP | refine br_t (by decide) ?_ | refine br_f (by decide) ?_)
theorem qc_yk15_1 (P : Int32 → Prop) (hP : P 1) : wpY_kindOf P (nI mc, nI md, st, rt, cy, lh, nI cl, nI lc, oo, oa, ob, oc, lg, hn, (fun zz => nI (d zz)), (fun zz => nI (rs zz)), (fun zz => nI (bd zz)), (fun zz => nI (yr zz)), (fun zz => nI (lv zz)), rg, (fun zz => nI (q zz)), (fun zz => nI (m zz)), tg) 15 1 := by
  repeat (first | exact hP | refine br_t (by decide) ?_ | refine br_f (by decide) ?_)
theorem qc_yk15_2 (P : Int32 → Prop) (hP : P 0) : wpY_kindOf P (nI mc, nI md, st, rt, cy, lh, nI cl, nI lc, oo, oa, ob, oc, lg, hn, (fun zz => nI (d zz)), (fun zz => nI (rs zz)), (fun zz => nI (bd zz)), (fun zz => nI (yr zz)), (fun zz => nI (lv zz)), rg, (fun zz => nI (q zz)), (fun zz => nI (m zz)), tg) 15 2 := by
  repeat (first | exact hP | refine br_t (by decide) ?_ | refine br_f (by decide) ?_)
theorem qc_yk16_0 (P : Int32 → Prop) (hP : P 1) : wpY_kindOf P (nI mc, nI md, st, rt, cy, lh, nI cl, nI lc, oo, oa, ob, oc, lg, hn, (fun zz => nI (d zz)), (fun zz => nI (rs zz)), (fun zz => nI (bd zz)), (fun zz => nI (yr zz)), (fun zz => nI (lv zz)), rg, (fun zz => nI (q zz)), (fun zz => nI (m zz)), tg) 16 0 := by
  repeat (first | exact hP | refine br_t (by decide) ?_ | refine br_f (by decide) ?_)
theorem qc_yk16_1 (P : Int32 → Prop) (hP : P 1) : wpY_kindOf P (nI mc, nI md, st, rt, cy, lh, nI cl, nI lc, oo, oa, ob, oc, lg, hn, (fun zz => nI (d zz)), (fun zz => nI (rs zz)), (fun zz => nI (bd zz)), (fun zz => nI (yr zz)), (fun zz => nI (lv zz)), rg, (fun zz => nI (q zz)), (fun zz => nI (m zz)), tg) 16 1 := by
  repeat (first | exact hP | refine br_t (by decide) ?_ | refine br_f (by decide) ?_)
theorem qc_yk16_2 (P : Int32 → Prop) (hP : P 0) : wpY_kindOf P (nI mc, nI md, st, rt, cy, lh, nI cl, nI lc, oo, oa, ob, oc, lg, hn, (fun zz => nI (d zz)), (fun zz => nI (rs zz)), (fun zz => nI (bd zz)), (fun zz => nI (yr zz)), (fun zz => nI (lv zz)), rg, (fun zz => nI (q zz)), (fun zz => nI (m zz)), tg) 16 2 := by
  repeat (first | exact hP | refine br_t (by decide) ?_ | refine br_f (by decide) ?_)
theorem qc_yk17_0 (P : Int32 → Prop) (hP : P 1) : wpY_kindOf P (nI mc, nI md, st, rt, cy, lh, nI cl, nI lc, oo, oa, ob, oc, lg, hn, (fun zz => nI (d zz)), (fun zz => nI (rs zz)), (fun zz => nI (bd zz)), (fun zz => nI (yr zz)), (fun zz => nI (lv zz)), rg, (fun zz => nI (q zz)), (fun zz => nI (m zz)), tg) 17 0 := by
  repeat (first | exact hP | refine br_t (by decide) ?_ | refine br_f (by decide) ?_)
theorem qc_yk17_1 (P : Int32 → Prop) (hP : P 1) : wpY_kindOf P (nI mc, nI md, st, rt, cy, lh, nI cl, nI lc, oo, oa, ob, oc, lg, hn, (fun zz => nI (d zz)), (fun zz => nI (rs zz)), (fun zz => nI (bd zz)), (fun zz => nI (yr zz)), (fun zz => nI (lv zz)), rg, (fun zz => nI (q zz)), (fun zz => nI (m zz)), tg) 17 1 := by
  repeat (first | exact hP | refine br_t (by decide) ?_ | refine br_f (by decide) ?_)
theorem qc_yk17_2 (P : Int32 → Prop) (hP : P 0) : wpY_kindOf P (nI mc, nI md, st, rt, cy, lh, nI cl, nI lc, oo, oa, ob, oc, lg, hn, (fun zz => nI (d zz)), (fun zz => nI (rs zz)), (fun zz => nI (bd zz)), (fun zz => nI (yr zz)), (fun zz => nI (lv zz)), rg, (fun zz => nI (q zz)), (fun zz => nI (m zz)), tg) 17 2 := by
  repeat (first | exact hP | refine br_t (by decide) ?_ | refine br_f (by decide) ?_)
theorem qc_yk18_0 (P : Int32 → Prop) (hP : P 1) : wpY_kindOf P (nI mc, nI md, st, rt, cy, lh, nI cl, nI lc, oo, oa, ob, oc, lg, hn, (fun zz => nI (d zz)), (fun zz => nI (rs zz)), (fun zz => nI (bd zz)), (fun zz => nI (yr zz)), (fun zz => nI (lv zz)), rg, (fun zz => nI (q zz)), (fun zz => nI (m zz)), tg) 18 0 := by
  repeat (first | exact hP | refine br_t (by decide) ?_ | refine br_f (by decide) ?_)
theorem qc_yk18_1 (P : Int32 → Prop) (hP : P 0) : wpY_kindOf P (nI mc, nI md, st, rt, cy, lh, nI cl, nI lc, oo, oa, ob, oc, lg, hn, (fun zz => nI (d zz)), (fun zz => nI (rs zz)), (fun zz => nI (bd zz)), (fun zz => nI (yr zz)), (fun zz => nI (lv zz)), rg, (fun zz => nI (q zz)), (fun zz => nI (m zz)), tg) 18 1 := by
  repeat (first | exact hP | refine br_t (by decide) ?_ | refine br_f (by decide) ?_)
theorem qc_yk18_2 (P : Int32 → Prop) (hP : P 0) : wpY_kindOf P (nI mc, nI md, st, rt, cy, lh, nI cl, nI lc, oo, oa, ob, oc, lg, hn, (fun zz => nI (d zz)), (fun zz => nI (rs zz)), (fun zz => nI (bd zz)), (fun zz => nI (yr zz)), (fun zz => nI (lv zz)), rg, (fun zz => nI (q zz)), (fun zz => nI (m zz)), tg) 18 2 := by
  repeat (first | exact hP | refine br_t (by decide) ?_ | refine br_f (by decide) ?_)
end
end
section
section
variable {mc md cl lc cu h B : Nat} {st rt lh rd re cy : Int32} {oo oa ob oc lg hn rg tg : Nat → Int32} {d s lv rs bd yr p q n m : Nat → Nat} {c r t x a b : Nat} {l L : List Nat}
theorem qc_yem (Q : Int32 → SY → Prop) (o v2 v3 v4 : Int32) (hc : cl < 64)
    (h1 : qc_Fit o v2 v3 v4 → Q 1 (nI mc, nI md, 0, rt, cy, lh, nI (cl + 1), nI lc, (upd oo cl o), (upd oa cl v2), (upd ob cl v3), (upd oc cl v4), lg, hn, (fun zz => nI (d zz)), (fun zz => nI (rs zz)), (fun zz => nI (bd zz)), (fun zz => nI (yr zz)), (fun zz => nI (lv zz)), rg, (fun zz => nI (q zz)), (fun zz => nI (m zz)), tg))
    (h0 : ¬ qc_Fit o v2 v3 v4 → Q 0 (nI mc, nI md, 0, rt, cy, lh, nI cl, nI lc, oo, oa, ob, oc, lg, hn, (fun zz => nI (d zz)), (fun zz => nI (rs zz)), (fun zz => nI (bd zz)), (fun zz => nI (yr zz)), (fun zz => nI (lv zz)), rg, (fun zz => nI (q zz)), (fun zz => nI (m zz)), tg)) : wpY_emit Q (nI mc, nI md, 0, rt, cy, lh, nI cl, nI lc, oo, oa, ob, oc, lg, hn, (fun zz => nI (d zz)), (fun zz => nI (rs zz)), (fun zz => nI (bd zz)), (fun zz => nI (yr zz)), (fun zz => nI (lv zz)), rg, (fun zz => nI (q zz)), (fun zz => nI (m zz)), tg) o v2 v3 v4 := by
  have c64 : ¬ (64 : Int32) ≤ nI cl := nI_ge (b := 64) hc (by decide)
  rcases qc_op o with z | z | rfl | rfl | rfl | rfl | rfl | rfl | rfl | rfl | rfl | rfl | rfl | rfl | rfl | rfl | rfl | rfl | rfl | rfl | rfl
  · exact br_t rfl (br_f c64 (br_t z (h0 fun w => (qc_Fno w).1 z)))
  · exact br_t rfl (br_f c64 (br_f (fun y => absurd (Int32.lt_trans z y) (by decide)) (br_f (Int32.not_le.mpr z) (h0 fun w => (qc_Fno w).2 z))))
  · exact br_t rfl (br_f c64 (br_f (by decide) (br_t (by decide) (qc_yk0_0 _ (qc_yk0_1 _ (qc_yk0_2 _ (qc_yfR _ _ (fun za => br_f (by decide) (qc_yfN _ _ (br_f (by decide) (qc_yfN _ _ (br_f (by decide) (⟨vp_in_nI (by omega) (by decide), nm_r (qc_sr rfl (by omega) rfl) ⟨vp_in_nI (by omega) (by decide), nm_r (qc_sr rfl (by omega) rfl) ⟨vp_in_nI (by omega) (by decide), nm_r (qc_sr rfl (by omega) rfl) ⟨vp_in_nI (by omega) (by decide), nm_r (qc_sr rfl (by omega) rfl) (nm_r (nI_1 cl) (h1 ((qc_F0 _ _ _).mpr za)))⟩⟩⟩⟩)))))) (fun z => br_t rfl (h0 fun w => z ((qc_F0 _ _ _).mp w))))))))))
  · exact br_t rfl (br_f c64 (br_f (by decide) (br_t (by decide) (qc_yk1_0 _ (qc_yk1_1 _ (qc_yk1_2 _ (qc_yfR _ _ (fun za => br_f (by decide) (qc_yfR _ _ (fun zb => br_f (by decide) (qc_yfN _ _ (br_f (by decide) (⟨vp_in_nI (by omega) (by decide), nm_r (qc_sr rfl (by omega) rfl) ⟨vp_in_nI (by omega) (by decide), nm_r (qc_sr rfl (by omega) rfl) ⟨vp_in_nI (by omega) (by decide), nm_r (qc_sr rfl (by omega) rfl) ⟨vp_in_nI (by omega) (by decide), nm_r (qc_sr rfl (by omega) rfl) (nm_r (nI_1 cl) (h1 ((qc_F1 _ _ _).mpr ⟨za, zb⟩)))⟩⟩⟩⟩)))) (fun z => br_t rfl (h0 fun w => z ((qc_F1 _ _ _).mp w).2)))) (fun z => br_t rfl (h0 fun w => z ((qc_F1 _ _ _).mp w).1)))))))))
  · exact br_t rfl (br_f c64 (br_f (by decide) (br_t (by decide) (qc_yk2_0 _ (qc_yk2_1 _ (qc_yk2_2 _ (qc_yfR _ _ (fun za => br_f (by decide) (qc_yfR _ _ (fun zb => br_f (by decide) (qc_yfR _ _ (fun zc => br_f (by decide) (⟨vp_in_nI (by omega) (by decide), nm_r (qc_sr rfl (by omega) rfl) ⟨vp_in_nI (by omega) (by decide), nm_r (qc_sr rfl (by omega) rfl) ⟨vp_in_nI (by omega) (by decide), nm_r (qc_sr rfl (by omega) rfl) ⟨vp_in_nI (by omega) (by decide), nm_r (qc_sr rfl (by omega) rfl) (nm_r (nI_1 cl) (h1 ((qc_F2 _ _ _).mpr ⟨za, zb, zc⟩)))⟩⟩⟩⟩)) (fun z => br_t rfl (h0 fun w => z ((qc_F2 _ _ _).mp w).2.2)))) (fun z => br_t rfl (h0 fun w => z ((qc_F2 _ _ _).mp w).2.1)))) (fun z => br_t rfl (h0 fun w => z ((qc_F2 _ _ _).mp w).1)))))))))
  · exact br_t rfl (br_f c64 (br_f (by decide) (br_t (by decide) (qc_yk3_0 _ (qc_yk3_1 _ (qc_yk3_2 _ (qc_yfR _ _ (fun za => br_f (by decide) (qc_yfR _ _ (fun zb => br_f (by decide) (qc_yfR _ _ (fun zc => br_f (by decide) (⟨vp_in_nI (by omega) (by decide), nm_r (qc_sr rfl (by omega) rfl) ⟨vp_in_nI (by omega) (by decide), nm_r (qc_sr rfl (by omega) rfl) ⟨vp_in_nI (by omega) (by decide), nm_r (qc_sr rfl (by omega) rfl) ⟨vp_in_nI (by omega) (by decide), nm_r (qc_sr rfl (by omega) rfl) (nm_r (nI_1 cl) (h1 ((qc_F3 _ _ _).mpr ⟨za, zb, zc⟩)))⟩⟩⟩⟩)) (fun z => br_t rfl (h0 fun w => z ((qc_F3 _ _ _).mp w).2.2)))) (fun z => br_t rfl (h0 fun w => z ((qc_F3 _ _ _).mp w).2.1)))) (fun z => br_t rfl (h0 fun w => z ((qc_F3 _ _ _).mp w).1)))))))))
  · exact br_t rfl (br_f c64 (br_f (by decide) (br_t (by decide) (qc_yk4_0 _ (qc_yk4_1 _ (qc_yk4_2 _ (qc_yfR _ _ (fun za => br_f (by decide) (qc_yfR _ _ (fun zb => br_f (by decide) (qc_yfR _ _ (fun zc => br_f (by decide) (⟨vp_in_nI (by omega) (by decide), nm_r (qc_sr rfl (by omega) rfl) ⟨vp_in_nI (by omega) (by decide), nm_r (qc_sr rfl (by omega) rfl) ⟨vp_in_nI (by omega) (by decide), nm_r (qc_sr rfl (by omega) rfl) ⟨vp_in_nI (by omega) (by decide), nm_r (qc_sr rfl (by omega) rfl) (nm_r (nI_1 cl) (h1 ((qc_F4 _ _ _).mpr ⟨za, zb, zc⟩)))⟩⟩⟩⟩)) (fun z => br_t rfl (h0 fun w => z ((qc_F4 _ _ _).mp w).2.2)))) (fun z => br_t rfl (h0 fun w => z ((qc_F4 _ _ _).mp w).2.1)))) (fun z => br_t rfl (h0 fun w => z ((qc_F4 _ _ _).mp w).1)))))))))
  · exact br_t rfl (br_f c64 (br_f (by decide) (br_t (by decide) (qc_yk5_0 _ (qc_yk5_1 _ (qc_yk5_2 _ (qc_yfA _ _ (fun za => br_f (by decide) (qc_yfN _ _ (br_f (by decide) (qc_yfN _ _ (br_f (by decide) (⟨vp_in_nI (by omega) (by decide), nm_r (qc_sr rfl (by omega) rfl) ⟨vp_in_nI (by omega) (by decide), nm_r (qc_sr rfl (by omega) rfl) ⟨vp_in_nI (by omega) (by decide), nm_r (qc_sr rfl (by omega) rfl) ⟨vp_in_nI (by omega) (by decide), nm_r (qc_sr rfl (by omega) rfl) (nm_r (nI_1 cl) (h1 ((qc_F5 _ _ _).mpr za)))⟩⟩⟩⟩)))))) (fun z => br_t rfl (h0 fun w => z ((qc_F5 _ _ _).mp w))))))))))
  · exact br_t rfl (br_f c64 (br_f (by decide) (br_t (by decide) (qc_yk6_0 _ (qc_yk6_1 _ (qc_yk6_2 _ (qc_yfR _ _ (fun za => br_f (by decide) (qc_yfA _ _ (fun zb => br_f (by decide) (qc_yfN _ _ (br_f (by decide) (⟨vp_in_nI (by omega) (by decide), nm_r (qc_sr rfl (by omega) rfl) ⟨vp_in_nI (by omega) (by decide), nm_r (qc_sr rfl (by omega) rfl) ⟨vp_in_nI (by omega) (by decide), nm_r (qc_sr rfl (by omega) rfl) ⟨vp_in_nI (by omega) (by decide), nm_r (qc_sr rfl (by omega) rfl) (nm_r (nI_1 cl) (h1 ((qc_F6 _ _ _).mpr ⟨za, zb⟩)))⟩⟩⟩⟩)))) (fun z => br_t rfl (h0 fun w => z ((qc_F6 _ _ _).mp w).2)))) (fun z => br_t rfl (h0 fun w => z ((qc_F6 _ _ _).mp w).1)))))))))
  · exact br_t rfl (br_f c64 (br_f (by decide) (br_t (by decide) (qc_yk7_0 _ (qc_yk7_1 _ (qc_yk7_2 _ (qc_yfR _ _ (fun za => br_f (by decide) (qc_yfA _ _ (fun zb => br_f (by decide) (qc_yfR _ _ (fun zc => br_f (by decide) (⟨vp_in_nI (by omega) (by decide), nm_r (qc_sr rfl (by omega) rfl) ⟨vp_in_nI (by omega) (by decide), nm_r (qc_sr rfl (by omega) rfl) ⟨vp_in_nI (by omega) (by decide), nm_r (qc_sr rfl (by omega) rfl) ⟨vp_in_nI (by omega) (by decide), nm_r (qc_sr rfl (by omega) rfl) (nm_r (nI_1 cl) (h1 ((qc_F7 _ _ _).mpr ⟨za, zb, zc⟩)))⟩⟩⟩⟩)) (fun z => br_t rfl (h0 fun w => z ((qc_F7 _ _ _).mp w).2.2)))) (fun z => br_t rfl (h0 fun w => z ((qc_F7 _ _ _).mp w).2.1)))) (fun z => br_t rfl (h0 fun w => z ((qc_F7 _ _ _).mp w).1)))))))))
  · exact br_t rfl (br_f c64 (br_f (by decide) (br_t (by decide) (qc_yk8_0 _ (qc_yk8_1 _ (qc_yk8_2 _ (qc_yfR _ _ (fun za => br_f (by decide) (qc_yfN _ _ (br_f (by decide) (qc_yfN _ _ (br_f (by decide) (⟨vp_in_nI (by omega) (by decide), nm_r (qc_sr rfl (by omega) rfl) ⟨vp_in_nI (by omega) (by decide), nm_r (qc_sr rfl (by omega) rfl) ⟨vp_in_nI (by omega) (by decide), nm_r (qc_sr rfl (by omega) rfl) ⟨vp_in_nI (by omega) (by decide), nm_r (qc_sr rfl (by omega) rfl) (nm_r (nI_1 cl) (h1 ((qc_F8 _ _ _).mpr za)))⟩⟩⟩⟩)))))) (fun z => br_t rfl (h0 fun w => z ((qc_F8 _ _ _).mp w))))))))))
  · exact br_t rfl (br_f c64 (br_f (by decide) (br_t (by decide) (qc_yk9_0 _ (qc_yk9_1 _ (qc_yk9_2 _ (qc_yfR _ _ (fun za => br_f (by decide) (qc_yfN _ _ (br_f (by decide) (qc_yfN _ _ (br_f (by decide) (⟨vp_in_nI (by omega) (by decide), nm_r (qc_sr rfl (by omega) rfl) ⟨vp_in_nI (by omega) (by decide), nm_r (qc_sr rfl (by omega) rfl) ⟨vp_in_nI (by omega) (by decide), nm_r (qc_sr rfl (by omega) rfl) ⟨vp_in_nI (by omega) (by decide), nm_r (qc_sr rfl (by omega) rfl) (nm_r (nI_1 cl) (h1 ((qc_F9 _ _ _).mpr za)))⟩⟩⟩⟩)))))) (fun z => br_t rfl (h0 fun w => z ((qc_F9 _ _ _).mp w))))))))))
  · exact br_t rfl (br_f c64 (br_f (by decide) (br_t (by decide) (qc_yk10_0 _ (qc_yk10_1 _ (qc_yk10_2 _ (qc_yfR _ _ (fun za => br_f (by decide) (qc_yfN _ _ (br_f (by decide) (qc_yfN _ _ (br_f (by decide) (⟨vp_in_nI (by omega) (by decide), nm_r (qc_sr rfl (by omega) rfl) ⟨vp_in_nI (by omega) (by decide), nm_r (qc_sr rfl (by omega) rfl) ⟨vp_in_nI (by omega) (by decide), nm_r (qc_sr rfl (by omega) rfl) ⟨vp_in_nI (by omega) (by decide), nm_r (qc_sr rfl (by omega) rfl) (nm_r (nI_1 cl) (h1 ((qc_F10 _ _ _).mpr za)))⟩⟩⟩⟩)))))) (fun z => br_t rfl (h0 fun w => z ((qc_F10 _ _ _).mp w))))))))))
  · exact br_t rfl (br_f c64 (br_f (by decide) (br_t (by decide) (qc_yk11_0 _ (qc_yk11_1 _ (qc_yk11_2 _ (qc_yfR _ _ (fun za => br_f (by decide) (qc_yfN _ _ (br_f (by decide) (qc_yfN _ _ (br_f (by decide) (⟨vp_in_nI (by omega) (by decide), nm_r (qc_sr rfl (by omega) rfl) ⟨vp_in_nI (by omega) (by decide), nm_r (qc_sr rfl (by omega) rfl) ⟨vp_in_nI (by omega) (by decide), nm_r (qc_sr rfl (by omega) rfl) ⟨vp_in_nI (by omega) (by decide), nm_r (qc_sr rfl (by omega) rfl) (nm_r (nI_1 cl) (h1 ((qc_F11 _ _ _).mpr za)))⟩⟩⟩⟩)))))) (fun z => br_t rfl (h0 fun w => z ((qc_F11 _ _ _).mp w))))))))))
  · exact br_t rfl (br_f c64 (br_f (by decide) (br_t (by decide) (qc_yk12_0 _ (qc_yk12_1 _ (qc_yk12_2 _ (qc_yfR _ _ (fun za => br_f (by decide) (qc_yfA _ _ (fun zb => br_f (by decide) (qc_yfN _ _ (br_f (by decide) (⟨vp_in_nI (by omega) (by decide), nm_r (qc_sr rfl (by omega) rfl) ⟨vp_in_nI (by omega) (by decide), nm_r (qc_sr rfl (by omega) rfl) ⟨vp_in_nI (by omega) (by decide), nm_r (qc_sr rfl (by omega) rfl) ⟨vp_in_nI (by omega) (by decide), nm_r (qc_sr rfl (by omega) rfl) (nm_r (nI_1 cl) (h1 ((qc_F12 _ _ _).mpr ⟨za, zb⟩)))⟩⟩⟩⟩)))) (fun z => br_t rfl (h0 fun w => z ((qc_F12 _ _ _).mp w).2)))) (fun z => br_t rfl (h0 fun w => z ((qc_F12 _ _ _).mp w).1)))))))))
  · exact br_t rfl (br_f c64 (br_f (by decide) (br_t (by decide) (qc_yk13_0 _ (qc_yk13_1 _ (qc_yk13_2 _ (qc_yfR _ _ (fun za => br_f (by decide) (qc_yfR _ _ (fun zb => br_f (by decide) (qc_yfR _ _ (fun zc => br_f (by decide) (⟨vp_in_nI (by omega) (by decide), nm_r (qc_sr rfl (by omega) rfl) ⟨vp_in_nI (by omega) (by decide), nm_r (qc_sr rfl (by omega) rfl) ⟨vp_in_nI (by omega) (by decide), nm_r (qc_sr rfl (by omega) rfl) ⟨vp_in_nI (by omega) (by decide), nm_r (qc_sr rfl (by omega) rfl) (nm_r (nI_1 cl) (h1 ((qc_F13 _ _ _).mpr ⟨za, zb, zc⟩)))⟩⟩⟩⟩)) (fun z => br_t rfl (h0 fun w => z ((qc_F13 _ _ _).mp w).2.2)))) (fun z => br_t rfl (h0 fun w => z ((qc_F13 _ _ _).mp w).2.1)))) (fun z => br_t rfl (h0 fun w => z ((qc_F13 _ _ _).mp w).1)))))))))
  · exact br_t rfl (br_f c64 (br_f (by decide) (br_t (by decide) (qc_yk14_0 _ (qc_yk14_1 _ (qc_yk14_2 _ (qc_yfR _ _ (fun za => br_f (by decide) (qc_yfR _ _ (fun zb => br_f (by decide) (qc_yfR _ _ (fun zc => br_f (by decide) (⟨vp_in_nI (by omega) (by decide), nm_r (qc_sr rfl (by omega) rfl) ⟨vp_in_nI (by omega) (by decide), nm_r (qc_sr rfl (by omega) rfl) ⟨vp_in_nI (by omega) (by decide), nm_r (qc_sr rfl (by omega) rfl) ⟨vp_in_nI (by omega) (by decide), nm_r (qc_sr rfl (by omega) rfl) (nm_r (nI_1 cl) (h1 ((qc_F14 _ _ _).mpr ⟨za, zb, zc⟩)))⟩⟩⟩⟩)) (fun z => br_t rfl (h0 fun w => z ((qc_F14 _ _ _).mp w).2.2)))) (fun z => br_t rfl (h0 fun w => z ((qc_F14 _ _ _).mp w).2.1)))) (fun z => br_t rfl (h0 fun w => z ((qc_F14 _ _ _).mp w).1)))))))))
  · exact br_t rfl (br_f c64 (br_f (by decide) (br_t (by decide) (qc_yk15_0 _ (qc_yk15_1 _ (qc_yk15_2 _ (qc_yfR _ _ (fun za => br_f (by decide) (qc_yfR _ _ (fun zb => br_f (by decide) (qc_yfN _ _ (br_f (by decide) (⟨vp_in_nI (by omega) (by decide), nm_r (qc_sr rfl (by omega) rfl) ⟨vp_in_nI (by omega) (by decide), nm_r (qc_sr rfl (by omega) rfl) ⟨vp_in_nI (by omega) (by decide), nm_r (qc_sr rfl (by omega) rfl) ⟨vp_in_nI (by omega) (by decide), nm_r (qc_sr rfl (by omega) rfl) (nm_r (nI_1 cl) (h1 ((qc_F15 _ _ _).mpr ⟨za, zb⟩)))⟩⟩⟩⟩)))) (fun z => br_t rfl (h0 fun w => z ((qc_F15 _ _ _).mp w).2)))) (fun z => br_t rfl (h0 fun w => z ((qc_F15 _ _ _).mp w).1)))))))))
  · exact br_t rfl (br_f c64 (br_f (by decide) (br_t (by decide) (qc_yk16_0 _ (qc_yk16_1 _ (qc_yk16_2 _ (qc_yfR _ _ (fun za => br_f (by decide) (qc_yfR _ _ (fun zb => br_f (by decide) (qc_yfN _ _ (br_f (by decide) (⟨vp_in_nI (by omega) (by decide), nm_r (qc_sr rfl (by omega) rfl) ⟨vp_in_nI (by omega) (by decide), nm_r (qc_sr rfl (by omega) rfl) ⟨vp_in_nI (by omega) (by decide), nm_r (qc_sr rfl (by omega) rfl) ⟨vp_in_nI (by omega) (by decide), nm_r (qc_sr rfl (by omega) rfl) (nm_r (nI_1 cl) (h1 ((qc_F16 _ _ _).mpr ⟨za, zb⟩)))⟩⟩⟩⟩)))) (fun z => br_t rfl (h0 fun w => z ((qc_F16 _ _ _).mp w).2)))) (fun z => br_t rfl (h0 fun w => z ((qc_F16 _ _ _).mp w).1)))))))))
  · exact br_t rfl (br_f c64 (br_f (by decide) (br_t (by decide) (qc_yk17_0 _ (qc_yk17_1 _ (qc_yk17_2 _ (qc_yfR _ _ (fun za => br_f (by decide) (qc_yfR _ _ (fun zb => br_f (by decide) (qc_yfN _ _ (br_f (by decide) (⟨vp_in_nI (by omega) (by decide), nm_r (qc_sr rfl (by omega) rfl) ⟨vp_in_nI (by omega) (by decide), nm_r (qc_sr rfl (by omega) rfl) ⟨vp_in_nI (by omega) (by decide), nm_r (qc_sr rfl (by omega) rfl) ⟨vp_in_nI (by omega) (by decide), nm_r (qc_sr rfl (by omega) rfl) (nm_r (nI_1 cl) (h1 ((qc_F17 _ _ _).mpr ⟨za, zb⟩)))⟩⟩⟩⟩)))) (fun z => br_t rfl (h0 fun w => z ((qc_F17 _ _ _).mp w).2)))) (fun z => br_t rfl (h0 fun w => z ((qc_F17 _ _ _).mp w).1)))))))))
  · exact br_t rfl (br_f c64 (br_f (by decide) (br_t (by decide) (qc_yk18_0 _ (qc_yk18_1 _ (qc_yk18_2 _ (qc_yfR _ _ (fun za => br_f (by decide) (qc_yfN _ _ (br_f (by decide) (qc_yfN _ _ (br_f (by decide) (⟨vp_in_nI (by omega) (by decide), nm_r (qc_sr rfl (by omega) rfl) ⟨vp_in_nI (by omega) (by decide), nm_r (qc_sr rfl (by omega) rfl) ⟨vp_in_nI (by omega) (by decide), nm_r (qc_sr rfl (by omega) rfl) ⟨vp_in_nI (by omega) (by decide), nm_r (qc_sr rfl (by omega) rfl) (nm_r (nI_1 cl) (h1 ((qc_F18 _ _ _).mpr za)))⟩⟩⟩⟩)))))) (fun z => br_t rfl (h0 fun w => z ((qc_F18 _ _ _).mp w))))))))))
theorem qc_Rem (K : qc_K mc md cl lc h B oo oa ob oc lv bd) (S : qc_S 0 rt L) (hcu : (∀ c l, L = c :: l → cu = c) ∧ ((0 : Int32) = 0 → ∀ t, t < 5 → s t = 3)) (I : qc_I mc md oo oa ob d s lv rs yr p q n m L)
    (hc : cl < 64) {o v2 v3 v4 : Int32} (F : qc_Fit o v2 v3 v4) :
    qc_R B (nI mc, nI md, nI (cl + 1), nI lc, 0, rt, nI cu, nI h, 0, re, (upd oo cl o), (upd oa cl v2), (upd ob cl v3), (upd oc cl v4), lg, hn, (fun zz => nI (s zz)), (fun zz => nI (rs zz)), (fun zz => nI (bd zz)), (fun zz => nI (d zz)), (fun zz => nI (p zz)), (fun zz => nI (n zz)), rg, tg) (nI mc, nI md, 0, rt, qc_cy L, nI h, nI (cl + 1), nI lc, (upd oo cl o), (upd oa cl v2), (upd ob cl v3), (upd oc cl v4), lg, hn, (fun zz => nI (d zz)), (fun zz => nI (rs zz)), (fun zz => nI (bd zz)), (fun zz => nI (yr zz)), (fun zz => nI (lv zz)), rg, (fun zz => nI (q zz)), (fun zz => nI (m zz)), tg) := by
  have L0 : L = [] := by
    rcases S with S | S | S
    · exact absurd S.1 (by decide)
    · exact S.2.2
    · exact S.2
  subst L0
  refine ⟨_, _, _, _, _, _, _, _, _, _, _, _, _, _, _, _, _, _, _, _, _, _, _, _, _, _, _, [], rfl, rfl, ⟨K.1, K.2.1, by omega, K.2.2.2.1, K.2.2.2.2.1, fun i hi => ?_, K.2.2.2.2.2.2⟩, S, hcu, I.1, I.2.1, I.2.2.1, I.2.2.2.1, fun t t5 => ?_⟩
  · by_cases z : i = cl
    · rw [z, pk_us, pk_us, pk_us, pk_us]; exact F
    · rw [pk_un z, pk_un z, pk_un z, pk_un z]; exact K.2.2.2.2.2.1 i (by omega)
  · have s3 := hcu.2 rfl t t5
    rcases I.2.2.2.2 t t5 with o | o
    · exact .inl o
    · have := o.2.1; omega
end
theorem i_vc_emit {k : Nat} {u : SX} {v : SY} (I : i_Rel k u v) (hk : k + 5 ≤ 2562) (v1 : Int32) (v2 : Int32) (v3 : Int32) (v4 : Int32) : wpX_emit (fun r u' => wpY_emit (fun r' v' => r' = r ∧ i_Rel (k + 5) u' v') v v1 v2 v3 v4) u v1 v2 v3 v4 := by
  have R := i_up I
  obtain ⟨mc, md, cl, lc, cu, h, st, rt, re, oo, oa, ob, oc, lg, hn, rg, tg, d, s, lv, rs, bd, yr, p, q, n, m, L, rfl, rfl, K, S, hcu, J⟩ := I
  by_cases s0 : st = 0
  · subst s0
    have c64 : cl ≤ 64 := K.2.2.1
    by_cases z : cl = 64
    · have y : (64 : Int32) ≤ nI cl := nI_le (a := 64) (by omega) (by omega)
      exact br_t rfl (br_t y (br_t rfl (br_t y ⟨rfl, R⟩)))
    · have y : ¬ (64 : Int32) ≤ nI cl := nI_ge (b := 64) (by omega) (by decide)
      refine br_t rfl (br_f y (qc_xof _ _ _ _ _ (fun F => br_f (by decide) ⟨vp_in_nI (by omega) (by decide), nm_r (qc_sr rfl (by omega) rfl) ⟨vp_in_nI (by omega) (by decide), nm_r (qc_sr rfl (by omega) rfl) ⟨vp_in_nI (by omega) (by decide), nm_r (qc_sr rfl (by omega) rfl) ⟨vp_in_nI (by omega) (by decide), nm_r (qc_sr rfl (by omega) rfl) (nm_r (nI_1 cl) ?_)⟩⟩⟩⟩) (fun F => br_t rfl ?_)))
      · exact qc_yem _ _ _ _ _ (by omega) (fun _ => ⟨rfl, qc_R_up (by omega) (qc_Rem K S hcu J (by omega) F)⟩) (fun w => absurd F w)
      · exact qc_yem _ _ _ _ _ (by omega) (fun w => absurd w F) (fun _ => ⟨rfl, R⟩)
  · exact br_f s0 (br_f s0 ⟨rfl, R⟩)
theorem i_vc_start {k : Nat} {u : SX} {v : SY} (I : i_Rel k u v) (hk : k + 5 ≤ 2562) (v1 : Int32) (v2 : Int32) : wpX_start (fun r u' => wpY_start (fun r' v' => r' = r ∧ i_Rel (k + 5) u' v') v v1 v2) u v1 v2 := by
  have R := i_up I
  obtain ⟨mc, md, cl, lc, cu, h, st, rt, re, oo, oa, ob, oc, lg, hn, rg, tg, d, s, lv, rs, bd, yr, p, q, n, m, L, rfl, rfl, K, S, hcu, J⟩ := I
  by_cases s0 : st = 0
  · subst s0
    have c64 : cl ≤ 64 := K.2.2.1
    by_cases z : v1 < 0
    · exact br_t rfl (br_t z (br_t rfl (br_c (fun _ => ⟨rfl, R⟩) (fun _ => br_t z ⟨rfl, R⟩))))
    · obtain ⟨e, he, rfl⟩ := nI_of z
      by_cases y : e < cl
      · obtain ⟨rt0, L0⟩ : rt = 0 ∧ L = [] := by
          rcases S with S | S | S
          · exact absurd S.1 (by decide)
          · exact ⟨S.2.1, S.2.2⟩
          · rcases S.1 with w | w <;> exact absurd w (by decide)
        subst rt0 L0
        obtain ⟨d0, I'⟩ := qc_tr_start (b := e) K.2.1.2 K.2.1.1 J (by omega)
        have hy : nI e < nI cl := nI_lt y (by omega)
        have hR : qc_R (1000 * (k + 5)) (nI mc, nI md, nI cl, nI lc, 1, 0, nI 0, nI h, 0, re, oo, oa, ob, oc, lg, hn, (fun zz => nI ((qc_u s 0 1) zz)), (fun zz => nI (rs zz)), (fun zz => nI (bd zz)), (fun zz => nI ((qc_u d 0 (d 0 + 1)) zz)), (fun zz => nI ((qc_u p (0 * 6 + d 0) e) zz)), (fun zz => nI ((qc_u n (0 * 6 + d 0) 0) zz)), (qc_pr rg ((0 * 6 + d 0) * 8) v2), tg) (nI mc, nI md, 1, 0, nI 0, nI h, nI cl, nI lc, oo, oa, ob, oc, lg, hn, (fun zz => nI ((qc_u d 0 (d 0 + 1)) zz)), (fun zz => nI (rs zz)), (fun zz => nI (bd zz)), (fun zz => nI (yr zz)), (fun zz => nI (lv zz)), (qc_pr rg ((0 * 6 + d 0) * 8) v2), (fun zz => nI ((qc_u q (0 * 6 + d 0) e) zz)), (fun zz => nI ((qc_u m (0 * 6 + d 0) 0) zz)), tg) := qc_R_up (by omega) (qc_Rmk K I')
        refine br_t rfl (br_f z (br_t hy (qc_xpush (t := 0) _ _ (by omega) (by omega) (nm_r (qc_uI _ 0 1) ?_))))
        exact br_t rfl (br_f (nI_nlt (b := 1) (by omega) (by omega)) (br_f z (br_t hy (nm_r ((qc_uI d 0 0).trans (by rw [qc_ue d0])) (qc_ypush (t := 0) _ _ (by omega) (by omega) ⟨rfl, hR⟩)))))
      · have hy : ¬ nI e < nI cl := nI_nlt (by omega) he
        exact br_t rfl (br_f z (br_f hy (br_t rfl (br_c (fun _ => ⟨rfl, R⟩) (fun _ => br_f z (br_f hy ⟨rfl, R⟩))))))
  · exact br_f s0 (br_f s0 ⟨rfl, R⟩)
section
variable {mc md cl lc cu h B : Nat} {st rt lh rd re cy : Int32} {oo oa ob oc lg hn rg tg : Nat → Int32} {d s lv rs bd yr p q n m : Nat → Nat} {c r t x a b : Nat} {l L : List Nat}
theorem qc_inl (P : SX → Prop) : ∀ (k j : Nat) (s : Nat → Nat), j + k = 5 → (∀ s' : Nat → Nat, (∀ t, j ≤ t → t < 5 → s' t = 3) → (∀ t, t < j → s' t = s t) → P (nI mc, nI md, nI cl, nI lc, st, rt, nI cu, lh, rd, re, oo, oa, ob, oc, lg, hn, (fun zz => nI (s' zz)), (fun zz => nI (rs zz)), (fun zz => nI (bd zz)), (fun zz => nI (d zz)), (fun zz => nI (p zz)), (fun zz => nI (n zz)), rg, tg)) → wX_init_135 P (nI mc) (nI md) (nI cl) (nI lc) st rt (nI cu) lh rd re (k + 1) (nI j) oo oa ob oc lg hn (fun zz => nI (s zz)) (fun zz => nI (rs zz)) (fun zz => nI (bd zz)) (fun zz => nI (d zz)) (fun zz => nI (p zz)) (fun zz => nI (n zz)) rg tg := by
  intro k
  induction k with
  | zero =>
    intro j s hj H
    exact br_t (nI_le (a := 5) (by omega) (by omega)) (H s (fun t a b => by omega) (fun t _ => rfl))
  | succ k ih =>
    intro j s hj H
    refine br_f (nI_ge (b := 5) (by omega) (by decide)) ⟨vp_in_nI (by omega) (by decide), nm_r (qc_st (x := 3) rfl rfl (by omega)) (nm_r (nI_1 j) (ih (j + 1) _ (by omega) (fun s' h1 h2 => H s' (fun t a b => ?_) (fun t a => ?_))))⟩
    · by_cases z : t = j
      · rw [z, h2 j (by omega), qc_us]
      · exact h1 t (by omega) b
    · rw [h2 t (by omega), qc_uo (by omega)]
end
theorem qc_cla (v : Int32) (M : Int32) (N : Nat) (hM : M.toInt = N) : (¬ 1 ≤ v) ∨ (1 ≤ v ∧ ¬ v ≤ M) ∨ ∃ j, 1 ≤ j ∧ j ≤ N ∧ v = nI j ∧ 1 ≤ v ∧ v ≤ M := by
  by_cases z1 : 1 ≤ v
  · by_cases z2 : v ≤ M
    · obtain ⟨j, hj, e⟩ := nI_of2 (x := v) (M := M) hM (fun w => absurd (Int32.lt_of_le_of_lt z1 w) (by decide)) z2
      refine .inr (.inr ⟨j, ?_, hj, e, z1, z2⟩)
      by_cases j0 : j = 0
      · rw [e, j0] at z1
        exact absurd z1 (by decide)
      · omega
    · exact .inr (.inl ⟨z1, z2⟩)
  · exact .inl z1
theorem i_vc0 (k0 : Int32) (k1 : Int32) : wpX_init (fun u => wpY_init (fun v => i_Rel 2 u v) k0 k1) k0 k1 := by
  have R : ∀ (mc md : Nat) (s : Nat → Nat), 1 ≤ mc → mc ≤ 4 → 1 ≤ md → md ≤ 6 → (∀ t, 0 ≤ t → t < 5 → s t = 3) →
      i_Rel 2 (nI mc, nI md, nI 0, nI 0, 0, 0, nI 0, 0, 0, 0, (fun _ => 0), (fun _ => 0), (fun _ => 0), (fun _ => 0), (fun _ => 0), (fun _ => 0), (fun zz => nI (s zz)), (fun _ => 0), (fun _ => 0), (fun _ => 0), (fun _ => 0), (fun _ => 0), (fun _ => 0), (fun _ => 0)) (nI mc, nI md, 0, 0, (-1), 0, nI 0, nI 0, (fun _ => 0), (fun _ => 0), (fun _ => 0), (fun _ => 0), (fun _ => 0), (fun _ => 0), (fun _ => 0), (fun _ => 0), (fun _ => 0), (fun _ => 0), (fun _ => 0), (fun _ => 0), (fun _ => 0), (fun _ => 0), (fun _ => 0)) := by
    intro mc md s m1 m4 d1 d6 hs
    exact ⟨mc, md, 0, 0, 0, 0, 0, 0, 0, fun _ => 0, fun _ => 0, fun _ => 0, fun _ => 0, fun _ => 0, fun _ => 0, fun _ => 0, fun _ => 0, fun _ => 0, s, fun _ => 0, fun _ => 0, fun _ => 0, fun _ => 0, fun _ => 0, fun _ => 0, fun _ => 0, fun _ => 0, [], rfl, rfl,
      ⟨⟨m1, m4⟩, ⟨d1, d6⟩, by omega, by omega, by omega, fun i hi => absurd hi (Nat.not_lt_zero i), fun _ => (by decide : 0 < 64), rfl⟩,
      .inr (.inl ⟨rfl, rfl, rfl⟩), ⟨fun c l z => (nomatch z), fun _ t t5 => hs t (Nat.zero_le t) t5⟩,
      trivial, List.nodup_nil, fun t ht => absurd ht List.not_mem_nil, fun _ _ _ => rfl, fun t t5 => .inl ⟨hs t (Nat.zero_le t) t5, rfl, rfl⟩⟩
  have X : ∀ (mc md : Nat), 1 ≤ mc → mc ≤ 4 → 1 ≤ md → md ≤ 6 → ∀ P : SX → Prop, (∀ s : Nat → Nat, (∀ t, 0 ≤ t → t < 5 → s t = 3) → P (nI mc, nI md, nI 0, nI 0, 0, 0, nI 0, 0, 0, 0, (fun _ => 0), (fun _ => 0), (fun _ => 0), (fun _ => 0), (fun _ => 0), (fun _ => 0), (fun zz => nI (s zz)), (fun _ => 0), (fun _ => 0), (fun _ => 0), (fun _ => 0), (fun _ => 0), (fun _ => 0), (fun _ => 0))) →
      ∃ n135 : Nat, wX_init_135 P (nI mc) (nI md) 0 0 0 0 0 0 0 0 n135 0 (fun _ => 0) (fun _ => 0) (fun _ => 0) (fun _ => 0) (fun _ => 0) (fun _ => 0) (fun _ => 0) (fun _ => 0) (fun _ => 0) (fun _ => 0) (fun _ => 0) (fun _ => 0) (fun _ => 0) (fun _ => 0) := by
    intro mc md m1 m4 d1 d6 P H
    exact ⟨6, qc_inl (mc := mc) (md := md) (cl := 0) (lc := 0) (cu := 0) (rs := fun _ => 0) (bd := fun _ => 0) (d := fun _ => 0) (p := fun _ => 0) (n := fun _ => 0) P 5 0 (fun _ => 0) rfl (fun s' h1 h2 => H s' h1)⟩
  unfold wpX_init
  rcases qc_cla k0 4 4 (by decide) with z0 | ⟨z0, y0⟩ | ⟨j0, a0, b0, rfl, z0, y0⟩ <;> rcases qc_cla k1 6 6 (by decide) with z1 | ⟨z1, y1⟩ | ⟨j1, a1, b1, rfl, z1, y1⟩
  · exact br_f z0 (br_f z1 (X 1 1 (by omega) (by omega) (by omega) (by omega) _ (fun s hs => br_f z0 (br_f z1 (R 1 1 s (by omega) (by omega) (by omega) (by omega) hs)))))
  · exact br_f z0 (br_t z1 (br_f y1 (X 1 6 (by omega) (by omega) (by omega) (by omega) _ (fun s hs => br_f z0 (br_t z1 (br_f y1 (R 1 6 s (by omega) (by omega) (by omega) (by omega) hs)))))))
  · exact br_f z0 (br_t z1 (br_t y1 (X 1 j1 (by omega) (by omega) (by omega) (by omega) _ (fun s hs => br_f z0 (br_t z1 (br_t y1 (R 1 j1 s (by omega) (by omega) (by omega) (by omega) hs)))))))
  · exact br_t z0 (br_f y0 (br_f z1 (X 4 1 (by omega) (by omega) (by omega) (by omega) _ (fun s hs => br_t z0 (br_f y0 (br_f z1 (R 4 1 s (by omega) (by omega) (by omega) (by omega) hs)))))))
  · exact br_t z0 (br_f y0 (br_t z1 (br_f y1 (X 4 6 (by omega) (by omega) (by omega) (by omega) _ (fun s hs => br_t z0 (br_f y0 (br_t z1 (br_f y1 (R 4 6 s (by omega) (by omega) (by omega) (by omega) hs)))))))))
  · exact br_t z0 (br_f y0 (br_t z1 (br_t y1 (X 4 j1 (by omega) (by omega) (by omega) (by omega) _ (fun s hs => br_t z0 (br_f y0 (br_t z1 (br_t y1 (R 4 j1 s (by omega) (by omega) (by omega) (by omega) hs)))))))))
  · exact br_t z0 (br_t y0 (br_f z1 (X j0 1 (by omega) (by omega) (by omega) (by omega) _ (fun s hs => br_t z0 (br_t y0 (br_f z1 (R j0 1 s (by omega) (by omega) (by omega) (by omega) hs)))))))
  · exact br_t z0 (br_t y0 (br_t z1 (br_f y1 (X j0 6 (by omega) (by omega) (by omega) (by omega) _ (fun s hs => br_t z0 (br_t y0 (br_t z1 (br_f y1 (R j0 6 s (by omega) (by omega) (by omega) (by omega) hs)))))))))
  · exact br_t z0 (br_t y0 (br_t z1 (br_t y1 (X j0 j1 (by omega) (by omega) (by omega) (by omega) _ (fun s hs => br_t z0 (br_t y0 (br_t z1 (br_t y1 (R j0 j1 s (by omega) (by omega) (by omega) (by omega) hs)))))))))
end
