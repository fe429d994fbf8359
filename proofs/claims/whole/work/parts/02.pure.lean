def sc_ap (x : (Nat → Int32) × Nat) (v : Int32) : (Nat → Int32) × Nat := if x.2 < 64 then (upd x.1 x.2 v, x.2 + 1) else x
def sc_cl (tg : Nat → Int32) (f : Nat) : Nat → (Nat → Int32) × Nat → (Nat → Int32) × Nat
  | 0, x => x
  | k + 1, x => sc_cl tg f k (sc_ap x (tg (f * 4 + k)))
def sc_uw (tg : Nat → Int32) (n : Nat → Nat) (t : Nat) : Nat → (Nat → Int32) × Nat → (Nat → Int32) × Nat
  | 0, x => x
  | l + 1, x => sc_uw tg n t l (sc_cl tg (t * 6 + l) (n (t * 6 + l)) x)
theorem sc_ap_le {x : (Nat → Int32) × Nat} {v : Int32} (h : x.2 ≤ 64) : (sc_ap x v).2 ≤ 64 := by
  unfold sc_ap
  split
  · show x.2 + 1 ≤ 64
    omega
  · exact h
theorem sc_cl_le {tg : Nat → Int32} {f : Nat} : ∀ (k : Nat) (x : (Nat → Int32) × Nat), x.2 ≤ 64 → (sc_cl tg f k x).2 ≤ 64 := by
  intro k
  induction k with
  | zero => intro x h; exact h
  | succ k ih => intro x h; exact ih _ (sc_ap_le h)
theorem sc_uw_le {tg : Nat → Int32} {n : Nat → Nat} {t : Nat} : ∀ (l : Nat) (x : (Nat → Int32) × Nat), x.2 ≤ 64 → (sc_uw tg n t l x).2 ≤ 64 := by
  intro k
  induction k with
  | zero => intro x h; exact h
  | succ k ih => intro x h; exact ih _ (sc_cl_le _ _ h)
theorem sc_uw_c {tg : Nat → Int32} {n m : Nat → Nat} {t : Nat} : ∀ (l : Nat) (x : (Nat → Int32) × Nat), (∀ i, i < l → m (t * 6 + i) = n (t * 6 + i)) → sc_uw tg m t l x = sc_uw tg n t l x := by
  intro l
  induction l with
  | zero => intro x _; rfl
  | succ l ih =>
    intro x h
    show sc_uw tg m t l (sc_cl tg (t * 6 + l) (m (t * 6 + l)) x) = sc_uw tg n t l (sc_cl tg (t * 6 + l) (n (t * 6 + l)) x)
    rw [h l (by omega), ih _ (fun i hi => h i (by omega))]
def sc_mz (t : Nat) : Nat → (Nat → Nat) → (Nat → Nat)
  | 0, m => m
  | l + 1, m => sc_mz t l (sc_u m (t * 6 + l) 0)
theorem sc_mz_o {t j : Nat} : ∀ (l : Nat) (m : Nat → Nat), (∀ i, i < l → j ≠ t * 6 + i) → sc_mz t l m j = m j := by
  intro l
  induction l with
  | zero => intro m _; rfl
  | succ l ih =>
    intro m h
    show sc_mz t l (sc_u m (t * 6 + l) 0) j = m j
    rw [ih _ (fun i hi => h i (by omega)), sc_uo (h l (by omega))]
def sc_z (rg : Nat → Int32) (b r : Nat) : Nat → Int32 := fun j => if b + r ≤ j ∧ j < b + 8 then 0 else rg j
theorem sc_z8 (rg : Nat → Int32) (b : Nat) : sc_z rg b 8 = rg := by
  funext j
  unfold sc_z
  rw [if_neg (by omega)]
theorem sc_zs (rg : Nat → Int32) {b r : Nat} (h : r < 8) : sc_z (upd rg (b + r) 0) b (r + 1) = sc_z rg b r := by
  funext j
  unfold sc_z upd
  by_cases h1 : b + (r + 1) ≤ j ∧ j < b + 8
  · rw [if_pos h1, if_pos (by omega)]
  · rw [if_neg h1]
    by_cases h2 : j = b + r
    · rw [if_pos h2, if_pos (by omega)]
    · rw [if_neg h2, if_neg (by omega)]
def sc_pr (rg : Nat → Int32) (b : Nat) (v : Int32) : Nat → Int32 := upd (sc_z rg b 0) b v
theorem sc_pr_x (rg : Nat → Int32) (b : Nat) (v : Int32) : sc_z (upd rg b v) b 1 = sc_pr rg b v := by
  funext j
  unfold sc_pr sc_z upd
  by_cases h1 : b + 1 ≤ j ∧ j < b + 8
  · rw [if_pos h1, if_neg (by omega), if_pos (by omega)]
  · rw [if_neg h1]
    by_cases h2 : j = b
    · rw [if_pos h2, if_pos h2]
    · rw [if_neg h2, if_neg h2, if_neg (by omega)]

theorem sc_m8 (t : Nat) : nI t * 8 = nI (t * 8) := pk_mul t 8
theorem sc_m6 (t : Nat) : nI t * 6 = nI (t * 6) := pk_mul t 6
theorem sc_m4 (t : Nat) : nI t * 4 = nI (t * 4) := pk_mul t 4
theorem sc_s1 {t : Nat} (h : 1 ≤ t) : nI t - 1 = nI (t - 1) := pk_sub (b := 1) h
theorem sc_tf {t dt : Nat} (h : 1 ≤ dt) : nI t * 6 + nI dt - 1 = nI (t * 6 + dt - 1) := by
  rw [sc_m6, nI_add, sc_s1 (by omega)]
theorem sc_a7 {a : Nat} (h : a < 8) : nI a &&& 7 = nI a := by
  rw [pk_andN (by omega) 3 (by decide), Nat.mod_eq_of_lt (by omega)]
theorem sc_a17 {a : Nat} (h : a < 8) : (nI a + 1) &&& 7 = nI ((a + 1) % 8) := by
  rw [nI_1, pk_andN (by omega) 3 (by decide)]
theorem sc_r8 {a : Nat} (h : a < 8) : (nI a + 1) - (nI a + 1) / 8 * 8 = nI ((a + 1) % 8) := by
  rw [nI_1]
  exact pk_rem (d := 8) (by omega) (by decide) (by decide)
