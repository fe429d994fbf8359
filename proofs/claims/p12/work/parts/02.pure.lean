def qc_ap (x : (Nat → Int32) × Nat) (v : Int32) : (Nat → Int32) × Nat := if x.2 < 64 then (upd x.1 x.2 v, x.2 + 1) else x
def qc_cl (tg : Nat → Int32) (f : Nat) : Nat → (Nat → Int32) × Nat → (Nat → Int32) × Nat
  | 0, x => x
  | k + 1, x => qc_cl tg f k (qc_ap x (tg (f * 4 + k)))
def qc_uw (tg : Nat → Int32) (n : Nat → Nat) (t : Nat) : Nat → (Nat → Int32) × Nat → (Nat → Int32) × Nat
  | 0, x => x
  | l + 1, x => qc_uw tg n t l (qc_cl tg (t * 6 + l) (n (t * 6 + l)) x)
theorem qc_ap_le {x : (Nat → Int32) × Nat} {v : Int32} (h : x.2 ≤ 64) : (qc_ap x v).2 ≤ 64 := by
  unfold qc_ap
  split
  · show x.2 + 1 ≤ 64
    omega
  · exact h
theorem qc_cl_le {tg : Nat → Int32} {f : Nat} : ∀ (k : Nat) (x : (Nat → Int32) × Nat), x.2 ≤ 64 → (qc_cl tg f k x).2 ≤ 64 := by
  intro k
  induction k with
  | zero => intro x h; exact h
  | succ k ih => intro x h; exact ih _ (qc_ap_le h)
theorem qc_uw_le {tg : Nat → Int32} {n : Nat → Nat} {t : Nat} : ∀ (l : Nat) (x : (Nat → Int32) × Nat), x.2 ≤ 64 → (qc_uw tg n t l x).2 ≤ 64 := by
  intro k
  induction k with
  | zero => intro x h; exact h
  | succ k ih => intro x h; exact ih _ (qc_cl_le _ _ h)
theorem qc_uw_c {tg : Nat → Int32} {n m : Nat → Nat} {t : Nat} : ∀ (l : Nat) (x : (Nat → Int32) × Nat), (∀ i, i < l → m (t * 6 + i) = n (t * 6 + i)) → qc_uw tg m t l x = qc_uw tg n t l x := by
  intro l
  induction l with
  | zero => intro x _; rfl
  | succ l ih =>
    intro x h
    show qc_uw tg m t l (qc_cl tg (t * 6 + l) (m (t * 6 + l)) x) = qc_uw tg n t l (qc_cl tg (t * 6 + l) (n (t * 6 + l)) x)
    rw [h l (by omega), ih _ (fun i hi => h i (by omega))]
def qc_mz (t : Nat) : Nat → (Nat → Nat) → (Nat → Nat)
  | 0, m => m
  | l + 1, m => qc_mz t l (qc_u m (t * 6 + l) 0)
theorem qc_mz_o {t j : Nat} : ∀ (l : Nat) (m : Nat → Nat), (∀ i, i < l → j ≠ t * 6 + i) → qc_mz t l m j = m j := by
  intro l
  induction l with
  | zero => intro m _; rfl
  | succ l ih =>
    intro m h
    show qc_mz t l (qc_u m (t * 6 + l) 0) j = m j
    rw [ih _ (fun i hi => h i (by omega)), qc_uo (h l (by omega))]
def qc_z (rg : Nat → Int32) (b r : Nat) : Nat → Int32 := fun j => if b + r ≤ j ∧ j < b + 8 then 0 else rg j
theorem qc_z8 (rg : Nat → Int32) (b : Nat) : qc_z rg b 8 = rg := by
  funext j
  unfold qc_z
  rw [if_neg (by omega)]
theorem qc_zs (rg : Nat → Int32) {b r : Nat} (h : r < 8) : qc_z (upd rg (b + r) 0) b (r + 1) = qc_z rg b r := by
  funext j
  unfold qc_z upd
  by_cases h1 : b + (r + 1) ≤ j ∧ j < b + 8
  · rw [if_pos h1, if_pos (by omega)]
  · rw [if_neg h1]
    by_cases h2 : j = b + r
    · rw [if_pos h2, if_pos (by omega)]
    · rw [if_neg h2, if_neg (by omega)]
def qc_pr (rg : Nat → Int32) (b : Nat) (v : Int32) : Nat → Int32 := upd (qc_z rg b 0) b v
theorem qc_pr_x (rg : Nat → Int32) (b : Nat) (v : Int32) : qc_z (upd rg b v) b 1 = qc_pr rg b v := by
  funext j
  simp only [qc_pr, qc_z, upd]
  (repeat' split) <;> first | rfl | (exfalso; omega)
theorem qc_m8 (t : Nat) : nI t * 8 = nI (t * 8) := pk_mul t 8
theorem qc_m6 (t : Nat) : nI t * 6 = nI (t * 6) := pk_mul t 6
theorem qc_m4 (t : Nat) : nI t * 4 = nI (t * 4) := pk_mul t 4
theorem qc_s1 {t : Nat} (h : 1 ≤ t) : nI t - 1 = nI (t - 1) := pk_sub (b := 1) h
theorem qc_tf {t dt : Nat} (h : 1 ≤ dt) : nI t * 6 + nI dt - 1 = nI (t * 6 + dt - 1) := by
  rw [qc_m6, nI_add, qc_s1 (by omega)]
theorem qc_a7 {a : Nat} (h : a < 8) : nI a &&& 7 = nI a := by
  rw [pk_andN (by omega) 3 (by decide), Nat.mod_eq_of_lt (by omega)]
theorem qc_a17 {a : Nat} (h : a < 8) : (nI a + 1) &&& 7 = nI ((a + 1) % 8) := by
  rw [nI_1, pk_andN (by omega) 3 (by decide)]
theorem qc_r8 {a : Nat} (h : a < 8) : (nI a + 1) - (nI a + 1) / 8 * 8 = nI ((a + 1) % 8) := by
  rw [nI_1]
  exact pk_rem (d := 8) (by omega) (by decide) (by decide)
def qc_sm (f : Nat → Nat) : Nat → Nat → Nat
  | 0, _ => 0
  | k + 1, j => f j + qc_sm f k (j + 1)
def qc_fr (f : Nat → Nat) : Nat → Nat → Nat
  | 0, j => j
  | k + 1, j => if f j = 0 then j else qc_fr f k (j + 1)
theorem qc_fr_in {f : Nat → Nat} : ∀ k j, j ≤ qc_fr f k j ∧ qc_fr f k j ≤ j + k ∧ (qc_fr f k j < j + k → f (qc_fr f k j) = 0) := by
  intro k
  induction k with
  | zero => intro j; exact ⟨Nat.le_refl _, Nat.le_refl _, fun h => absurd h (Nat.lt_irrefl _)⟩
  | succ k ih =>
    intro j
    unfold qc_fr
    split
    · rename_i h
      exact ⟨Nat.le_refl _, by omega, fun _ => h⟩
    · obtain ⟨a, b, c⟩ := ih (j + 1)
      exact ⟨by omega, by omega, fun h => c (by omega)⟩
theorem qc_fr_s {f : Nat → Nat} : ∀ k j, qc_fr f (k + 1) j = if qc_fr f k j < j + k then qc_fr f k j else if f (j + k) = 0 then j + k else j + k + 1 := by
  intro k
  induction k with
  | zero =>
    intro j
    show (if f j = 0 then j else j + 1) = if j < j + 0 then j else if f (j + 0) = 0 then j + 0 else j + 0 + 1
    rw [if_neg (show ¬ j < j + 0 by omega)]
    rfl
  | succ k ih =>
    intro j
    show (if f j = 0 then j else qc_fr f (k + 1) (j + 1)) = if (if f j = 0 then j else qc_fr f k (j + 1)) < j + (k + 1) then (if f j = 0 then j else qc_fr f k (j + 1)) else if f (j + (k + 1)) = 0 then j + (k + 1) else j + (k + 1) + 1
    by_cases h : f j = 0
    · rw [if_pos h, if_pos h, if_pos (by omega)]
    · rw [if_neg h, if_neg h, ih (j + 1)]
      have e : j + 1 + k = j + (k + 1) := by omega
      rw [e]
theorem qc_free {lv : Nat → Nat} {mc : Nat} (h1 : 1 ≤ mc) (h4 : mc ≤ 4) (hl : ∀ t, t < 5 → lv t ≤ 1) (hz : ∀ t, mc < t → t < 5 → lv t = 0) :
    (qc_fr lv mc 1 ≤ mc → qc_fr lv 4 1 = qc_fr lv mc 1 ∧ qc_sm lv 4 1 < mc) ∧ (¬ qc_fr lv mc 1 ≤ mc → mc ≤ qc_sm lv 4 1) := by
  have a1 := hl 1 (by omega)
  have a2 := hl 2 (by omega)
  have a3 := hl 3 (by omega)
  have a4 := hl 4 (by omega)
  have z2 := hz 2
  have z3 := hz 3
  have z4 := hz 4
  have e : mc = 1 ∨ mc = 2 ∨ mc = 3 ∨ mc = 4 := by omega
  have b1 : lv 1 = 0 ∨ lv 1 = 1 := by omega
  have b2 : lv 2 = 0 ∨ lv 2 = 1 := by omega
  have b3 : lv 3 = 0 ∨ lv 3 = 1 := by omega
  have b4 : lv 4 = 0 ∨ lv 4 = 1 := by omega
  clear a1 a2 a3 a4 hl hz h1 h4
  rcases e with rfl | rfl | rfl | rfl <;> rcases b1 with b1 | b1 <;> rcases b2 with b2 | b2 <;> rcases b3 with b3 | b3 <;> rcases b4 with b4 | b4 <;> first | omega | simp [qc_fr, qc_sm, b1, b2, b3, b4]
