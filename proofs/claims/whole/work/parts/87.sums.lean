/-! ===== sums ===== -/
def sg (f : Nat → Int) : Nat → Int
  | 0 => 0
  | k + 1 => sg f k + f k
theorem sg_s (f : Nat → Int) (k : Nat) : sg f (k + 1) = sg f k + f k := rfl
theorem sg_cg {f g : Nat → Int} : ∀ {n : Nat}, (∀ k, k < n → f k = g k) → sg f n = sg g n := by
  intro n
  induction n with
  | zero => intro _; rfl
  | succ n ih => intro h; rw [sg_s, sg_s, ih (fun k hk => h k (by omega)), h n (by omega)]
theorem sg_0 : ∀ (n : Nat), sg (fun _ => 0) n = 0 := by
  intro n
  induction n with
  | zero => rfl
  | succ n ih => rw [sg_s, ih]; rfl
theorem sg_add (f g : Nat → Int) : ∀ (n : Nat), sg (fun k => f k + g k) n = sg f n + sg g n := by
  intro n
  induction n with
  | zero => rfl
  | succ n ih => rw [sg_s, sg_s, sg_s, ih]; omega
theorem sg_sub (f g : Nat → Int) : ∀ (n : Nat), sg (fun k => f k - g k) n = sg f n - sg g n := by
  intro n
  induction n with
  | zero => rfl
  | succ n ih => rw [sg_s, sg_s, sg_s, ih]; omega
theorem sg_mul (c : Int) (f : Nat → Int) : ∀ (n : Nat), sg (fun k => c * f k) n = c * sg f n := by
  intro n
  induction n with
  | zero => rw [show sg (fun k => c * f k) 0 = 0 from rfl, show sg f 0 = 0 from rfl, Int.mul_zero]
  | succ n ih => rw [sg_s, sg_s, ih, Int.mul_add]
theorem sg_mur (c : Int) (f : Nat → Int) (n : Nat) : sg (fun k => f k * c) n = sg f n * c := by
  rw [Int.mul_comm, ← sg_mul]
  exact sg_cg (fun k _ => Int.mul_comm _ _)
theorem sg_com (f : Nat → Nat → Int) (m : Nat) : ∀ (n : Nat), sg (fun x => sg (fun y => f x y) m) n = sg (fun y => sg (fun x => f x y) n) m := by
  intro n
  induction n with
  | zero => rw [show sg (fun x => sg (fun y => f x y) m) 0 = 0 from rfl]; exact (sg_0 m).symm
  | succ n ih =>
    rw [sg_s, ih, ← sg_add]
    rfl
theorem sg_nn {f : Nat → Int} : ∀ {n : Nat}, (∀ k, k < n → 0 ≤ f k) → 0 ≤ sg f n := by
  intro n
  induction n with
  | zero => intro _; exact Int.le_refl _
  | succ n ih =>
    intro h
    have h1 := ih (fun k hk => h k (by omega))
    have h2 := h n (by omega)
    rw [sg_s]
    omega
theorem sg_le {f g : Nat → Int} : ∀ {n : Nat}, (∀ k, k < n → f k ≤ g k) → sg f n ≤ sg g n := by
  intro n
  induction n with
  | zero => intro _; exact Int.le_refl _
  | succ n ih =>
    intro h
    have h1 := ih (fun k hk => h k (by omega))
    have h2 := h n (by omega)
    rw [sg_s, sg_s]
    omega
/-- one of the summands -/
theorem sg_one {f : Nat → Int} : ∀ {n : Nat}, (∀ k, k < n → 0 ≤ f k) → ∀ j, j < n → f j ≤ sg f n := by
  intro n
  induction n with
  | zero => intro _ j hj; omega
  | succ n ih =>
    intro h j hj
    have h1 := sg_nn (fun k hk => h k (show k < n + 1 by omega)) (n := n)
    have h2 := h n (by omega)
    rw [sg_s]
    by_cases e : j = n
    · subst e; omega
    · have := ih (fun k hk => h k (by omega)) j (by omega)
      omega
def ind (P : Prop) [Decidable P] : Int := if P then 1 else 0
theorem ind_y {P : Prop} [Decidable P] (h : P) : ind P = 1 := if_pos h
theorem ind_n {P : Prop} [Decidable P] (h : ¬ P) : ind P = 0 := if_neg h
theorem ind_nn (P : Prop) [Decidable P] : 0 ≤ ind P := by unfold ind; split <;> omega
theorem ind_and (P Q : Prop) [Decidable P] [Decidable Q] : ind (P ∧ Q) = ind P * ind Q := by
  unfold ind
  by_cases p : P <;> by_cases q : Q <;> simp [p, q]
theorem ind_cg {P Q : Prop} [Decidable P] [Decidable Q] (h : P ↔ Q) : ind P = ind Q := by
  unfold ind
  by_cases p : P
  · rw [if_pos p, if_pos (h.mp p)]
  · rw [if_neg p, if_neg (fun q => p (h.mpr q))]
/-- a sum over which one number is met -/
theorem sg_dl (f : Nat → Int) (j : Nat) : ∀ (n : Nat), sg (fun k => ind (j = k) * f k) n = if j < n then f j else 0 := by
  intro n
  induction n with
  | zero => rfl
  | succ n ih =>
    rw [sg_s, ih]
    by_cases e : j = n
    · subst e
      rw [if_neg (by omega), if_pos (by omega), ind_y rfl]
      omega
    · rw [ind_n e, Int.zero_mul]
      by_cases q : j < n
      · rw [if_pos q, if_pos (by omega)]; omega
      · rw [if_neg q, if_neg (by omega)]; omega
theorem sg_d1 {j n : Nat} (h : j < n) : sg (fun k => ind (j = k)) n = 1 := by
  have := sg_dl (fun _ => 1) j n
  rw [if_pos h] at this
  rw [← this]
  exact sg_cg (fun k _ => (Int.mul_one _).symm)
/-- path numbers and valencies as sums -/
theorem pnz_sg (R : Nat → Nat → Nat) (x y i j : Nat) : ∀ n, (pnz R x y i j n : Int) = sg (fun z => ind (R x z = i) * ind (R z y = j)) n := by
  intro n
  induction n with
  | zero => rfl
  | succ n ih =>
    have e : pnz R x y i j (n + 1) = pnz R x y i j n + if R x n = i ∧ R n y = j then 1 else 0 := rfl
    rw [sg_s, ← ih, ← ind_and, e]
    by_cases q : R x n = i ∧ R n y = j
    · rw [if_pos q, ind_y q]; omega
    · rw [if_neg q, ind_n q]; omega
theorem dgr_sg (R : Nat → Nat → Nat) (i : Nat) : ∀ n, (dgr R i n : Int) = sg (fun z => ind (R 0 z = i)) n := by
  intro n
  induction n with
  | zero => rfl
  | succ n ih =>
    have e1 : dgr R i (n + 1) = dgr R i n + if (R 0 n : Int) = i then 1 else 0 := rfl
    rw [sg_s, ← ih, e1]
    by_cases e : R 0 n = i
    · rw [if_pos (by omega), ind_y e]; omega
    · rw [if_neg (by omega), ind_n e]; omega
