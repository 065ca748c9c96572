/-! ===== what a square of numbers comes to ===== -/
def sgn (k : Nat) : Int := if k % 2 = 0 then 1 else -1
theorem sgn_s (k : Nat) : sgn (k + 1) = -sgn k := by
  unfold sgn
  by_cases h : k % 2 = 0
  · rw [if_pos h, if_neg (by omega)]
  · rw [if_neg h, if_pos (by omega)]; rfl
theorem sgn_2 (k : Nat) : sgn (k + k) = 1 := by unfold sgn; rw [if_pos (by omega)]
theorem sgn_b (k : Nat) : (sgn k).natAbs = 1 := by unfold sgn; split <;> rfl
def skx (x y : Nat) : Nat := if y < x then y else y + 1
theorem skx_lt {x y m : Nat} (hy : y < m) : skx x y < m + 1 := by unfold skx; split <;> omega
theorem skx_lo {x y : Nat} (h : y < x) : skx x y = y := if_pos h
def dt : Nat → (Nat → Nat → Int) → Int
  | 0, _ => 1
  | m + 1, g => sg (fun x => sgn (x + m) * g m x * dt m (fun p y => g p (skx x y))) (m + 1)
theorem dt_s (m : Nat) (g : Nat → Nat → Int) : dt (m + 1) g = sg (fun x => sgn (x + m) * g m x * dt m (fun p y => g p (skx x y))) (m + 1) := rfl
theorem dt_cg : ∀ {m : Nat} {g h : Nat → Nat → Int}, (∀ p x, p < m → x < m → g p x = h p x) → dt m g = dt m h := by
  intro m
  induction m with
  | zero => intro g h _; rfl
  | succ m ih =>
    intro g h e
    rw [dt_s, dt_s]
    refine sg_cg (fun x hx => ?_)
    rw [e m x (by omega) hx, ih (fun p y hp hy => e p (skx x y) (by omega) (skx_lt hy))]
def up (g : Nat → Nat → Int) (r : Nat) (u : Nat → Int) : Nat → Nat → Int := fun p => if p = r then u else g p
theorem up_y (g : Nat → Nat → Int) (r : Nat) (u : Nat → Int) : up g r u r = u := if_pos rfl
theorem up_n {g : Nat → Nat → Int} {r p : Nat} {u : Nat → Int} (h : p ≠ r) : up g r u p = g p := if_neg h
theorem up_same (g : Nat → Nat → Int) (r : Nat) : up g r (g r) = g := by
  funext p
  by_cases h : p = r
  · subst h; exact up_y _ _ _
  · exact up_n h
theorem up_up (g : Nat → Nat → Int) (r : Nat) (u v : Nat → Int) : up (up g r u) r v = up g r v := by
  funext p
  by_cases h : p = r
  · subst h; rw [up_y, up_y]
  · rw [up_n h, up_n h, up_n h]
theorem up_com {g : Nat → Nat → Int} {r o : Nat} {u v : Nat → Int} (h : r ≠ o) : up (up g r u) o v = up (up g o v) r u := by
  funext p
  by_cases h1 : p = r
  · subst h1; rw [up_n h, up_y, up_y]
  · by_cases h2 : p = o
    · subst h2; rw [up_y, up_n h1, up_y]
    · rw [up_n h2, up_n h1, up_n h1, up_n h2]
theorem dt_lin : ∀ {m : Nat} (g : Nat → Nat → Int) {r : Nat} (u v : Nat → Int) (c : Int), r < m → dt m (up g r (fun x => c * u x + v x)) = c * dt m (up g r u) + dt m (up g r v) := by
  intro m
  induction m with
  | zero => intro g r u v c h; omega
  | succ m ih =>
    intro g r u v c h
    rw [dt_s, dt_s, dt_s, ← sg_mul, ← sg_add]
    refine sg_cg (fun x hx => ?_)
    by_cases e : r = m
    · subst e
      have e1 : ∀ q : Nat → Int, dt r (fun p y => up g r q p (skx x y)) = dt r (fun p y => g p (skx x y)) := fun q => dt_cg (fun p y hp hy => by rw [up_n (show p ≠ r by omega)])
      rw [e1, e1, e1, up_y, up_y, up_y]
      grind
    · have e1 : ∀ q : Nat → Int, (fun p y => up g r q p (skx x y)) = up (fun p y => g p (skx x y)) r (fun y => q (skx x y)) := by
        intro q
        funext p y
        by_cases h1 : p = r
        · subst h1; rw [up_y, up_y]
        · rw [up_n h1, up_n h1]
      rw [e1, e1, e1, ih _ _ _ _ (by omega), up_n (show m ≠ r by omega), up_n (show m ≠ r by omega), up_n (show m ≠ r by omega)]
      grind
theorem dt_zero {m : Nat} (g : Nat → Nat → Int) {r : Nat} (h : r < m) : dt m (up g r (fun _ => 0)) = 0 := by
  have := dt_lin g (fun _ => 0) (fun _ => 0) 1 h
  have e : (fun x : Nat => (1 : Int) * (fun _ => (0 : Int)) x + (fun _ => (0 : Int)) x) = fun _ => 0 := by funext x; rfl
  rw [e] at this
  omega
/-- a sum at one place -/
theorem dt_sum {m : Nat} (g : Nat → Nat → Int) {r : Nat} (y : Nat → Int) (u : Nat → Nat → Int) (h : r < m) : ∀ N, dt m (up g r (fun x => sg (fun c => y c * u c x) N)) = sg (fun c => y c * dt m (up g r (u c))) N := by
  intro N
  induction N with
  | zero => exact dt_zero g h
  | succ N ih =>
    have e : (fun x => sg (fun c => y c * u c x) (N + 1)) = fun x => y N * u N x + (fun x => sg (fun c => y c * u c x) N) x := by
      funext x
      rw [sg_s, Int.add_comm]
    rw [e, dt_lin g _ _ _ h, ih, sg_s]
    omega
theorem skx_com {x y z : Nat} (h : x ≤ y) : skx x (skx y z) = skx (y + 1) (skx x z) := by
  unfold skx
  by_cases h1 : z < y
  · rw [if_pos h1]
    by_cases h2 : z < x
    · rw [if_pos h2, if_pos (by omega)]
    · rw [if_neg h2, if_pos (by omega)]
  · rw [if_neg h1, if_neg (by omega), if_neg (show ¬ z < x by omega), if_neg (by omega)]
theorem sg_anti (F : Nat → Nat → Int) (hF : ∀ x y, x ≤ y → F x y = F (y + 1) x) : ∀ m, sg (fun x => sgn x * sg (fun y => sgn y * F x y) m) (m + 1) = 0 := by
  intro m
  induction m with
  | zero => rw [sg_s, show sg (fun y => sgn y * F 0 y) 0 = 0 from rfl, Int.mul_zero]; rfl
  | succ m ih =>
    rw [sg_s]
    have e1 : sg (fun x => sgn x * sg (fun y => sgn y * F x y) (m + 1)) (m + 1) = sg (fun x => sgn x * sg (fun y => sgn y * F x y) m) (m + 1) + sgn m * sg (fun x => sgn x * F x m) (m + 1) := by
      rw [← sg_mul, ← sg_add]
      refine sg_cg (fun x hx => ?_)
      rw [sg_s]
      grind
    rw [e1, ih, sgn_s, sg_cg (f := fun x => sgn x * F x m) (g := fun y => sgn y * F (m + 1) y) (fun x hx => by rw [hF x m (by omega)])]
    grind
/-- two neighbours that are the same -/
theorem dt_adj : ∀ {m : Nat} {g : Nat → Nat → Int} {p : Nat}, p + 1 < m → g p = g (p + 1) → dt m g = 0 := by
  intro m
  induction m with
  | zero => intro g p h; omega
  | succ m ih =>
    intro g p h e
    by_cases q : p + 1 = m
    · subst q
      rw [dt_s]
      have e2 := sg_anti (fun x y => g p x * g p (skx x y) * dt p (fun q z => g q (skx x (skx y z)))) (fun x y hxy => by
        have e3 : (fun (q z : Nat) => g q (skx x (skx y z))) = fun (q z : Nat) => g q (skx (y + 1) (skx x z)) := by funext q z; rw [skx_com hxy]
        rw [e3]
        have e4 : skx x y = y + 1 := if_neg (by omega)
        have e5 : skx (y + 1) x = x := if_pos (by omega)
        rw [e4, e5, Int.mul_comm (g p x)]) (p + 1)
      rw [show (0 : Int) = -1 * 0 by omega, ← e2, ← sg_mul]
      refine sg_cg (fun x hx => ?_)
      rw [dt_s, ← sg_mul, ← sg_mul, ← sg_mul]
      refine sg_cg (fun y hy => ?_)
      rw [← e]
      have s1 : sgn (x + (p + 1)) * sgn (y + p) = - (sgn x * sgn y) := by
        unfold sgn
        rcases Nat.mod_two_eq_zero_or_one x with a | a <;> rcases Nat.mod_two_eq_zero_or_one y with b | b <;> rcases Nat.mod_two_eq_zero_or_one p with c | c <;> simp [Nat.add_mod, a, b, c]
      generalize dt p (fun q z => g q (skx x (skx y z))) = X
      grind
    · rw [dt_s, ← sg_0 (m + 1)]
      refine sg_cg (fun x hx => ?_)
      rw [ih (p := p) (by omega) (by funext y; exact congrFun e (skx x y)), Int.mul_zero]
theorem dt_swA {m : Nat} (g : Nat → Nat → Int) {p : Nat} (u v : Nat → Int) (h : p + 1 < m) : dt m (up (up g p u) (p + 1) v) = - dt m (up (up g p v) (p + 1) u) := by
  have z : ∀ q : Nat → Int, dt m (up (up g p q) (p + 1) q) = 0 := fun q => dt_adj h (by rw [up_n (show p ≠ p + 1 by omega), up_y, up_y])
  have h1 := z (fun x => 1 * u x + v x)
  rw [dt_lin _ u v 1 h, up_com (show p ≠ p + 1 by omega), up_com (show p ≠ p + 1 by omega), dt_lin _ u v 1 (by omega), dt_lin _ u v 1 (by omega), ← up_com (show p ≠ p + 1 by omega), ← up_com (show p ≠ p + 1 by omega), ← up_com (show p ≠ p + 1 by omega), ← up_com (show p ≠ p + 1 by omega), z u, z v] at h1
  omega
/-- two places that are the same -/
theorem dt_alt : ∀ (k : Nat) {m : Nat} {g : Nat → Nat → Int} {a : Nat}, a + k + 1 < m → g a = g (a + k + 1) → dt m g = 0 := by
  intro k
  induction k with
  | zero => intro m g a h e; exact dt_adj h e
  | succ k ih =>
    intro m g a h e
    have e1 : g = up (up g (a + k + 1) (g (a + k + 1))) (a + k + 1 + 1) (g (a + k + 1 + 1)) := by rw [up_same, up_same]
    rw [e1, dt_swA _ _ _ (show a + k + 1 + 1 < m by omega)]
    have e2 : dt m (up (up g (a + k + 1) (g (a + k + 1 + 1))) (a + k + 1 + 1) (g (a + k + 1))) = 0 := by
      refine ih (a := a) (by omega) ?_
      rw [up_n (by omega), up_n (by omega), up_n (by omega), up_y]
      exact e
    omega
theorem dt_eq0 {m : Nat} {g : Nat → Nat → Int} {a b : Nat} (ha : a < m) (hb : b < m) (hn : a ≠ b) (e : g a = g b) : dt m g = 0 := by
  rcases Nat.lt_or_ge a b with h | h
  · exact dt_alt (b - a - 1) (a := a) (by omega) (by rw [e]; congr 1; omega)
  · exact dt_alt (a - b - 1) (a := b) (by omega) (by rw [← e]; congr 1; omega)
theorem dt_sw {m : Nat} (g : Nat → Nat → Int) {r o : Nat} (u v : Nat → Int) (hr : r < m) (ho : o < m) (hn : r ≠ o) : dt m (up (up g r u) o v) = - dt m (up (up g r v) o u) := by
  have z : ∀ q : Nat → Int, dt m (up (up g r q) o q) = 0 := fun q => dt_eq0 hr ho hn (by rw [up_n hn, up_y, up_y])
  have h1 := z (fun x => 1 * u x + v x)
  rw [dt_lin _ u v 1 ho, up_com hn, up_com hn, dt_lin _ u v 1 hr, dt_lin _ u v 1 hr, ← up_com hn, ← up_com hn, ← up_com hn, ← up_com hn, z u, z v] at h1
  omega
def un (p : Nat) : Nat → Int := fun x => ind (p = x)
theorem dt_last {m : Nat} {g : Nat → Nat → Int} (h : g m = un m) : dt (m + 1) g = dt m g := by
  rw [dt_s, sg_s]
  have e1 : sg (fun x => sgn (x + m) * g m x * dt m (fun p y => g p (skx x y))) m = 0 := by
    rw [← sg_0 m]
    refine sg_cg (fun x hx => ?_)
    rw [h, un, ind_n (by omega)]
    rw [Int.mul_zero, Int.zero_mul]
  rw [e1, h, un, ind_y rfl, sgn_2, dt_cg (g := fun p y => g p (skx m y)) (h := g) (fun p y hp hy => by rw [skx_lo hy])]
  omega
theorem dt_un : ∀ (m : Nat), dt m un = 1 := by
  intro m
  induction m with
  | zero => rfl
  | succ m ih => rw [dt_last rfl, ih]
/-- a vector among the units -/
theorem un_sum {m : Nat} (v : Nat → Int) {x : Nat} (hx : x < m) : v x = sg (fun k => v k * un k x) m := by
  have h := sg_dl v x m
  rw [if_pos hx] at h
  rw [← h]
  refine sg_cg (fun k hk => ?_)
  unfold un
  rw [Int.mul_comm, ind_cg (show x = k ↔ k = x from ⟨Eq.symm, Eq.symm⟩)]
theorem dt_unit {m : Nat} (v : Nat → Int) {r : Nat} (hr : r < m) : dt m (up un r v) = v r := by
  have e : dt m (up un r v) = dt m (up un r (fun x => sg (fun k => v k * un k x) m)) := by
    refine dt_cg (fun p x hp hx => ?_)
    by_cases h : p = r
    · subst h; rw [up_y, up_y]; exact un_sum v hx
    · rw [up_n h, up_n h]
  rw [e, dt_sum un v un hr]
  have := sg_dl v r m
  rw [if_pos hr] at this
  rw [← this]
  refine sg_cg (fun k hk => ?_)
  by_cases h : r = k
  · subst h; rw [up_same, dt_un, ind_y rfl]; omega
  · rw [ind_n h, dt_eq0 hr hk h (by rw [up_y, up_n (fun q => h q.symm)])]; omega
/-- the exchange: v lies among the places by the numbers that it gives -/
theorem dt_ex {m : Nat} (g : Nat → Nat → Int) {r o : Nat} (u v : Nat → Int) (hr : r < m) (ho : o < m) (hn : o ≠ r) (hv : ∀ x, x < m → dt m g * v x = sg (fun k => dt m (up g k v) * g k x) m) : dt m g * dt m (up (up g r u) o v) = dt m (up g r u) * dt m (up g o v) - dt m (up g o u) * dt m (up g r v) := by
  have e0 : dt m (up (up g r u) o (fun x => dt m g * v x + (fun _ => 0) x)) = dt m g * dt m (up (up g r u) o v) := by
    rw [dt_lin _ _ _ _ ho, dt_zero _ ho]; omega
  have e1 : dt m (up (up g r u) o (fun x => dt m g * v x + (fun _ => 0) x)) = dt m (up (up g r u) o (fun x => sg (fun k => dt m (up g k v) * g k x) m)) := by
    refine dt_cg (fun p x hp hx => ?_)
    by_cases h : p = o
    · subst h; rw [up_y, up_y, ← hv x hx]; exact Int.add_zero _
    · rw [up_n h, up_n h]
  rw [← e0, e1, dt_sum _ _ _ ho]
  have e2 : sg (fun c => dt m (up g c v) * dt m (up (up g r u) o (g c))) m = sg (fun c => ind (o = c) * (dt m (up g r u) * dt m (up g o v)) + ind (r = c) * (- (dt m (up g o u) * dt m (up g r v)))) m := by
    refine sg_cg (fun c hc => ?_)
    by_cases h1 : o = c
    · subst h1
      rw [ind_y rfl, ind_n (fun q => hn q.symm), ← up_com hn, up_same]
      grind
    · by_cases h2 : r = c
      · subst h2
        rw [ind_y rfl, ind_n hn, dt_sw _ _ _ hr ho (fun q => hn q.symm), up_same]
        grind
      · rw [ind_n h1, ind_n h2, dt_eq0 (g := up (up g r u) o (g c)) ho hc h1 (by rw [up_y, up_n (fun q => h1 q.symm), up_n (fun q => h2 q.symm)])]
        omega
  rw [e2, sg_add, sg_dl, sg_dl, if_pos ho, if_pos hr]
  omega
/-- how large it may be -/
def fct : Nat → Int
  | 0 => 1
  | m + 1 => ((m + 1 : Nat) : Int) * fct m
theorem sg_abs {f : Nat → Int} {B : Int} : ∀ {n : Nat}, (∀ k, k < n → (f k).natAbs ≤ B) → ((sg f n).natAbs : Int) ≤ (n : Int) * B := by
  intro n
  induction n with
  | zero => intro _; rw [show sg f 0 = 0 from rfl]; simp
  | succ n ih =>
    intro h
    have h1 := ih (fun k hk => h k (by omega))
    have h2 := h n (by omega)
    rw [sg_s, show ((n + 1 : Nat) : Int) * B = (n : Int) * B + B by rw [Int.natCast_add, Int.add_mul]; simp]
    omega
/-- with a bound for each place -/
def prb (B : Nat → Int) : Nat → Int
  | 0 => 1
  | m + 1 => prb B m * B m
theorem dt_bd : ∀ {m : Nat} {g : Nat → Nat → Int} {B : Nat → Int}, (∀ p x, p < m → x < m → ((g p x).natAbs : Int) ≤ B p) → ((dt m g).natAbs : Int) ≤ fct m * prb B m := by
  intro m
  induction m with
  | zero => intro g B h; exact Int.le_refl _
  | succ m ih =>
    intro g B h
    rw [dt_s]
    have h1 : ∀ k, k < m + 1 → ((sgn (k + m) * g m k * dt m (fun p y => g p (skx k y))).natAbs : Int) ≤ fct m * prb B m * B m := by
      intro k hk
      rw [Int.natAbs_mul, Int.natAbs_mul, sgn_b, Nat.one_mul, Int.natCast_mul, Int.mul_comm]
      have i1 := ih (g := fun p y => g p (skx k y)) (B := B) (fun p x hp hx => h p _ (by omega) (skx_lt hx))
      have i2 := h m k (by omega) hk
      exact Int.mul_le_mul i1 i2 (by omega) (by omega)
    have h2 := sg_abs h1
    rw [show fct (m + 1) = ((m + 1 : Nat) : Int) * fct m from rfl, show prb B (m + 1) = prb B m * B m from rfl]
    rw [Int.mul_assoc, ← Int.mul_assoc (fct m)]
    exact h2
theorem dt_col : ∀ {m : Nat} (g : Nat → Nat → Int) (c : Nat → Int), dt m (fun p x => c p * g p x) = prb c m * dt m g := by
  intro m
  induction m with
  | zero => intro g c; rfl
  | succ m ih =>
    intro g c
    rw [dt_s, dt_s, ← sg_mul, show prb c (m + 1) = prb c m * c m from rfl]
    refine sg_cg (fun x hx => ?_)
    rw [ih (fun p y => g p (skx x y)) c]
    grind
theorem prb_skp (d : Nat → Int) : ∀ {m x : Nat}, x < m + 1 → prb d (m + 1) = d x * prb (fun y => d (skx x y)) m := by
  have hc : ∀ {a b : Nat → Int} (m : Nat), (∀ k, k < m → a k = b k) → prb a m = prb b m := by
    intro a b m
    induction m with
    | zero => intro _; rfl
    | succ m ih => intro h; rw [show prb a (m + 1) = prb a m * a m from rfl, show prb b (m + 1) = prb b m * b m from rfl, ih (fun k hk => h k (by omega)), h m (by omega)]
  intro m
  induction m with
  | zero => intro x hx; rw [show x = 0 by omega]; show 1 * d 0 = d 0 * 1; omega
  | succ m ih =>
    intro x hx
    by_cases e : x = m + 1
    · subst e
      rw [show prb d (m + 1 + 1) = prb d (m + 1) * d (m + 1) from rfl, Int.mul_comm, hc (m + 1) (fun k hk => show d k = d (skx (m + 1) k) by rw [skx_lo hk])]
    · rw [show prb d (m + 1 + 1) = prb d (m + 1) * d (m + 1) from rfl, ih (x := x) (by omega), show prb (fun y => d (skx x y)) (m + 1) = prb (fun y => d (skx x y)) m * d (skx x m) from rfl, show skx x m = m + 1 from if_neg (by omega), Int.mul_assoc]
theorem dt_row : ∀ {m : Nat} (g : Nat → Nat → Int) (d : Nat → Int), dt m (fun p x => d x * g p x) = prb d m * dt m g := by
  intro m
  induction m with
  | zero => intro g d; rfl
  | succ m ih =>
    intro g d
    rw [dt_s, dt_s, ← sg_mul]
    refine sg_cg (fun x hx => ?_)
    rw [ih (fun p y => g p (skx x y)) (fun y => d (skx x y)), prb_skp d hx]
    grind
