/-! ===== Bareiss: the determinant by steps ===== -/
theorem sg_perm {m : Nat} {π : Nat → Nat} (hi : ∀ i j : Nat, i < m → j < m → π i = π j → i = j) (hs : ∀ q : Nat, q < m → ∃ k, k < m ∧ π k = q) (hl : ∀ k : Nat, k < m → π k < m) (f : Nat → Int) : sg (fun k => f (π k)) m = sg f m := by
  have e1 : sg (fun k => f (π k)) m = sg (fun k => sg (fun q => ind (π k = q) * f q) m) m := sg_cg (fun k hk => by rw [sg_dl, if_pos (hl k hk)])
  rw [e1, sg_com]
  refine sg_cg (fun q hq => ?_)
  rw [sg_mur]
  obtain ⟨k0, h0, e0⟩ := hs q hq
  have e2 : sg (fun k => ind (π k = q)) m = 1 := by
    rw [← sg_d1 h0]
    exact sg_cg (fun k hk => ind_cg ⟨fun e => hi _ _ h0 hk (by rw [e0, e]), fun e => by rw [← e, e0]⟩)
  rw [e2, Int.one_mul]
theorem prb_cg {a b : Nat → Int} : ∀ {m : Nat}, (∀ k : Nat, k < m → a k = b k) → prb a m = prb b m := by
  intro m
  induction m with
  | zero => intro _; rfl
  | succ m ih => intro h; rw [show prb a (m + 1) = prb a m * a m from rfl, show prb b (m + 1) = prb b m * b m from rfl, ih (fun k hk => h k (by omega)), h m (by omega)]
theorem prb_up {B : Nat → Int} {p : Nat} {c : Int} : ∀ {m : Nat}, p < m → prb (fun q => if q = p then c * B q else B q) m = c * prb B m := by
  intro m
  induction m with
  | zero => intro h; omega
  | succ m ih =>
    intro h
    rw [show ∀ a : Nat → Int, prb a (m + 1) = prb a m * a m from fun _ => rfl, show prb B (m + 1) = prb B m * B m from rfl]
    by_cases e : p = m
    · subst e
      rw [if_pos rfl, prb_cg (b := B) (fun k hk => if_neg (by omega))]
      grind
    · rw [ih (by omega), if_neg (fun q => e q.symm), Int.mul_assoc]
theorem prb_pos {B : Nat → Int} : ∀ {m : Nat}, (∀ k : Nat, k < m → 0 < B k) → 0 < prb B m := by
  intro m
  induction m with
  | zero => intro _; exact Int.one_pos
  | succ m ih => intro h; exact Int.mul_pos (ih (fun k hk => h k (by omega))) (h m (by omega))
/-- after c steps -/
def BI (m : Nat) (C : Int) (a : Nat → Nat → Int) (c : Nat) (π : Nat → Nat) (G : Nat → Nat → Int) (s D : Int) : Prop :=
  ((∀ i j : Nat, i < m → j < m → π i = π j → i = j) ∧ (∀ q : Nat, q < m → ∃ k, k < m ∧ π k = q) ∧ (∀ k : Nat, k < m → π k < m)) ∧ (∀ k : Nat, k < c → G (π k) = fun x => a x k) ∧ (D ≠ 0 ∧ dt m G = D) ∧ (∀ k x : Nat, k < m → x < m → D * a x k = sg (fun q => dt m (up G q (fun x => a x k)) * G q x) m) ∧ ((s = 1 ∨ s = -1) ∧ ∀ h H : Nat → Nat → Int, (∀ k : Nat, k < m → H (π k) = h k) → dt m H = s * dt m h) ∧ ∃ B : Nat → Int, (∀ p x : Nat, p < m → x < m → ((G p x).natAbs : Int) ≤ B p) ∧ (∀ i : Nat, c ≤ i → i < m → B (π i) = 1) ∧ prb B m = C ^ c
theorem BI_init {m : Nat} {C : Int} {a : Nat → Nat → Int} : BI m C a 0 (fun k => k) un 1 1 := by
  refine ⟨⟨fun i j _ _ e => e, fun q hq => ⟨q, hq, rfl⟩, fun k hk => hk⟩, fun k hk => by omega, ⟨by decide, dt_un m⟩, fun k x hk hx => ?_, ⟨Or.inl rfl, fun h H e => by rw [Int.one_mul]; exact dt_cg (fun p x hp hx => by rw [← e p hp])⟩, fun _ => 1, fun p x hp hx => by show ((un p x).natAbs : Int) ≤ 1; unfold un ind; split <;> decide, fun _ _ _ => rfl, ?_⟩
  · rw [Int.one_mul]
    have := un_sum (m := m) (fun x => a x k) hx
    rw [this]
    exact sg_cg (fun q hq => by rw [dt_unit _ hq])
  · rw [Int.pow_zero]
    induction m with
    | zero => rfl
    | succ m ih => rw [show prb (fun _ => 1) (m + 1) = prb (fun _ => 1) m * 1 from rfl, ih]; rfl
theorem BI.bd {m : Nat} {C : Int} {a : Nat → Nat → Int} (ha : ∀ x k : Nat, x < m → k < m → ((a x k).natAbs : Int) ≤ C) {c : Nat} {π : Nat → Nat} {G : Nat → Nat → Int} {s D : Int} (h : BI m C a c π G s D) {i k : Nat} (hi : c ≤ i) (hi2 : i < m) (hk : k < m) : ((dt m (up G (π i) (fun x => a x k))).natAbs : Int) ≤ fct m * C ^ (c + 1) := by
  obtain ⟨⟨-, -, hl⟩, -, -, -, -, B, b1, b2, b3⟩ := h
  have h1 := dt_bd (m := m) (g := up G (π i) (fun x => a x k)) (B := fun q => if q = π i then C * B q else B q) (fun p x hp hx => by
    by_cases e : p = π i
    · rw [e, up_y, if_pos rfl, b2 i hi hi2, Int.mul_one]; exact ha x k hx hk
    · rw [up_n e, if_neg e]; exact b1 p x hp hx)
  rw [prb_up (hl i hi2), b3, show C * C ^ c = C ^ (c + 1) by rw [Int.pow_succ, Int.mul_comm]] at h1
  exact h1
theorem BI.bdD {m : Nat} {C : Int} {a : Nat → Nat → Int} {c : Nat} {π : Nat → Nat} {G : Nat → Nat → Int} {s D : Int} (h : BI m C a c π G s D) : (D.natAbs : Int) ≤ fct m * C ^ c := by
  obtain ⟨-, -, ⟨-, hd⟩, -, -, B, b1, b2, b3⟩ := h
  have h1 := dt_bd (m := m) (g := G) (B := B) b1
  rw [b3, hd] at h1
  exact h1
theorem BI.zero {m : Nat} {C : Int} {a : Nat → Nat → Int} {c : Nat} {π : Nat → Nat} {G : Nat → Nat → Int} {s D : Int} (h : BI m C a c π G s D) (hc : c < m) (hz : ∀ i : Nat, c ≤ i → i < m → dt m (up G (π i) (fun x => a x c)) = 0) : ∃ z : Nat → Int, (∃ k, k < m ∧ z k ≠ 0) ∧ ∀ x : Nat, x < m → sg (fun k => z k * a x k) m = 0 := by
  obtain ⟨⟨p1, p2, p3⟩, hG, ⟨hD, hd⟩, hC, -, -⟩ := h
  refine ⟨fun k => (if k < c then dt m (up G (π k) (fun x => a x c)) else 0) + ind (c = k) * -D, ⟨c, hc, ?_⟩, fun x hx => ?_⟩
  · show (if c < c then _ else _) + ind (c = c) * -D ≠ 0
    rw [if_neg (by omega), ind_y rfl]; omega
  · have e1 := hC c x hc hx
    rw [← sg_perm p1 p2 p3] at e1
    have e2 : sg (fun k => dt m (up G (π k) (fun x => a x c)) * G (π k) x) m = sg (fun k => (if k < c then dt m (up G (π k) (fun x => a x c)) else 0) * a x k) m := by
      refine sg_cg (fun k hk => ?_)
      by_cases q : k < c
      · rw [if_pos q, hG k q]
      · rw [if_neg q, hz k (by omega) hk, Int.zero_mul, Int.zero_mul]
    have e3 : sg (fun k => ((if k < c then dt m (up G (π k) (fun x => a x c)) else 0) + ind (c = k) * -D) * a x k) m = sg (fun k => (if k < c then dt m (up G (π k) (fun x => a x c)) else 0) * a x k + ind (c = k) * (-D * a x k)) m := sg_cg (fun k hk => by grind)
    rw [e3, sg_add, sg_dl, if_pos hc, ← e2, ← e1]
    grind
/-- lines that are not free of each other come to 0 -/
theorem dt_dep {m : Nat} {g : Nat → Nat → Int} {z : Nat → Int} (hz : ∃ k, k < m ∧ z k ≠ 0) (h : ∀ x : Nat, x < m → sg (fun k => z k * g k x) m = 0) : dt m g = 0 := by
  obtain ⟨k, hk, hz⟩ := hz
  have h1 := dt_sum (m := m) g (r := k) z g hk m
  have e1 : dt m (up g k (fun x => sg (fun c => z c * g c x) m)) = dt m (up g k (fun _ => 0)) := dt_cg (fun p x hp hx => by
    by_cases e : p = k
    · subst e; rw [up_y, up_y, h x hx]
    · rw [up_n e, up_n e])
  rw [e1, dt_zero _ hk] at h1
  have e2 : sg (fun c => z c * dt m (up g k (g c))) m = sg (fun c => ind (k = c) * (z c * dt m g)) m := by
    refine sg_cg (fun c hc => ?_)
    by_cases e : k = c
    · subst e; rw [ind_y rfl, up_same]; omega
    · rw [ind_n e, dt_eq0 hk hc e (by rw [up_y, up_n (fun q => e q.symm)])]; omega
  rw [e2, sg_dl, if_pos hk] at h1
  rcases Int.mul_eq_zero.mp h1.symm with q | q
  · exact absurd q hz
  · exact q
theorem BI.out {m : Nat} {C : Int} {a : Nat → Nat → Int} {c : Nat} {π : Nat → Nat} {G : Nat → Nat → Int} {s D : Int} (h : BI m C a c π G s D) (hc : c < m) (hz : ∀ i : Nat, c ≤ i → i < m → dt m (up G (π i) (fun x => a x c)) = 0) : dt m (fun k x => a x k) = 0 := by
  obtain ⟨z, h1, h2⟩ := h.zero hc hz
  exact dt_dep h1 h2
def swq (π : Nat → Nat) (c r : Nat) : Nat → Nat := fun k => if k = c then π r else if k = r then π c else π k
theorem BI.step {m : Nat} {C : Int} {a : Nat → Nat → Int} (ha : ∀ x k : Nat, x < m → k < m → ((a x k).natAbs : Int) ≤ C) {c : Nat} {π : Nat → Nat} {G : Nat → Nat → Int} {s D : Int} (h : BI m C a c π G s D) {r : Nat} (hr : c ≤ r) (hr2 : r < m) (hp : dt m (up G (π r) (fun x => a x c)) ≠ 0) : BI m C a (c + 1) (swq π c r) (up G (π r) (fun x => a x c)) (if r = c then s else -s) (dt m (up G (π r) (fun x => a x c))) ∧ ∀ i k : Nat, c < i → i < m → k < m → D * dt m (up (up G (π r) (fun x => a x c)) (swq π c r i) (fun x => a x k)) = dt m (up G (π r) (fun x => a x c)) * dt m (up G (swq π c r i) (fun x => a x k)) - dt m (up G (swq π c r i) (fun x => a x c)) * dt m (up G (π r) (fun x => a x k)) := by
  obtain ⟨⟨p1, p2, p3⟩, hG, ⟨hD, hd⟩, hC, ⟨hs, hsg⟩, B, b1, b2, b3⟩ := h
  have sc : swq π c r c = π r := if_pos rfl
  have sl : ∀ k : Nat, k < m → swq π c r k < m := by
    intro k hk
    unfold swq
    split
    · exact p3 r hr2
    · split
      · exact p3 c (by omega)
      · exact p3 k hk
  have si : ∀ i j : Nat, i < m → j < m → swq π c r i = swq π c r j → i = j := by
    intro i j hi hj e
    unfold swq at e
    by_cases i1 : i = c <;> by_cases j1 : j = c
    · omega
    · rw [if_pos i1, if_neg j1] at e
      by_cases j2 : j = r
      · rw [if_pos j2] at e; have := p1 _ _ hr2 (by omega) e; omega
      · rw [if_neg j2] at e; have := p1 _ _ hr2 hj e; omega
    · rw [if_neg i1, if_pos j1] at e
      by_cases i2 : i = r
      · rw [if_pos i2] at e; have := p1 _ _ (by omega) hr2 e; omega
      · rw [if_neg i2] at e; have := p1 _ _ hi hr2 e; omega
    · rw [if_neg i1, if_neg j1] at e
      by_cases i2 : i = r <;> by_cases j2 : j = r
      · omega
      · rw [if_pos i2, if_neg j2] at e; have := p1 _ _ (by omega) hj e; omega
      · rw [if_neg i2, if_pos j2] at e; have := p1 _ _ hi (by omega) e; omega
      · rw [if_neg i2, if_neg j2] at e; exact p1 _ _ hi hj e
  have ss : ∀ q : Nat, q < m → ∃ k, k < m ∧ swq π c r k = q := by
    intro q hq
    obtain ⟨k, hk, e⟩ := p2 q hq
    by_cases k1 : k = r
    · exact ⟨c, by omega, by rw [sc, ← k1, e]⟩
    · by_cases k2 : k = c
      · exact ⟨r, hr2, by unfold swq; rw [if_neg (by omega), if_pos rfl, ← k2, e]⟩
      · exact ⟨k, hk, by unfold swq; rw [if_neg k2, if_neg k1, e]⟩
  have key : ∀ q k : Nat, q < m → q ≠ π r → k < m → D * dt m (up (up G (π r) (fun x => a x c)) q (fun x => a x k)) = dt m (up G (π r) (fun x => a x c)) * dt m (up G q (fun x => a x k)) - dt m (up G q (fun x => a x c)) * dt m (up G (π r) (fun x => a x k)) := by
    intro q k hq hn hk
    rw [← hd]
    exact dt_ex G _ _ (p3 r hr2) hq hn (fun x hx => by rw [hd]; exact hC k x hk hx)
  refine ⟨⟨⟨si, ss, sl⟩, fun k hk => ?_, ⟨hp, rfl⟩, fun k x hk hx => ?_, ⟨?_, fun h H e => ?_⟩, fun q => if q = π r then C * B q else B q, fun p x hp2 hx => ?_, fun i hi hi2 => ?_, ?_⟩, fun i k hi hi2 hk => ?_⟩
  · by_cases e : k = c
    · rw [e, sc, up_y]
    · have e2 : swq π c r k = π k := by unfold swq; rw [if_neg e, if_neg (by omega)]
      rw [e2, up_n (fun q => by have := p1 _ _ (by omega) hr2 q; omega)]
      exact hG k (by omega)
  · -- the columns among the places
    have hx2 : D * (dt m (up G (π r) (fun x => a x c)) * a x k) = D * sg (fun q => dt m (up (up G (π r) (fun x => a x c)) q (fun x => a x k)) * up G (π r) (fun x => a x c) q x) m := by
      rw [← sg_mul]
      have e1 : sg (fun q => D * (dt m (up (up G (π r) (fun x => a x c)) q (fun x => a x k)) * up G (π r) (fun x => a x c) q x)) m = sg (fun q => (dt m (up G (π r) (fun x => a x c)) * (dt m (up G q (fun x => a x k)) * G q x) - dt m (up G (π r) (fun x => a x k)) * (dt m (up G q (fun x => a x c)) * G q x)) + ind (π r = q) * (D * dt m (up G (π r) (fun x => a x k)) * a x c)) m := by
        refine sg_cg (fun q hq => ?_)
        by_cases e : π r = q
        · rw [← e, ind_y rfl, up_up, up_y]
          grind
        · rw [ind_n e, ← Int.mul_assoc, key q k hq (fun e2 => e e2.symm) hk, up_n (fun e2 => e e2.symm)]
          grind
      rw [e1, sg_add, sg_sub, sg_mul, sg_mul, ← hC k x hk hx, ← hC c x (by omega) hx, sg_dl, if_pos (p3 r hr2)]
      grind
    exact Int.eq_of_mul_eq_mul_left hD hx2
  · by_cases e : r = c
    · rw [if_pos e]; exact hs
    · rw [if_neg e]; omega
  · by_cases q : r = c
    · rw [if_pos q]
      refine hsg h H (fun k hk => ?_)
      have := e k hk
      unfold swq at this
      by_cases e1 : k = c
      · rw [if_pos e1, q] at this; rw [e1]; rw [e1] at this; exact this
      · rw [if_neg e1, if_neg (by omega)] at this; exact this
    · rw [if_neg q]
      have h2 := hsg (up (up h c (h r)) r (h c)) H (fun k hk => by
        by_cases e1 : k = c
        · subst e1
          have := e r hr2
          unfold swq at this
          rw [if_neg q, if_pos rfl] at this
          rw [up_n (fun z => q z.symm), up_y]; exact this
        · by_cases e2 : k = r
          · subst e2
            have := e c (by omega)
            unfold swq at this
            rw [if_pos rfl] at this
            rw [up_y]; exact this
          · have := e k hk
            unfold swq at this
            rw [if_neg e1, if_neg e2] at this
            rw [up_n e2, up_n e1]; exact this)
      rw [h2, dt_sw _ _ _ (show c < m by omega) hr2 (fun z => q z.symm), up_same, up_same]
      grind
  · show _ ≤ if p = π r then C * B p else B p
    by_cases e : p = π r
    · rw [e, up_y, if_pos rfl, b2 r hr hr2, Int.mul_one]; exact ha x c hx (by omega)
    · rw [up_n e, if_neg e]; exact b1 p x hp2 hx
  · show (if swq π c r i = π r then _ else _) = _
    have hne : swq π c r i ≠ π r := fun q => by have := si i c hi2 (by omega) (by rw [sc]; exact q); omega
    rw [if_neg hne]
    unfold swq
    rw [if_neg (by omega)]
    by_cases e : i = r
    · rw [if_pos e]; exact b2 c (Nat.le_refl _) (by omega)
    · rw [if_neg e]; exact b2 i (by omega) hi2
  · rw [prb_up (p3 r hr2), b3, Int.pow_succ, Int.mul_comm]
  · exact key _ k (sl i hi2) (fun q => by have := si i c hi2 (by omega) (by rw [sc]; exact q); omega) hk
theorem BI.last {m : Nat} {C : Int} {a : Nat → Nat → Int} {c : Nat} {π : Nat → Nat} {G : Nat → Nat → Int} {s D : Int} (h : BI m C a c π G s D) (hc : c + 1 = m) : s * dt m (up G (π c) (fun x => a x c)) = dt m (fun k x => a x k) := by
  obtain ⟨⟨p1, p2, p3⟩, hG, -, -, ⟨hs, hsg⟩, -⟩ := h
  rw [hsg (fun k x => a x k) (up G (π c) (fun x => a x c)) (fun k hk => by
    by_cases e : k = c
    · rw [e, up_y]
    · rw [up_n (fun q => e (p1 _ _ hk (by omega) q)), hG k (by omega)])]
  rcases hs with e | e <;> rw [e] <;> omega
theorem BI.all {m : Nat} {C : Int} {a : Nat → Nat → Int} (hC : ∀ x k : Nat, x < m → k < m → ((a x k).natAbs : Int) ≤ C) : ∀ c : Nat, c ≤ m → (∃ z : Nat → Int, (∃ k, k < m ∧ z k ≠ 0) ∧ ∀ x : Nat, x < m → sg (fun k => z k * a x k) m = 0) ∨ ∃ π G s D, BI m C a c π G s D := by
  intro c
  induction c with
  | zero => intro _; exact Or.inr ⟨_, _, _, _, BI_init⟩
  | succ c ih =>
    intro hc
    rcases ih (by omega) with h | ⟨π, G, s, D, h⟩
    · exact Or.inl h
    · by_cases q : ∃ r, c ≤ r ∧ r < m ∧ dt m (up G (π r) (fun x => a x c)) ≠ 0
      · obtain ⟨r, r1, r2, r3⟩ := q
        exact Or.inr ⟨_, _, _, _, (h.step hC r1 r2 r3).1⟩
      · refine Or.inl (h.zero (by omega) (fun i hi hi2 => ?_))
        refine Classical.byContradiction fun hn => q ⟨i, hi, hi2, hn⟩
theorem dt_n0 {m : Nat} {a : Nat → Nat → Int} (hk : ∀ z : Nat → Int, (∀ x : Nat, x < m → sg (fun k => z k * a x k) m = 0) → ∀ k : Nat, k < m → z k = 0) {C : Int} (hC : ∀ x k : Nat, x < m → k < m → ((a x k).natAbs : Int) ≤ C) : dt m (fun k x => a x k) ≠ 0 := by
  rcases BI.all hC m (Nat.le_refl _) with ⟨z, ⟨k, h1, h2⟩, h3⟩ | ⟨π, G, s, D, ⟨p1, p2, p3⟩, hG, ⟨hD, hd⟩, -, ⟨hs, hsg⟩, -⟩
  · exact absurd (hk z h3 k h1) h2
  · intro e
    have := hsg (fun k x => a x k) G (fun k hk => hG k hk)
    rw [e, Int.mul_zero, hd] at this
    exact hD this
/-- Cramer -/
theorem cramer {m : Nat} {a : Nat → Nat → Int} {z : Nat → Int} {rhs : Nat → Int} {d : Int} (h : ∀ x : Nat, x < m → sg (fun k => z k * a x k) m = d * rhs x) {j : Nat} (hj : j < m) : d * dt m (up (fun k x => a x k) j rhs) = z j * dt m (fun k x => a x k) := by
  have h1 := dt_sum (m := m) (fun k x => a x k) (r := j) z (fun k x => a x k) hj m
  have e1 : dt m (up (fun k x => a x k) j (fun x => sg (fun c => z c * a x c) m)) = dt m (up (fun k x => a x k) j (fun x => d * rhs x + (fun _ => 0) x)) := dt_cg (fun p x hp hx => by
    by_cases e : p = j
    · subst e; rw [up_y, up_y, h x hx]; exact (Int.add_zero _).symm
    · rw [up_n e, up_n e])
  rw [e1, dt_lin _ _ _ _ hj, dt_zero _ hj] at h1
  have e2 : sg (fun c => z c * dt m (up (fun k x => a x k) j (fun x => a x c))) m = sg (fun c => ind (j = c) * (z c * dt m (fun k x => a x k))) m := by
    refine sg_cg (fun c hc => ?_)
    by_cases e : j = c
    · subst e
      have := up_same (fun k x => a x k) j
      rw [ind_y rfl, this]; omega
    · rw [ind_n e, dt_eq0 hj hc e (by rw [up_y, up_n (fun q => e q.symm)])]; omega
  rw [e2, sg_dl, if_pos hj] at h1
  omega
