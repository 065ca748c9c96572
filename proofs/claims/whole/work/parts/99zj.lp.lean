/-! ===== the linear program of a scheme ===== -/
theorem sg_app (f : Nat → Int) (m : Nat) : ∀ k, sg f (m + k) = sg f m + sg (fun i => f (m + i)) k := by
  intro k
  induction k with
  | zero => show sg f m = sg f m + 0; omega
  | succ k ih => rw [show m + (k + 1) = m + k + 1 by omega, sg_s, sg_s, ih]; omega
def xr (L x : Nat) : Nat := if x < L then x + 1 else 0
noncomputable def aLP (L : Nat) (al : Nat → Prop) (v : Nat → Nat → Int) (x c : Nat) : Int := if c < L then cif (al (c + 1)) (-(v (xr L x) (c + 1))) 0 else if c < 2 * L then ind (c = L + x) else 1
theorem aLP_sum {L : Nat} {al : Nat → Prop} {v : Nat → Nat → Int} {y : Nat → Int} (hy : ∀ i : Nat, i < L → ¬ al (i + 1) → y i = 0) {x : Nat} (hx : x < L + 1) : sg (fun c => y c * aLP L al v x c) (2 * L + 1) = - sg (fun i => v (xr L x) (i + 1) * y i) L + (if x < L then y (L + x) else 0) + y (2 * L) := by
  rw [sg_s, show 2 * L = L + L by omega, sg_app]
  have e1 : sg (fun c => y c * aLP L al v x c) L = - sg (fun i => v (xr L x) (i + 1) * y i) L := by
    rw [show - sg (fun i => v (xr L x) (i + 1) * y i) L = -1 * sg (fun i => v (xr L x) (i + 1) * y i) L by omega, ← sg_mul]
    refine sg_cg (fun c hc => ?_)
    unfold aLP
    rw [if_pos hc]
    by_cases q : al (c + 1)
    · rw [cif_y q]; grind
    · rw [cif_n q, hy c hc q]; omega
  have e2 : sg (fun i => y (L + i) * aLP L al v x (L + i)) L = if x < L then y (L + x) else 0 := by
    have := sg_dl (fun i => y (L + i)) x L
    rw [← this]
    refine sg_cg (fun i hi => ?_)
    unfold aLP
    rw [if_neg (by omega), if_pos (by omega), ind_cg (show L + i = L + x ↔ x = i by omega), Int.mul_comm]
  have e3 : aLP L al v x (L + L) = 1 := by unfold aLP; rw [if_neg (by omega), if_neg (by omega)]
  rw [e1, e2, e3]; omega
theorem aLP_0 {L : Nat} {al : Nat → Prop} {v : Nat → Nat → Int} {x c : Nat} (hc : c < L) (h : ¬ al (c + 1)) : aLP L al v x c = 0 := by unfold aLP; rw [if_pos hc, cif_n h]
theorem Tab.no {L : Nat} {al : Nat → Prop} {v : Nat → Nat → Int} {D : Int} {T : Nat → Nat → Int} {b : Nat → Nat} (h : Tab L (2 * L) (aLP L al v) D T b) {c : Nat} (hc : c < L) (hn : ¬ al (c + 1)) {r : Nat} (hr : r < L + 1) : T r c = 0 := by
  rw [h.2.2.2.1 r c hr (by omega), show (fun x => aLP L al v x c) = fun _ => 0 from funext fun x => aLP_0 hc hn, dt_zero _ hr]
theorem Tab.nob {L : Nat} {al : Nat → Prop} {v : Nat → Nat → Int} {D : Int} {T : Nat → Nat → Int} {b : Nat → Nat} (h : Tab L (2 * L) (aLP L al v) D T b) {c : Nat} (hc : c < L) (hn : ¬ al (c + 1)) (k : Nat) (hk : k < L) : b k ≠ c := by
  intro e
  have h1 := h.bas hk (show k < L + 1 by omega)
  rw [e, h.no hc hn (by omega), if_pos rfl] at h1
  have := h.2.1
  omega
/-- the points that may be, as numbers over one number -/
def Fe (L : Nat) (al : Nat → Prop) (v : Nat → Nat → Int) (d : Int) (x : Nat → Int) : Prop := 0 < d ∧ (∀ i : Nat, i < L → 0 ≤ x i ∧ (¬ al (i + 1) → x i = 0)) ∧ ∀ r : Nat, r < L + 1 → 0 ≤ d + sg (fun i => v r (i + 1) * x i) L
def vl (L : Nat) (v : Nat → Nat → Int) (d : Int) (x : Nat → Int) : Int := d + sg (fun i => v 0 (i + 1) * x i) L
def Bdd (L : Nat) (al : Nat → Prop) (v : Nat → Nat → Int) (p q : Int) : Prop := 0 < q ∧ (∀ d x, Fe L al v d x → vl L v d x * q ≤ p * d) ∧ ∃ d x, Fe L al v d x ∧ vl L v d x * q = p * d
theorem Bdd_un {L : Nat} {al : Nat → Prop} {v : Nat → Nat → Int} {p q p' q' : Int} (h : Bdd L al v p q) (h' : Bdd L al v p' q') : p * q' = p' * q := by
  have key : ∀ {p q p' q' : Int}, Bdd L al v p q → Bdd L al v p' q' → p * q' ≤ p' * q := by
    intro p q p' q' h h'
    obtain ⟨hq, -, d, x, hf, he⟩ := h
    have h1 := h'.2.1 d x hf
    have hd := hf.1
    refine mul_canl hd ?_
    have i1 := Int.mul_le_mul_of_nonneg_right h1 (Int.le_of_lt hq)
    have e1 : d * (p * q') = p * d * q' := by grind
    have e2 : d * (p' * q) = p' * d * q := by grind
    have e3 : vl L v d x * q' * q = vl L v d x * q * q' := by grind
    rw [e3, he] at i1
    omega
  have a := key h h'
  have b := key h' h
  omega
theorem frc_scale {a b c : Int} (hc : 0 < c) (w : Int) : frc (c * a) (c * b) w = frc a b w := by
  unfold frc
  have e : ((Int.gcd (c * a) (c * b) : Nat) : Int) = c * ((Int.gcd a b : Nat) : Int) := by
    rw [Int.gcd_mul_left, Int.natCast_mul]
    congr 1
    omega
  rw [e, Int.mul_tdiv_mul_of_pos _ _ hc, Int.mul_tdiv_mul_of_pos _ _ hc]
theorem frc_un {a b a' b' : Int} (hb : 0 < b) (hb' : 0 < b') (h : a * b' = a' * b) (w : Int) : frc a b w = frc a' b' w := by
  rw [← frc_scale hb' w (a := a), ← frc_scale hb w (a := a'), show b' * a = b * a' by grind, Int.mul_comm b' b]
theorem Opt.ub {L : Nat} {al : Nat → Prop} {v : Nat → Nat → Int} {D : Int} {T : Nat → Nat → Int} {b : Nat → Nat} (h : Opt L (2 * L) (aLP L al v) D T b) {d : Int} {x : Nat → Int} (hf : Fe L al v d x) : vl L v d x * D ≤ T L (2 * L) * d := by
  obtain ⟨hT, hF, ho⟩ := h
  obtain ⟨hd, hx, hr⟩ := hf
  have yl : ∀ i : Nat, i < L → (fun c => if c < L then x c else if c < 2 * L then d + sg (fun i => v (c - L + 1) (i + 1) * x i) L else -d) i = x i := fun i hi => if_pos hi
  have yN : (fun c => if c < L then x c else if c < 2 * L then d + sg (fun i => v (c - L + 1) (i + 1) * x i) L else -d) (2 * L) = -d := by
    show (if 2 * L < L then _ else if 2 * L < 2 * L then _ else _) = _
    rw [if_neg (by omega), if_neg (by omega)]
  have ys : ∀ r : Nat, r < L → (fun c => if c < L then x c else if c < 2 * L then d + sg (fun i => v (c - L + 1) (i + 1) * x i) L else -d) (L + r) = d + sg (fun i => v (r + 1) (i + 1) * x i) L := by
    intro r hr
    show (if L + r < L then _ else if L + r < 2 * L then _ else _) = _
    rw [if_neg (by omega), if_pos (by omega), show L + r - L = r by omega]
  generalize (fun c => if c < L then x c else if c < 2 * L then d + sg (fun i => v (c - L + 1) (i + 1) * x i) L else -d) = y at yl yN ys
  have hy0 : ∀ i : Nat, i < L → ¬ al (i + 1) → y i = 0 := fun i hi q => by rw [yl i hi]; exact (hx i hi).2 q
  have hs : ∀ r, sg (fun i => v r (i + 1) * y i) L = sg (fun i => v r (i + 1) * x i) L := fun r => sg_cg (fun i hi => by rw [yl i hi])
  have h1 := hT.opt ho y (fun r hr2 => by
    rw [aLP_sum hy0 (by omega), if_pos hr2, ys r hr2, yN, hs, show xr L r = r + 1 from if_pos hr2]; omega) (fun c hc => by
    by_cases q : c < L
    · rw [yl c q]; exact (hx c q).1
    · have := ys (c - L) (by omega)
      rw [show L + (c - L) = c by omega] at this
      rw [this]
      exact hr (c - L + 1) (by omega))
  rw [aLP_sum hy0 (by omega), if_neg (by omega), yN, hs, show xr L L = 0 from if_neg (by omega)] at h1
  unfold vl
  have e1 : (- sg (fun i => v 0 (i + 1) * x i) L + 0 + -d) * D = - ((d + sg (fun i => v 0 (i + 1) * x i) L) * D) := by grind
  have e2 : -d * T L (2 * L) = -(T L (2 * L) * d) := by grind
  rw [e1, e2] at h1
  omega
/-- a tableau's own point -/
def xO (L : Nat) (D : Int) (T : Nat → Nat → Int) (b : Nat → Nat) : Nat → Int := fun i => - ry L D T b (2 * L) i
theorem xO_n {L : Nat} {al : Nat → Prop} {v : Nat → Nat → Int} {D : Int} {T : Nat → Nat → Int} {b : Nat → Nat} (h : Tab L (2 * L) (aLP L al v) D T b) (hF : Fs L (2 * L) T) {c : Nat} (hc : c < 2 * L) : 0 ≤ xO L D T b c := by
  unfold xO
  by_cases q : ∃ k, k < L ∧ b k = c
  · obtain ⟨k, hk, e⟩ := q
    rw [← e, h.ryb hk (by omega)]
    have := hF k hk
    omega
  · rw [ry_n (by omega) (fun k hk e => q ⟨k, hk, e⟩)]; omega
theorem xO_slack {L : Nat} {al : Nat → Prop} {v : Nat → Nat → Int} {D : Int} {T : Nat → Nat → Int} {b : Nat → Nat} (h : Tab L (2 * L) (aLP L al v) D T b) {x : Nat} (hx : x < L + 1) : D + sg (fun i => v (xr L x) (i + 1) * xO L D T b i) L = if x < L then xO L D T b (L + x) else T L (2 * L) := by
  have h1 := h.rys (s := 2 * L) (by omega) hx
  have hy0 : ∀ i : Nat, i < L → ¬ al (i + 1) → ry L D T b (2 * L) i = 0 := fun i hi q => ry_n (by omega) (h.nob hi q)
  rw [aLP_sum hy0 hx, ry_s (fun k hk => by have := h.1 k hk; omega)] at h1
  have e : sg (fun i => v (xr L x) (i + 1) * xO L D T b i) L = - sg (fun i => v (xr L x) (i + 1) * ry L D T b (2 * L) i) L := by
    rw [show - sg (fun i => v (xr L x) (i + 1) * ry L D T b (2 * L) i) L = -1 * sg (fun i => v (xr L x) (i + 1) * ry L D T b (2 * L) i) L by omega, ← sg_mul]
    refine sg_cg (fun i hi => ?_)
    unfold xO
    grind
  rw [e]
  by_cases q : x < L
  · rw [if_pos q] at h1 ⊢
    rw [if_neg (by omega)] at h1
    unfold xO
    omega
  · rw [if_neg q] at h1 ⊢
    rw [if_pos (by omega)] at h1
    omega
theorem Opt.fe {L : Nat} {al : Nat → Prop} {v : Nat → Nat → Int} (h0 : ∀ i : Nat, i < L → 0 ≤ v 0 (i + 1)) {D : Int} {T : Nat → Nat → Int} {b : Nat → Nat} (h : Opt L (2 * L) (aLP L al v) D T b) : Fe L al v D (xO L D T b) := by
  obtain ⟨hT, hF, ho⟩ := h
  refine ⟨hT.2.1, fun i hi => ⟨xO_n hT hF (by omega), fun q => ?_⟩, fun r hr => ?_⟩
  · unfold xO; rw [ry_n (by omega) (hT.nob hi q)]; rfl
  · by_cases e : r = 0
    · subst e
      have := hT.2.1
      have h2 := sg_nn (n := L) (f := fun i => v 0 (i + 1) * xO L D T b i) (fun i hi => mul_nn (h0 i hi) (xO_n hT hF (by omega)))
      omega
    · have h1 := xO_slack hT (x := r - 1) (by omega)
      rw [if_pos (by omega), show xr L (r - 1) = r by unfold xr; rw [if_pos (by omega)]; omega] at h1
      rw [h1]
      exact xO_n hT hF (by omega)
theorem Opt.vl {L : Nat} {al : Nat → Prop} {v : Nat → Nat → Int} {D : Int} {T : Nat → Nat → Int} {b : Nat → Nat} (h : Opt L (2 * L) (aLP L al v) D T b) : vl L v D (xO L D T b) = T L (2 * L) := by
  have h1 := xO_slack h.1 (x := L) (by omega)
  rw [if_neg (by omega), show xr L L = 0 from if_neg (by omega)] at h1
  exact h1
theorem Opt.bdd {L : Nat} {al : Nat → Prop} {v : Nat → Nat → Int} (h0 : ∀ i : Nat, i < L → 0 ≤ v 0 (i + 1)) {D : Int} {T : Nat → Nat → Int} {b : Nat → Nat} (h : Opt L (2 * L) (aLP L al v) D T b) : Bdd L al v (T L (2 * L)) D := ⟨h.1.2.1, fun d x hf => h.ub hf, D, xO L D T b, h.fe h0, by rw [h.vl]⟩
/-- no way leads on for ever -/
def NR (L : Nat) (v : Nat → Nat → Int) : Prop := ∀ x : Nat → Int, (∀ i : Nat, i < L → 0 ≤ x i) → (∀ r : Nat, r < L → 0 ≤ sg (fun i => v (r + 1) (i + 1) * x i) L) → sg (fun i => v 0 (i + 1) * x i) L ≤ 0
theorem aLP_ray {L : Nat} {al : Nat → Prop} {v : Nat → Nat → Int} (hN : NR L v) {D : Int} {T : Nat → Nat → Int} {b : Nat → Nat} {j : Nat} (h : Tab L (2 * L) (aLP L al v) D T b) (hj : j < 2 * L) (hn : T L j < 0) : ¬ ∀ k : Nat, k < L → T k j ≤ 0 := by
  intro hk
  have hne : ∀ k : Nat, k < L → b k ≠ j := by
    intro k hk e
    have := h.bas hk (show L < L + 1 by omega)
    rw [e, if_neg (by omega)] at this
    omega
  have hnn : ∀ c : Nat, c < 2 * L → 0 ≤ ry L D T b j c := by
    intro c hc
    by_cases e : c = j
    · rw [e, ry_s hne]; exact Int.le_of_lt h.2.1
    · by_cases q : ∃ k, k < L ∧ b k = c
      · obtain ⟨k, hk2, e2⟩ := q
        rw [← e2, h.ryb hk2 (fun q => hne k hk2 q.symm)]
        have := hk k hk2
        omega
      · rw [ry_n (fun q => e q.symm) (fun k hk e => q ⟨k, hk, e⟩)]; omega
  have hy0 : ∀ i : Nat, i < L → ¬ al (i + 1) → ry L D T b j i = 0 := fun i hi q => ry_n (fun e => by
    rw [e, h.no hi q (by omega)] at hn; omega) (h.nob hi q)
  have hyN : ry L D T b j (2 * L) = 0 := ry_n (by omega) (fun k hk e => by have := h.1 k hk; omega)
  have h1 := hN (ry L D T b j) (fun i hi => hnn i (by omega)) (fun r hr => by
    have h1 := h.rys (s := j) (by omega) (show r < L + 1 by omega)
    rw [aLP_sum hy0 (by omega), if_pos hr, if_neg (by omega), hyN, show xr L r = r + 1 from if_pos hr] at h1
    have := hnn (L + r) (by omega)
    omega)
  have h2 := h.rys (s := j) (by omega) (show L < L + 1 by omega)
  rw [aLP_sum hy0 (by omega), if_neg (by omega), if_pos rfl, hyN, show xr L L = 0 from if_neg (by omega)] at h2
  omega
theorem aLP_slack {L : Nat} {al : Nat → Prop} {v : Nat → Nat → Int} {p x : Nat} (hp : p < L) : aLP L al v x (L + p) = un p x := by
  unfold aLP un
  rw [if_neg (by omega), if_pos (by omega)]
  exact ind_cg (by omega)
theorem aLP_init (L : Nat) (al : Nat → Prop) (v : Nat → Nat → Int) : Tab L (2 * L) (aLP L al v) 1 (aLP L al v) (fun k => L + k) ∧ Fs L (2 * L) (aLP L al v) := by
  have eg : gB L (aLP L al v) (fun k => L + k) = un := by
    funext p x
    unfold gB
    by_cases q : p < L
    · rw [if_pos q]; exact aLP_slack q
    · rw [if_neg q]
  refine ⟨⟨fun k hk => by show L + k < 2 * L; omega, by omega, by rw [eg, dt_un], fun r c hr hc => by rw [eg, dt_unit _ hr], fun c x hc hx => ?_⟩, fun k hk => ?_⟩
  · rw [eg, Int.one_mul]
    exact un_sum (fun x => aLP L al v x c) hx
  · unfold aLP
    rw [if_neg (by omega), if_neg (by omega)]
    decide
theorem lp_opt {L : Nat} (hL : L < 6) (al : Nat → Prop) {v : Nat → Nat → Int} (hN : NR L v) : ∃ D T b, Opt L (2 * L) (aLP L al v) D T b :=
  opt_ex hL (fun _ _ _ _ hT hj hn => aLP_ray hN hT hj hn) (aLP_init L al v).1 (aLP_init L al v).2
