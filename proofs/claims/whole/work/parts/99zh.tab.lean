/-! ===== tableaus ===== -/
def gB (L : Nat) (a : Nat → Nat → Int) (b : Nat → Nat) : Nat → Nat → Int := fun p => if p < L then (fun x => a x (b p)) else un p
theorem gB_y {L : Nat} {a : Nat → Nat → Int} {b : Nat → Nat} {p : Nat} (h : p < L) : gB L a b p = fun x => a x (b p) := if_pos h
theorem gB_L {L : Nat} {a : Nat → Nat → Int} {b : Nat → Nat} : gB L a b L = un L := if_neg (by omega)
def Tab (L N : Nat) (a : Nat → Nat → Int) (D : Int) (T : Nat → Nat → Int) (b : Nat → Nat) : Prop :=
  (∀ k : Nat, k < L → b k < N) ∧ 0 < D ∧ dt (L + 1) (gB L a b) = D ∧ (∀ r c : Nat, r < L + 1 → c < N + 1 → T r c = dt (L + 1) (up (gB L a b) r (fun x => a x c))) ∧ (∀ c x : Nat, c < N + 1 → x < L + 1 → D * a x c = sg (fun k => T k c * gB L a b k x) (L + 1))
def Nx (L N : Nat) (D : Int) (T : Nat → Nat → Int) (b : Nat → Nat) (j r : Nat) (D' : Int) (T' : Nat → Nat → Int) (b' : Nat → Nat) : Prop :=
  D' = T r j ∧ (∀ k : Nat, b' k = if k = r then j else b k) ∧ (∀ c : Nat, c < N + 1 → T' r c = T r c) ∧ (∀ o c : Nat, o < L + 1 → o ≠ r → c < N + 1 → D * T' o c = T r j * T o c - T o j * T r c)
theorem mul_can {d x y : Int} (hd : 0 < d) (h : d * x = d * y) : x = y := Int.eq_of_mul_eq_mul_left (by omega) h
theorem mul_canl {d x y : Int} (hd : 0 < d) (h : d * x ≤ d * y) : x ≤ y := Int.le_of_mul_le_mul_left h hd
theorem mul_nn {x y : Int} (hx : 0 ≤ x) (hy : 0 ≤ y) : 0 ≤ x * y := Int.mul_nonneg hx hy
theorem Tab.piv {L N : Nat} {a : Nat → Nat → Int} {D : Int} {T : Nat → Nat → Int} {b : Nat → Nat} (h : Tab L N a D T b) {j r : Nat} (hr : r < L) (hj : j < N) (hp : 0 < T r j) : ∃ T', Tab L N a (T r j) T' (fun k => if k = r then j else b k) ∧ Nx L N D T b j r (T r j) T' (fun k => if k = r then j else b k) := by
  obtain ⟨hb, hD, hd, hT, hC⟩ := h
  have eg : gB L a (fun k => if k = r then j else b k) = up (gB L a b) r (fun x => a x j) := by
    funext p
    by_cases e : p = r
    · subst e; rw [up_y, gB_y hr]; funext x; rw [if_pos rfl]
    · rw [up_n e]
      unfold gB
      by_cases q : p < L
      · rw [if_pos q, if_pos q]; funext x; show a x (if p = r then j else b p) = _; rw [if_neg e]
      · rw [if_neg q, if_neg q]
  have hN : Nx L N D T b j r (T r j) (fun o c => dt (L + 1) (up (gB L a (fun k => if k = r then j else b k)) o (fun x => a x c))) (fun k => if k = r then j else b k) := by
    refine ⟨rfl, fun _ => rfl, fun c hc => ?_, fun o c ho hn hc => ?_⟩
    · show dt (L + 1) (up _ r _) = _
      rw [eg, up_up, hT r c (by omega) hc]
    · show D * dt (L + 1) (up _ o _) = _
      rw [eg, hT r j (by omega) (by omega), hT o c ho hc, hT o j ho (by omega), hT r c (by omega) hc, ← hd]
      refine dt_ex _ _ _ (by omega) ho hn (fun x hx => ?_)
      rw [hd, hC c x hc hx]
      exact sg_cg (fun k hk => by rw [hT k c hk hc])
  refine ⟨_, ⟨fun k hk => ?_, hp, ?_, fun _ _ _ _ => rfl, fun c x hc hx => ?_⟩, hN⟩
  · by_cases e : k = r
    · simp only [e, if_true]; exact hj
    · simp only [e, if_false]; exact hb k hk
  · rw [eg, hT r j (by omega) (by omega)]
  · refine mul_can hD ?_
    rw [← sg_mul]
    obtain ⟨-, -, n1, n2⟩ := hN
    have e1 : sg (fun k => D * (dt (L + 1) (up (gB L a (fun k => if k = r then j else b k)) k (fun x => a x c)) * gB L a (fun k => if k = r then j else b k) k x)) (L + 1) = sg (fun k => (T r j * (T k c * gB L a b k x) - T r c * (T k j * gB L a b k x)) + ind (r = k) * (D * T r c * a x j)) (L + 1) := by
      refine sg_cg (fun k hk => ?_)
      by_cases e : r = k
      · subst e
        have := n1 c hc
        rw [show dt (L + 1) (up (gB L a (fun k => if k = r then j else b k)) r (fun x => a x c)) = T r c from this, ind_y rfl, eg, up_y]
        grind
      · have := n2 k c hk (fun q => e q.symm) hc
        rw [ind_n e, ← Int.mul_assoc, show D * dt (L + 1) (up (gB L a (fun k => if k = r then j else b k)) k (fun x => a x c)) = _ from this, eg, up_n (fun q => e q.symm)]
        grind
    rw [e1, sg_add, sg_sub, sg_mul, sg_mul, ← hC c x hc hx, ← hC j x (by omega) hx, sg_dl, if_pos (by omega)]
    grind
theorem Tab.bas {L N : Nat} {a : Nat → Nat → Int} {D : Int} {T : Nat → Nat → Int} {b : Nat → Nat} (h : Tab L N a D T b) {k r : Nat} (hk : k < L) (hr : r < L + 1) : T r (b k) = if r = k then D else 0 := by
  obtain ⟨hb, hD, hd, hT, hC⟩ := h
  rw [hT r (b k) hr (by have := hb k hk; omega), ← gB_y (a := a) (b := b) hk]
  by_cases e : r = k
  · subst e; rw [if_pos rfl, up_same, hd]
  · rw [if_neg e]
    exact dt_eq0 hr (show k < L + 1 by omega) e (by rw [up_y, up_n (fun q => e q.symm)])
theorem Tab.inj {L N : Nat} {a : Nat → Nat → Int} {D : Int} {T : Nat → Nat → Int} {b : Nat → Nat} (h : Tab L N a D T b) {k r : Nat} (hk : k < L) (hr : r < L) (e : b k = b r) : k = r := by
  have h1 := h.bas hk (show r < L + 1 by omega)
  have h2 := h.bas hr (show r < L + 1 by omega)
  rw [e, h2, if_pos rfl] at h1
  have hD := h.2.1
  by_cases q : r = k
  · exact q.symm
  · rw [if_neg q] at h1; omega
theorem Tab.row {L N : Nat} {a : Nat → Nat → Int} {D : Int} {T : Nat → Nat → Int} {b : Nat → Nat} (h : Tab L N a D T b) (y : Nat → Int) (hy : ∀ x : Nat, x < L → sg (fun c => y c * a x c) (N + 1) = 0) : sg (fun c => y c * T L c) (N + 1) = sg (fun c => y c * a L c) (N + 1) * D := by
  obtain ⟨hb, hD, hd, hT, hC⟩ := h
  have e1 : sg (fun c => y c * T L c) (N + 1) = sg (fun c => y c * dt (L + 1) (up (gB L a b) L (fun x => a x c))) (N + 1) := sg_cg (fun c hc => by rw [hT L c (by omega) hc])
  have e2 := dt_sum (m := L + 1) (gB L a b) (r := L) y (fun c x => a x c) (by omega) (N + 1)
  rw [e1, ← e2]
  have e3 : dt (L + 1) (up (gB L a b) L (fun x => sg (fun c => y c * a x c) (N + 1))) = dt (L + 1) (up (gB L a b) L (fun x => sg (fun c => y c * a L c) (N + 1) * gB L a b L x + (fun _ => 0) x)) := by
    refine dt_cg (fun p x hp hx => ?_)
    by_cases q : p = L
    · subst q
      rw [up_y, up_y, gB_L]
      unfold un
      by_cases q2 : p = x
      · subst q2; rw [ind_y rfl]; show _ = _ * 1 + 0; omega
      · rw [ind_n q2, hy x (by omega)]; show _ = _ * 0 + 0; omega
    · rw [up_n q, up_n q]
  rw [e3, dt_lin _ _ _ _ (by omega), dt_zero _ (by omega), up_same, hd]
  omega
/-- the line along which a column goes -/
def ry (L : Nat) (D : Int) (T : Nat → Nat → Int) (b : Nat → Nat) (s : Nat) : Nat → Int := fun c => D * ind (s = c) - sg (fun k => T k s * ind (b k = c)) L
theorem ry_sum {L N : Nat} {D : Int} {T : Nat → Nat → Int} {b : Nat → Nat} {s : Nat} (hs : s < N + 1) (hb : ∀ k : Nat, k < L → b k < N) (f : Nat → Int) : sg (fun c => ry L D T b s c * f c) (N + 1) = D * f s - sg (fun k => T k s * f (b k)) L := by
  have e1 : sg (fun c => ry L D T b s c * f c) (N + 1) = sg (fun c => D * (ind (s = c) * f c) - sg (fun k => T k s * (ind (b k = c) * f c)) L) (N + 1) := by
    refine sg_cg (fun c hc => ?_)
    unfold ry
    rw [Int.sub_mul, ← sg_mur, sg_cg (f := fun k => T k s * ind (b k = c) * f c) (g := fun k => T k s * (ind (b k = c) * f c)) (fun k hk => Int.mul_assoc _ _ _), Int.mul_assoc]
  rw [e1, sg_sub, sg_mul, sg_dl, if_pos hs, sg_com]
  congr 1
  refine sg_cg (fun k hk => ?_)
  rw [sg_mul, sg_dl, if_pos (by have := hb k hk; omega)]
theorem Tab.rys {L N : Nat} {a : Nat → Nat → Int} {D : Int} {T : Nat → Nat → Int} {b : Nat → Nat} (h : Tab L N a D T b) {s : Nat} (hs : s < N + 1) {x : Nat} (hx : x < L + 1) : sg (fun c => ry L D T b s c * a x c) (N + 1) = if x = L then T L s else 0 := by
  obtain ⟨hb, hD, hd, hT, hC⟩ := h
  rw [ry_sum hs hb, hC s x hs hx, sg_s, gB_L]
  have e1 : sg (fun k => T k s * gB L a b k x) L = sg (fun k => T k s * a x (b k)) L := sg_cg (fun k hk => by rw [gB_y hk])
  rw [e1]
  unfold un
  by_cases q : x = L
  · subst q; rw [if_pos rfl, ind_y rfl]; omega
  · rw [if_neg q, ind_n (fun e => q e.symm)]; omega
theorem ry_n {L : Nat} {D : Int} {T : Nat → Nat → Int} {b : Nat → Nat} {s c : Nat} (hs : s ≠ c) (hn : ∀ k : Nat, k < L → b k ≠ c) : ry L D T b s c = 0 := by
  unfold ry
  rw [ind_n hs, sg_cg (g := fun _ => 0) (fun k hk => by rw [ind_n (hn k hk), Int.mul_zero]), sg_0]; omega
theorem ry_s {L : Nat} {D : Int} {T : Nat → Nat → Int} {b : Nat → Nat} {s : Nat} (hn : ∀ k : Nat, k < L → b k ≠ s) : ry L D T b s s = D := by
  unfold ry
  rw [ind_y rfl, sg_cg (g := fun _ => 0) (fun k hk => by rw [ind_n (hn k hk), Int.mul_zero]), sg_0]; omega
theorem Tab.ryb {L N : Nat} {a : Nat → Nat → Int} {D : Int} {T : Nat → Nat → Int} {b : Nat → Nat} (h : Tab L N a D T b) {s k : Nat} (hk : k < L) (hs : s ≠ b k) : ry L D T b s (b k) = - T k s := by
  unfold ry
  have e1 : sg (fun i => T i s * ind (b i = b k)) L = sg (fun i => ind (k = i) * T i s) L := by
    refine sg_cg (fun i hi => ?_)
    rw [Int.mul_comm, ind_cg (show b i = b k ↔ k = i from ⟨fun e => (h.inj hi hk e).symm, fun e => by rw [e]⟩)]
  rw [ind_n hs, e1, sg_dl, if_pos hk]; omega
/-- no better point where the last row has no number below 0 -/
theorem Tab.opt {L N : Nat} {a : Nat → Nat → Int} {D : Int} {T : Nat → Nat → Int} {b : Nat → Nat} (h : Tab L N a D T b) (ho : ∀ c : Nat, c < N → 0 ≤ T L c) (y : Nat → Int) (hy : ∀ x : Nat, x < L → sg (fun c => y c * a x c) (N + 1) = 0) (hn : ∀ c : Nat, c < N → 0 ≤ y c) : y N * T L N ≤ sg (fun c => y c * a L c) (N + 1) * D := by
  have h1 := h.row y hy
  rw [sg_s] at h1
  have h2 : 0 ≤ sg (fun c => y c * T L c) N := sg_nn (fun c hc => mul_nn (hn c hc) (ho c hc))
  omega
def Bl (L N : Nat) (T : Nat → Nat → Int) (b : Nat → Nat) (j r : Nat) : Prop := j < N ∧ T L j < 0 ∧ (∀ c : Nat, c < j → 0 ≤ T L c) ∧ r < L ∧ 0 < T r j ∧ (∀ k : Nat, k < L → 0 < T k j → T r N * T k j < T k N * T r j ∨ (T r N * T k j = T k N * T r j ∧ b r ≤ b k))
def Fs (L N : Nat) (T : Nat → Nat → Int) : Prop := ∀ k : Nat, k < L → 0 ≤ T k N
theorem Nx.fs {L N : Nat} {D D' : Int} {T T' : Nat → Nat → Int} {b b' : Nat → Nat} {j r : Nat} (h : Nx L N D T b j r D' T' b') (hD : 0 < D) (hB : Bl L N T b j r) (hF : Fs L N T) : Fs L N T' := by
  intro k hk
  obtain ⟨hj, h0, hc, hr, hp, hl⟩ := hB
  by_cases e : k = r
  · rw [e, h.2.2.1 N (by omega)]; exact hF r hr
  · have e1 := h.2.2.2 k N (by omega) e (by omega)
    refine mul_canl hD ?_
    rw [e1, Int.mul_zero]
    have f1 := mul_nn (Int.le_of_lt hp) (hF k hk)
    by_cases q : 0 < T k j
    · have := hl k hk q
      have e2 : T k j * T r N = T r N * T k j := Int.mul_comm _ _
      have e3 : T r j * T k N = T k N * T r j := Int.mul_comm _ _
      omega
    · have f2 := mul_nn (show 0 ≤ - T k j by omega) (hF r hr)
      rw [Int.neg_mul] at f2
      omega
/-- a run of M turns -/
def Run (L N : Nat) (a : Nat → Nat → Int) (M : Nat) (D : Nat → Int) (T : Nat → Nat → Nat → Int) (b : Nat → Nat → Nat) (j r : Nat → Nat) : Prop :=
  (∀ t : Nat, t < M + 1 → Tab L N a (D t) (T t) (b t) ∧ Fs L N (T t)) ∧ ∀ t : Nat, t < M → Bl L N (T t) (b t) (j t) (r t) ∧ Nx L N (D t) (T t) (b t) (j t) (r t) (D (t + 1)) (T (t + 1)) (b (t + 1))
theorem fr_tr {x b y d z f : Int} (hb : 0 < b) (hd : 0 < d) (hf : 0 < f) (h1 : x * d ≤ y * b) (h2 : y * f ≤ z * d) : x * f ≤ z * b := by
  refine mul_canl hd ?_
  have i1 := Int.mul_le_mul_of_nonneg_right h1 (Int.le_of_lt hf)
  have i2 := Int.mul_le_mul_of_nonneg_right h2 (Int.le_of_lt hb)
  have e1 : d * (x * f) = x * d * f := by grind
  have e2 : d * (z * b) = z * d * b := by grind
  have e3 : y * b * f = y * f * b := by grind
  omega
theorem Run.le1 {L N : Nat} {a : Nat → Nat → Int} {M : Nat} {D : Nat → Int} {T : Nat → Nat → Nat → Int} {b : Nat → Nat → Nat} {j r : Nat → Nat} (h : Run L N a M D T b j r) {t : Nat} (ht : t < M) : T t L N * D (t + 1) ≤ T (t + 1) L N * D t ∧ (T (t + 1) L N * D t ≤ T t L N * D (t + 1) → T t (r t) N = 0) := by
  obtain ⟨⟨hj, h0, hc, hr, hp, hl⟩, hN⟩ := h.2 t ht
  have hF := (h.1 t (by omega)).2
  have e := hN.2.2.2 L N (by omega) (by omega) (by omega)
  rw [hN.1]
  have f1 := mul_nn (show 0 ≤ - T t L (j t) by omega) (hF _ hr)
  rw [Int.neg_mul] at f1
  have e1 : T (t + 1) L N * D t = D t * T (t + 1) L N := Int.mul_comm _ _
  have e2 : T t L N * T t (r t) (j t) = T t (r t) (j t) * T t L N := Int.mul_comm _ _
  refine ⟨by omega, fun q => ?_⟩
  have z : T t L (j t) * T t (r t) N = 0 := by omega
  rcases Int.mul_eq_zero.mp z with q1 | q1
  · omega
  · exact q1
theorem Run.le {L N : Nat} {a : Nat → Nat → Int} {M : Nat} {D : Nat → Int} {T : Nat → Nat → Nat → Int} {b : Nat → Nat → Nat} {j r : Nat → Nat} (h : Run L N a M D T b j r) {s : Nat} : ∀ t : Nat, s ≤ t → t < M + 1 → T s L N * D t ≤ T t L N * D s := by
  intro t
  induction t with
  | zero => intro h1 h2; rw [show s = 0 by omega]; omega
  | succ t ih =>
    intro h1 h2
    by_cases e : s = t + 1
    · rw [e]; omega
    · exact fr_tr (h.1 s (by omega)).1.2.1 (h.1 t (by omega)).1.2.1 (h.1 (t + 1) (by omega)).1.2.1 (ih (by omega) (by omega)) (h.le1 (by omega)).1
def ba (L : Nat) (b : Nat → Nat → Nat) (t c : Nat) : Prop := ∃ k, k < L ∧ b t k = c
theorem Run.same {L N : Nat} {a : Nat → Nat → Int} {M : Nat} {D : Nat → Int} {T : Nat → Nat → Nat → Int} {b : Nat → Nat → Nat} {j r : Nat → Nat} (h : Run L N a M D T b j r) {s t : Nat} (hs : s < M + 1) (ht : t < M + 1) (he : ∀ c, ba L b s c → ba L b t c) : T t L N * D s = T s L N * D t := by
  have hS := (h.1 s hs).1
  have hT := (h.1 t ht).1
  have e := hT.row (ry L (D s) (T s) (b s) N) (fun x hx => by rw [hS.rys (by omega) (by omega), if_neg (by omega)])
  rw [hS.rys (by omega) (by omega), if_pos rfl, ry_sum (by omega) hS.1] at e
  have e2 : sg (fun k => T s k N * T t L (b s k)) L = 0 := by
    rw [← sg_0 L]
    refine sg_cg (fun k hk => ?_)
    obtain ⟨i, hi, ei⟩ := he (b s k) ⟨k, hk, rfl⟩
    rw [← ei, hT.bas hi (by omega), if_neg (by omega), Int.mul_zero]
  rw [e2] at e
  have e3 : T t L N * D s = D s * T t L N := Int.mul_comm _ _
  omega
theorem Run.degen {L N : Nat} {a : Nat → Nat → Int} {M : Nat} {D : Nat → Int} {T : Nat → Nat → Nat → Int} {b : Nat → Nat → Nat} {j r : Nat → Nat} (h : Run L N a M D T b j r) {t1 t2 : Nat} (h2 : t2 < M + 1) (he : ∀ c, ba L b t1 c → ba L b t2 c) {t : Nat} (ha : t1 ≤ t) (hb : t < t2) : T t (r t) N = 0 := by
  refine (h.le1 (by omega)).2 ?_
  have s := h.same (by omega) h2 he
  have i1 := h.le (s := t + 1) t2 (by omega) h2
  have i2 := h.le (s := t1) t (by omega) (by omega)
  have p1 := (h.1 t1 (by omega)).1.2.1
  have p2 := (h.1 t (by omega)).1.2.1
  have p3 := (h.1 (t + 1) (by omega)).1.2.1
  have p4 := (h.1 t2 h2).1.2.1
  have i3 : T (t + 1) L N * D t1 ≤ T t1 L N * D (t + 1) := fr_tr p3 p4 p1 i1 (by omega)
  exact fr_tr p3 p1 p2 i3 i2
theorem Run.zero {L N : Nat} {a : Nat → Nat → Int} {M : Nat} {D : Nat → Int} {T : Nat → Nat → Nat → Int} {b : Nat → Nat → Nat} {j r : Nat → Nat} (h : Run L N a M D T b j r) {t1 t2 : Nat} (h2 : t2 < M + 1) (hd : ∀ t : Nat, t1 ≤ t → t < t2 → T t (r t) N = 0) (c : Nat) {s : Nat} (hs : t1 ≤ s) (hs2 : s < t2 + 1) (hn : ¬ ba L b s c) : ∀ t : Nat, t1 ≤ t → t < t2 + 1 → ∀ k : Nat, k < L → b t k = c → T t k N = 0 := by
  have st : ∀ t : Nat, t1 ≤ t → t < t2 → ∀ k : Nat, k < L → k ≠ r t → b (t + 1) k = b t k ∧ (T (t + 1) k N = 0 ↔ T t k N = 0) := by
    intro t ha hb k hk hkr
    obtain ⟨⟨hj, h0, hc, hr, hp, hl⟩, hN⟩ := h.2 t (by omega)
    have hD := (h.1 t (by omega)).1.2.1
    have e := hN.2.2.2 k N (by omega) hkr (by omega)
    rw [hd t ha hb, Int.mul_zero] at e
    refine ⟨by rw [hN.2.1 k, if_neg hkr], fun q => ?_, fun q => ?_⟩
    · rw [q, Int.mul_zero] at e
      rcases Int.mul_eq_zero.mp (show T t (r t) (j t) * T t k N = 0 by omega) with q1 | q1
      · omega
      · exact q1
    · rw [q, Int.mul_zero] at e
      rcases Int.mul_eq_zero.mp (show D t * T (t + 1) k N = 0 by omega) with q1 | q1
      · omega
      · exact q1
  have fw : ∀ i : Nat, s + i < t2 + 1 → ∀ k : Nat, k < L → b (s + i) k = c → T (s + i) k N = 0 := by
    intro i
    induction i with
    | zero => intro _ k hk e; exact absurd ⟨k, hk, e⟩ hn
    | succ i ih =>
      intro hi k hk e
      by_cases q : k = r (s + i)
      · obtain ⟨-, hN⟩ := h.2 (s + i) (by omega)
        show T (s + i + 1) k N = 0
        rw [q, hN.2.2.1 N (by omega), hd (s + i) (by omega) (by omega)]
      · have := st (s + i) (by omega) (by omega) k hk q
        exact this.2.mpr (ih (by omega) k hk (by rw [← this.1]; exact e))
  have bw : ∀ i : Nat, i ≤ s → t1 ≤ s - i → ∀ k : Nat, k < L → b (s - i) k = c → T (s - i) k N = 0 := by
    intro i
    induction i with
    | zero => intro _ _ k hk e; exact absurd ⟨k, hk, e⟩ hn
    | succ i ih =>
      intro hi ht k hk e
      by_cases q : k = r (s - (i + 1))
      · rw [q, hd _ ht (by omega)]
      · have := st (s - (i + 1)) (by omega) (by omega) k hk q
        rw [show s - (i + 1) + 1 = s - i by omega] at this
        exact this.2.mp (ih (by omega) (by omega) k hk (by rw [this.1]; exact e))
  intro t ha hb k hk e
  rcases Nat.lt_or_ge t s with q | q
  · have := bw (s - t) (by omega) (by omega) k hk (by rw [show s - (s - t) = t by omega]; exact e)
    rw [show s - (s - t) = t by omega] at this
    exact this
  · have := fw (t - s) (by omega) k hk (by rw [show s + (t - s) = t by omega]; exact e)
    rw [show s + (t - s) = t by omega] at this
    exact this
theorem most_of (f : Nat → Nat) (lo : Nat) : ∀ hi : Nat, lo < hi → ∃ s, lo ≤ s ∧ s < hi ∧ ∀ t : Nat, lo ≤ t → t < hi → f t ≤ f s := by
  intro hi
  induction hi with
  | zero => intro h; omega
  | succ hi ih =>
    intro h
    by_cases e : lo = hi
    · exact ⟨lo, by omega, by omega, fun t h1 h2 => by rw [show t = lo by omega]; omega⟩
    · obtain ⟨s, h1, h2, h3⟩ := ih (by omega)
      by_cases q : f hi ≤ f s
      · exact ⟨s, h1, by omega, fun t a b => by
          by_cases e2 : t = hi
          · rw [e2]; exact q
          · exact h3 t a (by omega)⟩
      · exact ⟨hi, by omega, by omega, fun t a b => by
          by_cases e2 : t = hi
          · rw [e2]; omega
          · have := h3 t a (by omega); omega⟩
/-- Bland: no basis comes again -/
theorem Run.norep {L N : Nat} {a : Nat → Nat → Int} {M : Nat} {D : Nat → Int} {T : Nat → Nat → Nat → Int} {b : Nat → Nat → Nat} {j r : Nat → Nat} (h : Run L N a M D T b j r) {t1 t2 : Nat} (h1 : t1 < t2) (h2 : t2 < M + 1) (he : ∀ c, ba L b t1 c ↔ ba L b t2 c) : False := by
  have hd : ∀ t : Nat, t1 ≤ t → t < t2 → T t (r t) N = 0 := fun t ha hb => h.degen h2 (fun c => (he c).mp) ha hb
  obtain ⟨s1, a1, a2, a3⟩ := most_of j t1 t2 h1
  -- what leaves at a turn, what enters
  have lv : ∀ t : Nat, t < M → ∀ c, ba L b (t + 1) c ↔ c = j t ∨ (ba L b t c ∧ c ≠ b t (r t)) := by
    intro t ht c
    obtain ⟨⟨hj, h0, hc, hr, hp, hl⟩, hN⟩ := h.2 t ht
    constructor
    · rintro ⟨k, hk, e⟩
      rw [hN.2.1 k] at e
      by_cases q : k = r t
      · rw [if_pos q] at e; exact Or.inl e.symm
      · rw [if_neg q] at e
        exact Or.inr ⟨⟨k, hk, e⟩, fun q2 => q ((h.1 t (by omega)).1.inj hk hr (e.trans q2))⟩
    · rintro (e | ⟨⟨k, hk, e⟩, hn⟩)
      · exact ⟨r t, hr, by rw [hN.2.1, if_pos rfl, e]⟩
      · exact ⟨k, hk, by rw [hN.2.1, if_neg (fun q => hn (by rw [← e, q])), e]⟩
  have nin : ∀ t : Nat, t < M → ¬ ba L b t (j t) := by
    rintro t ht ⟨k, hk, e⟩
    obtain ⟨⟨hj, h0, -⟩, -⟩ := h.2 t ht
    rw [← e, (h.1 t (by omega)).1.bas hk (by omega), if_neg (by omega)] at h0
    omega
  -- what never enters and is once out stays out
  have out1 : ∀ c, (∀ t : Nat, t1 ≤ t → t < t2 → j t ≠ c) → ∀ s : Nat, t1 ≤ s → ¬ ba L b s c → ∀ i : Nat, s + i < t2 + 1 → ¬ ba L b (s + i) c := by
    intro c hc s hs hn i
    induction i with
    | zero => intro _; exact hn
    | succ i ih =>
      intro hi q
      rcases (lv (s + i) (by omega) c).mp q with e | ⟨e, -⟩
      · exact hc (s + i) (by omega) (by omega) e.symm
      · exact ih (by omega) e
  have out : ∀ c, (∀ t : Nat, t1 ≤ t → t < t2 → j t ≠ c) → ∀ s s' : Nat, t1 ≤ s → s < t2 + 1 → t1 ≤ s' → s' < t2 + 1 → ¬ ba L b s c → ¬ ba L b s' c := by
    intro c hc s s' x1 x2 x3 x4 hn
    have y1 := out1 c hc s x1 hn (t2 - s) (by omega)
    rw [show s + (t2 - s) = t2 by omega] at y1
    have y2 := out1 c hc t1 (by omega) (fun q => y1 ((he c).mp q)) (s' - t1) (by omega)
    rw [show t1 + (s' - t1) = s' by omega] at y2
    exact y2
  -- the greatest that enters also leaves
  have hs2 : ∃ s2, t1 ≤ s2 ∧ s2 < t2 ∧ b s2 (r s2) = j s1 := by
    refine Classical.byContradiction fun hno => ?_
    have stay : ∀ s : Nat, t1 ≤ s → ba L b s (j s1) → ∀ i : Nat, s + i < t2 + 1 → ba L b (s + i) (j s1) := by
      intro s hs hb i
      induction i with
      | zero => intro _; exact hb
      | succ i ih =>
        intro hi
        exact (lv (s + i) (by omega) _).mpr (Or.inr ⟨ih (by omega), fun q => hno ⟨s + i, by omega, by omega, q.symm⟩⟩)
    have y1 := stay (s1 + 1) (by omega) ((lv s1 (by omega) _).mpr (Or.inl rfl)) (t2 - (s1 + 1)) (by omega)
    rw [show s1 + 1 + (t2 - (s1 + 1)) = t2 by omega] at y1
    have y2 := stay t1 (by omega) ((he _).mpr y1) (s1 - t1) (by omega)
    rw [show t1 + (s1 - t1) = s1 by omega] at y2
    exact nin s1 (by omega) y2
  obtain ⟨s2, b1, b2, b3⟩ := hs2
  obtain ⟨⟨j1, z1, c1, r1, p1, l1⟩, n1⟩ := h.2 s1 (by omega)
  obtain ⟨⟨j2, z2, c2, r2, p2, l2⟩, n2⟩ := h.2 s2 (by omega)
  have T1 := (h.1 s1 (by omega)).1
  have T2 := (h.1 s2 (by omega)).1
  have hne : ∀ k : Nat, k < L → b s2 k ≠ j s2 := fun k hk e => nin s2 (by omega) ⟨k, hk, e⟩
  have e := T1.row (ry L (D s2) (T s2) (b s2) (j s2)) (fun x hx => by rw [T2.rys (by omega) (by omega), if_neg (by omega)])
  rw [T2.rys (by omega) (by omega), if_pos rfl] at e
  have hneg : T s2 L (j s2) * D s1 < 0 := Int.mul_neg_of_neg_of_pos z2 T1.2.1
  have hpos : 0 ≤ sg (fun c => ry L (D s2) (T s2) (b s2) (j s2) c * T s1 L c) (N + 1) := by
    refine sg_nn (fun c hc => ?_)
    by_cases q1 : ba L b s1 c
    · obtain ⟨k, hk, ek⟩ := q1
      rw [← ek, T1.bas hk (by omega), if_neg (by omega), Int.mul_zero]; exact Int.le_refl _
    · by_cases q2 : c = j s2
      · -- it enters at s2
        rw [q2, ry_s hne]
        have hle := a3 s2 b1 b2
        have : j s2 ≠ j s1 := by
          intro q
          exact hne _ r2 (by rw [b3, q])
        exact mul_nn (Int.le_of_lt T2.2.1) (c1 _ (by omega))
      · by_cases q3 : ba L b s2 c
        · obtain ⟨k, hk, ek⟩ := q3
          rw [← ek, T2.ryb hk (by rw [ek]; exact fun q => q2 q.symm)]
          -- it enters at some turn
          have hle : c ≤ j s1 := by
            refine Classical.byContradiction fun hno => ?_
            refine out c (fun t x y q => ?_) s1 s2 a1 (by omega) b1 (by omega) q1 ⟨k, hk, ek⟩
            have := a3 t x y
            omega
          by_cases q4 : c = j s1
          · have : k = r s2 := T2.inj hk r2 (by rw [ek, b3, q4])
            rw [ek, q4, this]
            have := mul_nn (Int.le_of_lt p2) (show 0 ≤ - T s1 L (j s1) by omega)
            rw [Int.mul_neg] at this
            rw [Int.neg_mul]; exact this
          · rw [ek]
            have f1 := c1 c (by omega)
            have zz := h.zero h2 hd c a1 (by omega) q1 s2 b1 (by omega) k hk ek
            have zr := hd s2 b1 b2
            have f2 : T s2 k (j s2) ≤ 0 := by
              refine Classical.byContradiction fun hno => ?_
              rcases l2 k hk (by omega) with q5 | ⟨-, q5⟩
              · rw [zz, zr, Int.zero_mul, Int.zero_mul] at q5; omega
              · rw [b3, ek] at q5; omega
            exact mul_nn (by omega) f1
        · rw [ry_n (fun q => q2 q.symm) (fun k hk q => q3 ⟨k, hk, q⟩), Int.zero_mul]; exact Int.le_refl _
  omega
