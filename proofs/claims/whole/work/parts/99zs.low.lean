/-! ===== how large the numbers of a corner are ===== -/
def lcf (l : Nat) (K : Nat → Nat) : Nat → Nat
  | 0 => l
  | i + 1 => Nat.lcm (lcf l K i) (K i)
theorem lcf_s (l : Nat) (K : Nat → Nat) (i : Nat) : lcf l K (i + 1) = Nat.lcm (lcf l K i) (K i) := rfl
theorem lcf_f (l : Nat) (K : Nat → Nat) : ∀ i, lcf l K (i + 1) = lcf (Nat.lcm l (K 0)) (fun j => K (j + 1)) i := by
  intro i
  induction i with
  | zero => rfl
  | succ i ih => rw [lcf_s, ih]; rfl
theorem lcf_pos {l : Nat} {K : Nat → Nat} (hl : 0 < l) : ∀ {i : Nat}, (∀ j : Nat, j < i → 0 < K j) → 0 < lcf l K i := by
  intro i
  induction i with
  | zero => intro _; exact hl
  | succ i ih => intro h; exact Nat.lcm_pos (ih (fun j hj => h j (by omega))) (h i (by omega))
theorem lcf_dvd {l : Nat} {K : Nat → Nat} : ∀ {i j : Nat}, j < i → K j ∣ lcf l K i := by
  intro i
  induction i with
  | zero => intro j h; omega
  | succ i ih =>
    intro j h
    by_cases e : j = i
    · rw [e]; exact Nat.dvd_lcm_right _ _
    · exact Nat.dvd_trans (ih (by omega)) (Nat.dvd_lcm_left _ _)
def lk (B : Nat) : Nat → Nat → Nat → Bool
  | 0, _, l => Nat.ble l B
  | L + 1, s, l => (List.range s).all (fun k => lk B L (s - (k + 1)) (Nat.lcm l (k + 1)))
def nsu (K : Nat → Nat) : Nat → Nat
  | 0 => 0
  | i + 1 => nsu K i + K i
theorem nsu_f (K : Nat → Nat) : ∀ i, nsu K (i + 1) = K 0 + nsu (fun j => K (j + 1)) i := by
  intro i
  induction i with
  | zero => show 0 + K 0 = K 0 + 0; omega
  | succ i ih => rw [show nsu K (i + 1 + 1) = nsu K (i + 1) + K (i + 1) from rfl, ih, show nsu (fun j => K (j + 1)) (i + 1) = nsu (fun j => K (j + 1)) i + K (i + 1) from rfl]; omega
theorem lk_ok {B : Nat} : ∀ {L s l : Nat} {K : Nat → Nat}, lk B L s l = true → (∀ i : Nat, i < L → 1 ≤ K i) → nsu K L ≤ s → lcf l K L ≤ B := by
  intro L
  induction L with
  | zero => intro s l K h _ _; exact Nat.le_of_ble_eq_true h
  | succ L ih =>
    intro s l K h hp hs
    have h1 : (List.range s).all (fun k => lk B L (s - (k + 1)) (Nat.lcm l (k + 1))) = true := h
    rw [List.all_eq_true] at h1
    rw [nsu_f] at hs
    have hk := hp 0 (by omega)
    have h2 := h1 (K 0 - 1) (List.mem_range.mpr (by omega))
    rw [show K 0 - 1 + 1 = K 0 by omega] at h2
    rw [lcf_f]
    exact ih h2 (fun i hi => hp (i + 1) (by omega)) (by omega)
theorem lk5 : lk 30 5 12 1 = true := by decide +kernel
theorem lk4 : lk 30 4 12 1 = true := by decide +kernel
theorem lk3 : lk 60 3 12 1 = true := by decide +kernel
theorem lk2 : lk 60 2 12 1 = true := by decide +kernel
theorem lk1 : lk 60 1 12 1 = true := by decide +kernel
theorem lk0 : lk 60 0 12 1 = true := by decide +kernel
theorem pow_mono {a b : Int} (h0 : 0 ≤ a) (h : a ≤ b) : ∀ m : Nat, a ^ m ≤ b ^ m ∧ 0 ≤ a ^ m := by
  intro m
  induction m with
  | zero => rw [Int.pow_zero, Int.pow_zero]; omega
  | succ m ih =>
    rw [Int.pow_succ, Int.pow_succ]
    exact ⟨Int.mul_le_mul ih.1 h h0 (by omega), mul_nn ih.2 h0⟩
theorem fct_pos : ∀ m : Nat, 0 < fct m := by
  intro m
  induction m with
  | zero => decide
  | succ m ih => exact Int.mul_pos (by omega) ih
/-- the bounds for the shares -/
theorem lc_bd {L : Nat} (hL : L < 6) {K : Nat → Nat} (hp : ∀ i : Nat, i < L → 1 ≤ K i) (hs : nsu K L ≤ 12) {m : Nat} (hm : m ≤ L) : (lcf 1 K L : Int) ≤ 60 ∧ fct m * (lcf 1 K L : Int) ^ m ≤ 2916000000 ∧ ∀ c : Nat, c + 1 ≤ m → fct m * (lcf 1 K L : Int) ^ c ≤ 97200000 := by
  have c60 : ∀ m : Fin 4, fct m * 60 ^ (m : Nat) ≤ 2916000000 ∧ ∀ c : Fin 4, (c : Nat) + 1 ≤ m → fct m * 60 ^ (c : Nat) ≤ 97200000 := by decide +kernel
  have c30 : ∀ m : Fin 6, fct m * 30 ^ (m : Nat) ≤ 2916000000 ∧ ∀ c : Fin 6, (c : Nat) + 1 ≤ m → fct m * 30 ^ (c : Nat) ≤ 97200000 := by decide +kernel
  have use : ∀ {S : Int} {B : Int}, 0 ≤ S → S ≤ B → fct m * B ^ m ≤ 2916000000 → (∀ c : Nat, c + 1 ≤ m → fct m * B ^ c ≤ 97200000) → fct m * S ^ m ≤ 2916000000 ∧ ∀ c : Nat, c + 1 ≤ m → fct m * S ^ c ≤ 97200000 := by
    intro S B h0 hB h1 h2
    have hf := fct_pos m
    refine ⟨?_, fun c hc => ?_⟩
    · have := Int.mul_le_mul_of_nonneg_left (pow_mono h0 hB m).1 (Int.le_of_lt hf); omega
    · have := Int.mul_le_mul_of_nonneg_left (pow_mono h0 hB c).1 (Int.le_of_lt hf); have := h2 c hc; omega
  have hb : (L < 4 ∧ lcf 1 K L ≤ 60) ∨ lcf 1 K L ≤ 30 := by
    have : L = 0 ∨ L = 1 ∨ L = 2 ∨ L = 3 ∨ L = 4 ∨ L = 5 := by omega
    rcases this with e | e | e | e | e | e <;> subst e
    · exact Or.inl ⟨by omega, lk_ok lk0 hp hs⟩
    · exact Or.inl ⟨by omega, lk_ok lk1 hp hs⟩
    · exact Or.inl ⟨by omega, lk_ok lk2 hp hs⟩
    · exact Or.inl ⟨by omega, lk_ok lk3 hp hs⟩
    · exact Or.inr (lk_ok lk4 hp hs)
    · exact Or.inr (lk_ok lk5 hp hs)
  rcases hb with ⟨h4, h⟩ | h
  · have h1 := c60 ⟨m, by omega⟩
    exact ⟨by omega, use (B := 60) (by omega) (by omega) h1.1 (fun c hc => h1.2 ⟨c, by omega⟩ hc)⟩
  · have h1 := c30 ⟨m, by omega⟩
    exact ⟨by omega, use (B := 30) (by omega) (by omega) h1.1 (fun c hc => h1.2 ⟨c, by omega⟩ hc)⟩
/-- the same corner with smaller numbers -/
theorem cor_low {L m : Nat} (hm : m < 6) {al : Nat → Prop} {we iw : Nat → Nat} (hw : WE L m al we iw) {v : Nat → Nat → Int} {cS : Nat → Int} {S : Int} (hc : ∀ i : Nat, 1 ≤ i → i ≤ L → 0 < cS i) (hk : ∀ i : Nat, 1 ≤ i → i ≤ L → v 0 i * cS i = S) (hv : ∀ r i : Nat, r < L + 1 → i ≤ L → ((v r i).natAbs : Int) ≤ 13) {f : Nat → Nat} (hf : ∀ k : Nat, k < m → f k < m + L + 1) (h0 : cBy m v cS we f ≠ 0) : ∃ D s : Int, D ≠ 0 ∧ (D.natAbs : Int) ≤ 44555160 ∧ (s.natAbs : Int) ≤ 2940640560 ∧ cBy m v cS we f * s = D * (cBy m v cS we f + sg (fun j => cWt m v cS S we f j) m) := by
  have e1 : ∀ j x : Nat, j < m → x < m → (if f x < m then cS (we (f x)) else 1) * lnE m v cS we (f x) j = cS (we j) * (if f x < m then ind (f x = j) else v (f x - m) (we j)) := by
    intro j x hj hx
    unfold lnE
    by_cases q : f x < m
    · rw [if_pos q, if_pos q, if_pos q]
      by_cases e : f x = j
      · rw [e]
      · rw [ind_n e, Int.mul_zero, Int.mul_zero]
    · rw [if_neg q, if_neg q, if_neg q]; grind
  have e2 : ∀ j x : Nat, j < m → (if f x < m then cS (we (f x)) else 1) * rhE m S (f x) = v 0 (we j) * cS (we j) * (if f x < m then 0 else -1) := by
    intro j x hj
    obtain ⟨a1, a2, a3, a4⟩ := hw.1 j hj
    rw [hk _ a1 a2]
    unfold rhE
    by_cases q : f x < m
    · rw [if_pos q, if_pos q, if_pos q]; omega
    · rw [if_neg q, if_neg q, if_neg q]; omega
  have pd : 0 < prb (fun x => if f x < m then cS (we (f x)) else 1) m := prb_pos (fun x hx => by
    by_cases q : f x < m
    · rw [if_pos q]; obtain ⟨a1, a2, a3, a4⟩ := hw.1 _ q; exact hc _ a1 a2
    · rw [if_neg q]; decide)
  have pc : 0 < prb (fun j => cS (we j)) m := prb_pos (fun j hj => by obtain ⟨a1, a2, a3, a4⟩ := hw.1 j hj; exact hc _ a1 a2)
  -- the square itself
  have q1 : prb (fun x => if f x < m then cS (we (f x)) else 1) m * cBy m v cS we f = prb (fun j => cS (we j)) m * dt m (fun j x => if f x < m then ind (f x = j) else v (f x - m) (we j)) := by
    unfold cBy
    rw [← dt_row, ← dt_col]
    exact dt_cg (fun j x hj hx => e1 j x hj hx)
  have q2 : ∀ j : Nat, j < m → prb (fun x => if f x < m then cS (we (f x)) else 1) m * cWt m v cS S we f j = v 0 (we j) * prb (fun j => cS (we j)) m * dt m (up (fun j x => if f x < m then ind (f x = j) else v (f x - m) (we j)) j (fun x => if f x < m then 0 else -1)) := by
    intro j hj
    unfold cWt
    rw [← dt_row, ← prb_up hj, ← dt_col]
    refine dt_cg (fun p x hp hx => ?_)
    by_cases e : p = j
    · subst e
      rw [up_y, up_y, if_pos rfl]; exact e2 p x hp
    · rw [up_n e, up_n e, if_neg e]; exact e1 p x hp hx
  have bd : ∀ g : Nat → Nat → Int, (∀ p x : Nat, p < m → x < m → ((g p x).natAbs : Int) ≤ 13) → ((dt m g).natAbs : Int) ≤ 44555160 := by
    intro g hg
    have h1 := dt_bd (m := m) (B := fun _ => 13) hg
    have h2 : ∀ L : Fin 6, fct L * prb (fun _ => 13) L ≤ 44555160 := by decide +kernel
    have h3 : fct m * prb (fun _ => 13) m ≤ 44555160 := h2 ⟨m, hm⟩
    omega
  have en : ∀ j x : Nat, j < m → x < m → (((if f x < m then ind (f x = j) else v (f x - m) (we j)) : Int).natAbs : Int) ≤ 13 := by
    intro j x hj hx
    by_cases q : f x < m
    · rw [if_pos q]; unfold ind; split <;> decide
    · rw [if_neg q]; exact hv _ _ (by have := hf x hx; omega) (hw.1 j hj).2.1
  refine ⟨dt m (fun j x => if f x < m then ind (f x = j) else v (f x - m) (we j)), dt m (fun j x => if f x < m then ind (f x = j) else v (f x - m) (we j)) + sg (fun j => v 0 (we j) * dt m (up (fun j x => if f x < m then ind (f x = j) else v (f x - m) (we j)) j (fun x => if f x < m then 0 else -1))) m, ?_, bd _ en, ?_, ?_⟩
  · intro z
    rw [z, Int.mul_zero] at q1
    rcases Int.mul_eq_zero.mp q1 with q | q
    · omega
    · exact h0 q
  · have h1 := bd _ en
    have h2 := sg_abs (n := m) (B := 13 * 44555160) (f := fun j => v 0 (we j) * dt m (up (fun j x => if f x < m then ind (f x = j) else v (f x - m) (we j)) j (fun x => if f x < m then 0 else -1))) (fun j hj => by
      rw [Int.natAbs_mul, Int.natCast_mul]
      refine Int.mul_le_mul (hv 0 _ (by omega) (hw.1 j hj).2.1) (bd _ (fun p x hp hx => ?_)) (by omega) (by omega)
      by_cases e : p = j
      · subst e; rw [up_y]; split <;> decide
      · rw [up_n e]; exact en p x hp hx)
    have h3 : (m : Int) * (13 * 44555160) ≤ 5 * (13 * 44555160) := Int.mul_le_mul_of_nonneg_right (by omega) (by omega)
    omega
  · refine Int.eq_of_mul_eq_mul_left (a := prb (fun x => if f x < m then cS (we (f x)) else 1) m * prb (fun j => cS (we j)) m) (by have := Int.mul_pos pd pc; omega) ?_
    generalize prb (fun x => if f x < m then cS (we (f x)) else 1) m = P at *
    generalize prb (fun j => cS (we j)) m = C at *
    generalize dt m (fun j x => if f x < m then ind (f x = j) else v (f x - m) (we j)) = D at *
    have e3 : P * sg (fun j => cWt m v cS S we f j) m = C * sg (fun j => v 0 (we j) * dt m (up (fun j x => if f x < m then ind (f x = j) else v (f x - m) (we j)) j (fun x => if f x < m then 0 else -1))) m := by
      rw [← sg_mul, ← sg_mul]
      exact sg_cg (fun j hj => by rw [q2 j hj]; grind)
    generalize sg (fun j => cWt m v cS S we f j) m = W at *
    generalize sg (fun j => v 0 (we j) * dt m (up (fun j x => if f x < m then ind (f x = j) else v (f x - m) (we j)) j (fun x => if f x < m then 0 else -1))) m = W2 at *
    generalize cBy m v cS we f = B at *
    grind
theorem cor_red {N s D t : Int} (hN : 0 < N) (hs : 0 ≤ s) (hD : D ≠ 0) (h : N * t = D * s) : 0 < N.tdiv (Int.gcd s N) ∧ N.tdiv (Int.gcd s N) ≤ D.natAbs ∧ 0 ≤ s.tdiv (Int.gcd s N) ∧ s.tdiv (Int.gcd s N) ≤ t.natAbs ∧ Int.gcd (s.tdiv (Int.gcd s N)) (N.tdiv (Int.gcd s N)) = 1 ∧ s.tdiv (Int.gcd s N) * N = s * N.tdiv (Int.gcd s N) := by
  have hg : 0 < Int.gcd s N := Int.gcd_pos_iff.mpr (Or.inr (by omega))
  obtain ⟨p, hp⟩ := Int.gcd_dvd_left s N
  obtain ⟨q, hq⟩ := Int.gcd_dvd_right s N
  have hg2 : (0 : Int) < (Int.gcd s N : Int) := by omega
  have ep : s.tdiv (Int.gcd s N) = p := by
    have := Int.mul_tdiv_cancel_left p (show ((Int.gcd s N : Nat) : Int) ≠ 0 by omega)
    rw [← hp] at this
    exact this
  have eq : N.tdiv (Int.gcd s N) = q := by
    have := Int.mul_tdiv_cancel_left q (show ((Int.gcd s N : Nat) : Int) ≠ 0 by omega)
    rw [← hq] at this
    exact this
  rw [ep, eq]
  have h1 : Int.gcd p q = 1 := by
    have e := Int.gcd_mul_left ((Int.gcd s N : Nat) : Int) p q
    rw [← hp, ← hq, Int.natAbs_natCast] at e
    have h2 : Int.gcd s N * 1 = Int.gcd s N * Int.gcd p q := by omega
    exact (Nat.eq_of_mul_eq_mul_left hg h2).symm
  generalize Int.gcd s N = g at *
  have q0 : 0 < q := by
    refine Classical.byContradiction fun hn => ?_
    have := mul_nn (show 0 ≤ (g : Int) by omega) (show 0 ≤ - q by omega)
    rw [Int.mul_neg] at this
    omega
  have p0 : 0 ≤ p := by
    refine Classical.byContradiction fun hn => ?_
    have := Int.mul_pos hg2 (show 0 < - p by omega)
    rw [Int.mul_neg] at this
    omega
  have e1 : q * t = D * p := by
    refine Int.eq_of_mul_eq_mul_left (show (g : Int) ≠ 0 by omega) ?_
    rw [← Int.mul_assoc, ← hq, h, hp]
    grind
  have hle : q ≤ D.natAbs := by
    have d1 : q.natAbs ∣ D.natAbs * p.natAbs := ⟨t.natAbs, by rw [← Int.natAbs_mul, ← e1, Int.natAbs_mul]⟩
    have d2 : Nat.Coprime q.natAbs p.natAbs := by
      have : Nat.gcd p.natAbs q.natAbs = 1 := h1
      rw [Nat.gcd_comm] at this
      exact this
    have := Nat.le_of_dvd (by omega) (d2.dvd_of_dvd_mul_right d1)
    omega
  refine ⟨q0, hle, p0, ?_, h1, by rw [hp, hq]; grind⟩
  have e2 : (q.natAbs * t.natAbs : Nat) = D.natAbs * p.natAbs := by rw [← Int.natAbs_mul, e1, Int.natAbs_mul]
  have h5 : D.natAbs * p.natAbs ≤ D.natAbs * t.natAbs := by rw [← e2]; exact Nat.mul_le_mul_right _ (by omega)
  have := Nat.le_of_mul_le_mul_left h5 (by omega)
  omega
