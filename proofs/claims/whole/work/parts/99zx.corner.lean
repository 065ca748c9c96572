/-! ===== PairSortsModel: corner ===== -/
/-- what holds of the numbers of the program -/
def LPc (L m : Nat) (al : Nat → Prop) (v : Nat → Nat → Int) (cS : Nat → Int) (S : Int) (we iw : Nat → Nat) : Prop := (L < 6 ∧ 0 < m ∧ m ≤ L) ∧ WE L m al we iw ∧ (0 < S ∧ S ≤ 60) ∧ (∀ i : Nat, 1 ≤ i → i ≤ L → 0 < cS i ∧ v 0 i * cS i = S) ∧ (∀ r i : Nat, r < L + 1 → i ≤ L → ((v r i).natAbs : Int) ≤ 13) ∧ (∀ r i : Nat, r < L + 1 → 1 ≤ i → i ≤ L → ((v r i * cS i).natAbs : Int) ≤ S) ∧ fct m * S ^ m ≤ 2916000000 ∧ ∀ c : Nat, c + 1 ≤ m → fct m * S ^ c ≤ 97200000
def Good (L : Nat) (al : Nat → Prop) (v : Nat → Nat → Int) (p q : Int) : Prop := (0 < q ∧ q ≤ 44555160) ∧ (0 ≤ p ∧ p ≤ 2940640560) ∧ Int.gcd p q = 1 ∧ ∃ d x, Fe L al v d x ∧ vl L v d x * q = p * d
theorem prb_c (C : Int) : ∀ m : Nat, prb (fun _ => C) m = C ^ m := by
  intro m
  induction m with
  | zero => rw [Int.pow_zero]; rfl
  | succ m ih => rw [show prb (fun _ => C) (m + 1) = prb (fun _ => C) m * C from rfl, ih, Int.pow_succ]
theorem LPc.ln {L m : Nat} {al : Nat → Prop} {v : Nat → Nat → Int} {cS : Nat → Int} {S : Int} {we iw : Nat → Nat} (h : LPc L m al v cS S we iw) {t j : Nat} (ht : t < m + L + 1) (hj : j < m) : ((lnE m v cS we t j).natAbs : Int) ≤ S := by
  obtain ⟨h1, hw, hS, hc, hv, hb, hU, hV⟩ := h
  unfold lnE
  by_cases q : t < m
  · rw [if_pos q]; unfold ind; split
    · show (1 : Int) ≤ S; omega
    · show (0 : Int) ≤ S; omega
  · rw [if_neg q]; exact hb _ _ (by omega) (hw.1 j hj).1 (hw.1 j hj).2.1
theorem rh_b {m : Nat} {S : Int} (hS : 0 < S) (t : Nat) : ((rhE m S t).natAbs : Int) ≤ S := by
  unfold rhE
  split
  · show (0 : Int) ≤ S; omega
  · omega
theorem LPc.by {L m : Nat} {al : Nat → Prop} {v : Nat → Nat → Int} {cS : Nat → Int} {S : Int} {we iw : Nat → Nat} (h : LPc L m al v cS S we iw) {f : Nat → Nat} (hf : ∀ k : Nat, k < m → f k < m + L + 1) : ((cBy m v cS we f).natAbs : Int) ≤ 2916000000 := by
  have h1 := dt_bd (m := m) (g := fun j x => lnE m v cS we (f x) j) (B := fun _ => S) (fun p x hp hx => h.ln (hf x hx) hp)
  rw [prb_c] at h1
  have := h.2.2.2.2.2.2.1
  unfold cBy
  omega
theorem LPc.wt {L m : Nat} {al : Nat → Prop} {v : Nat → Nat → Int} {cS : Nat → Int} {S : Int} {we iw : Nat → Nat} (h : LPc L m al v cS S we iw) {f : Nat → Nat} (hf : ∀ k : Nat, k < m → f k < m + L + 1) (j : Nat) : ((cWt m v cS S we f j).natAbs : Int) ≤ 2916000000 := by
  have h1 := dt_bd (m := m) (g := up (fun j x => lnE m v cS we (f x) j) j (fun x => rhE m S (f x))) (B := fun _ => S) (fun p x hp hx => by
    by_cases e : p = j
    · subst e; rw [up_y]; exact rh_b h.2.2.1.1 _
    · rw [up_n e]; exact h.ln (hf x hx) hp)
  rw [prb_c] at h1
  have := h.2.2.2.2.2.2.1
  unfold cWt
  omega
theorem sgI_01 (x : Int) : sgI x = 1 ∨ sgI x = -1 := by unfold sgI; split <;> omega
/-- the corner that may be: what it comes to in lowest terms -/
theorem Good.new {L m : Nat} {al : Nat → Prop} {v : Nat → Nat → Int} {cS : Nat → Int} {S : Int} {we iw : Nat → Nat} (h : LPc L m al v cS S we iw) {f : Nat → Nat} (hf : ∀ k : Nat, k < m → f k < m + L + 1) (h0 : cBy m v cS we f ≠ 0) (hF : cFit L m v cS S we (cBy m v cS we f).natAbs (fun j => sgI (cBy m v cS we f) * cWt m v cS S we f j)) : 0 ≤ ((cBy m v cS we f).natAbs : Int) + sg (fun j => sgI (cBy m v cS we f) * cWt m v cS S we f j) m ∧ Good L al v ((((cBy m v cS we f).natAbs : Int) + sg (fun j => sgI (cBy m v cS we f) * cWt m v cS S we f j) m).tdiv (Int.gcd (((cBy m v cS we f).natAbs : Int) + sg (fun j => sgI (cBy m v cS we f) * cWt m v cS S we f j) m) ((cBy m v cS we f).natAbs : Int))) (((cBy m v cS we f).natAbs : Int).tdiv (Int.gcd (((cBy m v cS we f).natAbs : Int) + sg (fun j => sgI (cBy m v cS we f) * cWt m v cS S we f j) m) ((cBy m v cS we f).natAbs : Int))) ∧ (((cBy m v cS we f).natAbs : Int) + sg (fun j => sgI (cBy m v cS we f) * cWt m v cS S we f j) m).tdiv (Int.gcd (((cBy m v cS we f).natAbs : Int) + sg (fun j => sgI (cBy m v cS we f) * cWt m v cS S we f j) m) ((cBy m v cS we f).natAbs : Int)) * ((cBy m v cS we f).natAbs : Int) = (((cBy m v cS we f).natAbs : Int) + sg (fun j => sgI (cBy m v cS we f) * cWt m v cS S we f j) m) * ((cBy m v cS we f).natAbs : Int).tdiv (Int.gcd (((cBy m v cS we f).natAbs : Int) + sg (fun j => sgI (cBy m v cS we f) * cWt m v cS S we f j) m) ((cBy m v cS we f).natAbs : Int)) := by
  obtain ⟨⟨hL, hm0, hm⟩, hw, ⟨hS0, hS6⟩, hc, hv, hb, hU, hV⟩ := id h
  obtain ⟨D, t, d1, d2, d3, d4⟩ := cor_low (S := S) (f := f) (by omega) hw (fun i a b => (hc i a b).1) (fun i a b => (hc i a b).2) hv hf h0
  obtain ⟨fe1, fe2⟩ := hF.fe hw hS0 (fun i a b => (hc i a b).1) (fun i a b => (hc i a b).2) (by omega)
  have hN : (0 : Int) < (cBy m v cS we f).natAbs := by omega
  have hs0 : 0 ≤ sg (fun j => sgI (cBy m v cS we f) * cWt m v cS S we f j) m := sg_nn (fun j hj => hF.1 j hj)
  have e1 : ((cBy m v cS we f).natAbs : Int) * t = D * (((cBy m v cS we f).natAbs : Int) + sg (fun j => sgI (cBy m v cS we f) * cWt m v cS S we f j) m) := by
    rw [sg_mul, ← sgI_mul, show sgI (cBy m v cS we f) * cBy m v cS we f * t = sgI (cBy m v cS we f) * (cBy m v cS we f * t) by grind, d4]
    grind
  generalize sg (fun j => sgI (cBy m v cS we f) * cWt m v cS S we f j) m = W at *
  generalize hNN : ((cBy m v cS we f).natAbs : Int) = N at *
  obtain ⟨r1, r2, r3, r4, r5, r6⟩ := cor_red hN (show 0 ≤ N + W by omega) d1 e1
  refine ⟨by omega, ⟨⟨r1, by omega⟩, ⟨r3, by omega⟩, r5, S * N, _, fe1, ?_⟩, r6⟩
  rw [fe2]
  generalize (N + W).tdiv (Int.gcd (N + W) N) = p at *
  generalize N.tdiv (Int.gcd (N + W) N) = q at *
  grind
