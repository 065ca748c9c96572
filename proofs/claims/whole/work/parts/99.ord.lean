/-! ===== orders: all of them, and the next one ===== -/
def dfs (L : Nat) : Nat → List Nat → List (List Nat)
  | 0, pre => [pre]
  | r + 1, pre => (List.range L).flatMap (fun c => if (c + 1) ∈ pre then [] else dfs L r (pre ++ [c + 1]))
def PL (L : Nat) : List (List Nat) := dfs L L []
/-- an order as numbers at places, 0 at place 0 -/
def fnO (o : List Nat) : Nat → Nat
  | 0 => 0
  | k + 1 => o.getD k 0
def sw2 (o : Nat → Nat) (i j : Nat) : Nat → Nat := fun k => if k = j then o i else if k = i then o j else o k
def fiO (o : Nat → Nat) : Nat → Nat
  | 0 => 0
  | i + 1 => if o (i + 2) < o (i + 1) then fiO o i else i + 1
def fjO (o : Nat → Nat) (x : Nat) : Nat → Nat
  | 0 => 0
  | j + 1 => if o (j + 1) < x then fjO o x j else j + 1
def rvO : Nat → (Nat → Nat) → Nat → Nat → (Nat → Nat)
  | 0, o, _, _ => o
  | f + 1, o, lo, hi => if lo < hi then rvO f (sw2 o lo hi) (lo + 1) (hi - 1) else o
def nxO (L : Nat) (o : Nat → Nat) : Option (Nat → Nat) := if fiO o (L - 1) = 0 then none else some (rvO 6 (sw2 o (fiO o (L - 1)) (fjO o (o (fiO o (L - 1))) L)) (fiO o (L - 1) + 1) L)
def agO (L : Nat) (g h : Nat → Nat) : Bool := (List.range (L + 1)).all (fun k => g k == h k)
def okL (L : Nat) (o : List Nat) : Bool := (List.range L).all (fun k => Nat.ble 1 (fnO o (k + 1)) && Nat.ble (fnO o (k + 1)) L)
def chO (L : Nat) : List (List Nat) → Bool
  | [] => false
  | o :: t => okL L o && (match t with
    | [] => (match nxO L (fnO o) with | none => true | some _ => false)
    | o' :: _ => (match nxO L (fnO o) with | none => false | some g => agO L g (fnO o')) && chO L t)
theorem chO_1 : chO 1 (PL 1) = true := by decide +kernel
theorem chO_2 : chO 2 (PL 2) = true := by decide +kernel
theorem chO_3 : chO 3 (PL 3) = true := by decide +kernel
theorem chO_4 : chO 4 (PL 4) = true := by decide +kernel
theorem chO_5 : chO 5 (PL 5) = true := by decide +kernel
theorem PL_hd : (PL 1).head? = some [1] ∧ (PL 2).head? = some [1, 2] ∧ (PL 3).head? = some [1, 2, 3] ∧ (PL 4).head? = some [1, 2, 3, 4] ∧ (PL 5).head? = some [1, 2, 3, 4, 5] := by decide +kernel
theorem PL_ln : (PL 0).length = 1 ∧ (PL 1).length = 1 ∧ (PL 2).length = 2 ∧ (PL 3).length = 6 ∧ (PL 4).length = 24 ∧ (PL 5).length = 120 := by decide +kernel
theorem chO_all {L : Nat} (h1 : 1 ≤ L) (h5 : L ≤ 5) : chO L (PL L) = true := by
  rcases (show L = 1 ∨ L = 2 ∨ L = 3 ∨ L = 4 ∨ L = 5 by omega) with rfl | rfl | rfl | rfl | rfl
  · exact chO_1
  · exact chO_2
  · exact chO_3
  · exact chO_4
  · exact chO_5
theorem PL_len {L : Nat} (h5 : L ≤ 5) : (PL L).length ≤ 120 := by
  have h := PL_ln
  rcases (show L = 0 ∨ L = 1 ∨ L = 2 ∨ L = 3 ∨ L = 4 ∨ L = 5 by omega) with rfl | rfl | rfl | rfl | rfl | rfl <;> omega
def agP (L : Nat) (g h : Nat → Nat) : Prop := ∀ k, k ≤ L → g k = h k
theorem agO_is {L : Nat} {g h : Nat → Nat} (e : agO L g h = true) : agP L g h := by
  intro k hk
  unfold agO at e
  have := List.all_eq_true.mp e k (List.mem_range.mpr (by omega))
  exact beq_iff_eq.mp this
def oOK (L : Nat) (g : Nat → Nat) : Prop := g 0 = 0 ∧ ∀ k, 1 ≤ k → k ≤ L → 1 ≤ g k ∧ g k ≤ L
theorem okL_is {L : Nat} {o : List Nat} (e : okL L o = true) : oOK L (fnO o) := by
  refine ⟨rfl, fun k h1 h2 => ?_⟩
  unfold okL at e
  have := List.all_eq_true.mp e (k - 1) (List.mem_range.mpr (by omega))
  rw [show k - 1 + 1 = k by omega, Bool.and_eq_true, Nat.ble_eq, Nat.ble_eq] at this
  exact this
theorem chO_s {L : Nat} {o : List Nat} {t : List (List Nat)} (h : chO L (o :: t) = true) : oOK L (fnO o) ∧ ((t = [] ∧ nxO L (fnO o) = none) ∨ ∃ o' t' g, t = o' :: t' ∧ nxO L (fnO o) = some g ∧ agP L g (fnO o') ∧ chO L t = true) := by
  unfold chO at h
  rw [Bool.and_eq_true] at h
  refine ⟨okL_is h.1, ?_⟩
  cases t with
  | nil =>
    left
    refine ⟨rfl, ?_⟩
    have h2 := h.2
    simp only at h2
    cases hn : nxO L (fnO o) with
    | none => rfl
    | some g => rw [hn] at h2; cases h2
  | cons o' t' =>
    right
    have h2 := h.2
    simp only [Bool.and_eq_true] at h2
    cases hn : nxO L (fnO o) with
    | none => rw [hn] at h2; cases h2.1
    | some g => rw [hn] at h2; exact ⟨o', t', g, rfl, rfl, agO_is h2.1, h2.2⟩
/-- the orders that go step by step -/
def stp (L : Nat) (fl : Nat → Nat → Nat → Prop) (g : Nat → Nat) : Prop := ∀ a b, a ≤ L → b ≤ L → a ≠ b → ((a + 1 = b ∨ b + 1 = a) ↔ fl (g 1) (g a) (g b))
noncomputable def ofl (L : Nat) (fl : Nat → Nat → Nat → Prop) : List (List Nat) → List (List Nat)
  | [] => []
  | o :: t => cif (stp L fl (fnO o)) [o] [] ++ ofl L fl t
noncomputable def OrL (L : Nat) (fl : Nat → Nat → Nat → Prop) : List (List Nat) := ofl L fl (PL L)
theorem ofl_len (L : Nat) (fl : Nat → Nat → Nat → Prop) : ∀ t, (ofl L fl t).length ≤ t.length := by
  intro t
  induction t with
  | nil => exact Nat.le_refl _
  | cons o t ih =>
    unfold ofl
    rw [List.length_append, List.length_cons]
    have : (cif (stp L fl (fnO o)) [o] []).length ≤ 1 := by
      by_cases q : stp L fl (fnO o)
      · rw [cif_y q]; exact Nat.le_refl _
      · rw [cif_n q]; exact Nat.zero_le _
    omega
/-- one answer out of the list of orders -/
def orA (l : List (List Nat)) (L : Nat) (k : Int) : Int := if k = -1 then (l.length : Int) else match l[k.toNat]? with | some o => if 0 ≤ k then (nmF (fnO o) L : Int) else -5 | none => -5
