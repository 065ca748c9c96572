/-! ===== 32-bit numbers out of integers ===== -/
theorem ia_add (a b : Int) : Int32.ofInt a + Int32.ofInt b = Int32.ofInt (a + b) := (Int32.ofInt_add a b).symm
theorem ia_sub (a b : Int) : Int32.ofInt a - Int32.ofInt b = Int32.ofInt (a - b) := (Int32.ofInt_sub a b).symm
theorem ia_mul (a b : Int) : Int32.ofInt a * Int32.ofInt b = Int32.ofInt (a * b) := (Int32.ofInt_mul a b).symm
theorem ia_neg (a : Int) : -Int32.ofInt a = Int32.ofInt (-a) := (Int32.ofInt_neg a).symm
def rg (a : Int) : Prop := -2147483648 ≤ a ∧ a < 2147483648
theorem ia_to {a : Int} (h : rg a) : (Int32.ofInt a).toInt = a := by
  unfold rg at h
  rw [Int32.toInt_ofInt]
  have : (Int32.size : Int) = 4294967296 := rfl
  exact Int.bmod_eq_of_le_mul_two (by omega) (by omega)
theorem ia_of (x : Int32) : Int32.ofInt x.toInt = x := Int32.ofInt_toInt x
theorem ia_rg (x : Int32) : rg x.toInt := ⟨Int32.le_toInt x, Int32.toInt_lt x⟩
theorem ia_lt {a b : Int} (ha : rg a) (hb : rg b) : Int32.ofInt a < Int32.ofInt b ↔ a < b := by rw [Int32.lt_iff_toInt_lt, ia_to ha, ia_to hb]
theorem ia_le {a b : Int} (ha : rg a) (hb : rg b) : Int32.ofInt a ≤ Int32.ofInt b ↔ a ≤ b := by rw [Int32.le_iff_toInt_le, ia_to ha, ia_to hb]
theorem ia_eq {a b : Int} (ha : rg a) (hb : rg b) : Int32.ofInt a = Int32.ofInt b ↔ a = b := by
  constructor
  · intro h
    have := congrArg Int32.toInt h
    rwa [ia_to ha, ia_to hb] at this
  · intro h; rw [h]
theorem ia_0 : (0 : Int32) = Int32.ofInt 0 := rfl
theorem ia_1 : (1 : Int32) = Int32.ofInt 1 := rfl
theorem rg_0 : rg 0 := ⟨by omega, by omega⟩
theorem rg_i {a : Int} (h1 : -2147483648 ≤ a) (h2 : a < 2147483648) : rg a := ⟨h1, h2⟩
/-- a branch on two numbers -/
theorem if_le {a b : Int} {A B : Prop} (ha : rg a) (hb : rg b) (h1 : a ≤ b → A) (h2 : b < a → B) : if Int32.ofInt a ≤ Int32.ofInt b then A else B := by
  split
  · rename_i h; exact h1 ((ia_le ha hb).mp h)
  · rename_i h; exact h2 (by have := mt (ia_le ha hb).mpr h; omega)
theorem if_lt {a b : Int} {A B : Prop} (ha : rg a) (hb : rg b) (h1 : a < b → A) (h2 : b ≤ a → B) : if Int32.ofInt a < Int32.ofInt b then A else B := by
  split
  · rename_i h; exact h1 ((ia_lt ha hb).mp h)
  · rename_i h; exact h2 (by have := mt (ia_lt ha hb).mpr h; omega)
theorem if_eq {a b : Int} {A B : Prop} (ha : rg a) (hb : rg b) (h1 : a = b → A) (h2 : a ≠ b → B) : if Int32.ofInt a = Int32.ofInt b then A else B := by
  split
  · rename_i h; exact h1 ((ia_eq ha hb).mp h)
  · rename_i h; exact h2 (mt (ia_eq ha hb).mpr h)
theorem if_ne {a b : Int} {A B : Prop} (ha : rg a) (hb : rg b) (h1 : a ≠ b → A) (h2 : a = b → B) : if ¬ Int32.ofInt a = Int32.ofInt b then A else B := by
  split
  · rename_i h; exact h1 (mt (ia_eq ha hb).mpr h)
  · rename_i h; exact h2 ((ia_eq ha hb).mp (Decidable.not_not.mp h))
theorem if_lt0 {a : Int} {A B : Prop} (ha : rg a) (h1 : a < 0 → A) (h2 : 0 ≤ a → B) : if Int32.ofInt a < 0 then A else B := if_lt ha rg_0 h1 h2
theorem if_ge0 {a : Int} {A B : Prop} (ha : rg a) (h1 : 0 ≤ a → A) (h2 : a < 0 → B) : if 0 ≤ Int32.ofInt a then A else B := if_le rg_0 ha h1 h2
theorem if_gt0 {a : Int} {A B : Prop} (ha : rg a) (h1 : 0 < a → A) (h2 : a ≤ 0 → B) : if 0 < Int32.ofInt a then A else B := if_lt rg_0 ha h1 h2
theorem if_le0 {a : Int} {A B : Prop} (ha : rg a) (h1 : a ≤ 0 → A) (h2 : 0 < a → B) : if Int32.ofInt a ≤ 0 then A else B := if_le ha rg_0 h1 h2
theorem if_eq0 {a : Int} {A B : Prop} (ha : rg a) (h1 : a = 0 → A) (h2 : a ≠ 0 → B) : if Int32.ofInt a = 0 then A else B := if_eq ha rg_0 h1 h2
theorem if_ne0 {a : Int} {A B : Prop} (ha : rg a) (h1 : a ≠ 0 → A) (h2 : a = 0 → B) : if ¬ Int32.ofInt a = 0 then A else B := if_ne ha rg_0 h1 h2
theorem tn_of {j : Int} {k : Nat} (h : j = (k : Int)) (hk : k < 2147483648) : tn (Int32.ofInt j) = k := by
  unfold tn Int32.toNatClampNeg
  rw [ia_to (rg_i (by omega) (by omega)), h]
  rfl
theorem inb_of {j : Int} {n : Nat} (h0 : 0 ≤ j) (h1 : j < (n : Int)) (hn : n ≤ 2147483647) : inb (Int32.ofInt j) n := by
  unfold inb
  rintro (h | h)
  · rw [ia_0, ia_lt (rg_i (by omega) (by omega)) rg_0] at h
    omega
  · have : (Int32.ofInt j).toNatClampNeg = j.toNat := tn_of (k := j.toNat) (by omega) (by omega)
    rw [this] at h
    omega
/-- a loop that counts up -/
theorem up_to {R : Nat → Prop} {lo hi : Nat} (h : lo ≤ hi) (step : ∀ i, lo ≤ i → i < hi → R (i + 1) → R i) (last : R hi) : R lo := by
  obtain ⟨k, rfl⟩ : ∃ k, hi = lo + k := ⟨hi - lo, by omega⟩
  clear h
  induction k generalizing lo with
  | zero => exact last
  | succ k ih =>
    refine step lo (Nat.le_refl _) (by omega) (ih (lo := lo + 1) (fun i h1 h2 => step i (by omega) (by omega)) ?_)
    rw [show lo + 1 + k = lo + (k + 1) by omega]
    exact last
/-- a loop that counts down -/
theorem dn_to {R : Nat → Prop} {lo hi : Nat} (h : lo ≤ hi) (step : ∀ i, lo ≤ i → i < hi → R i → R (i + 1)) (last : R lo) : R hi := by
  obtain ⟨k, rfl⟩ : ∃ k, hi = lo + k := ⟨hi - lo, by omega⟩
  clear h
  induction k with
  | zero => exact last
  | succ k ih => exact step (lo + k) (by omega) (by omega) (ih (fun i h1 h2 => step i h1 (by omega)))
theorem sI_sI (w : aW) (a n m : Nat) (f g : Nat → Int32) : sI (sI w a n f) a m g = sI w a m g := by simp [sI, List.set_set]
theorem sZ_sZ (w : aW) (a n m : Nat) (f g : Nat → Int32) : sZ (sZ w a n f) a m g = sZ w a m g := by simp [sZ, List.set_set]
theorem sL_sL (w : aW) (a n m : Nat) (f g : Nat → Int64) : sL (sL w a n f) a m g = sL w a m g := by simp [sL, List.set_set]
theorem sO_sO (w : aW) (a n m : Nat) (f g : List Value) : sO (sO w a n f) a m g = sO w a m g := by simp [sO, List.set_set]
theorem sQ_sQ (w : aW) (a n m : Nat) (f g : Nat → Option Nat) : sQ (sQ w a n f) a m g = sQ w a m g := by simp [sQ, List.set_set]
theorem upd_at (f : Nat → Int32) (k : Nat) (v : Int32) : upd f k v k = v := by simp [upd]
theorem upd_ne (f : Nat → Int32) {k j : Nat} (v : Int32) (h : j ≠ k) : upd f k v j = f j := by simp [upd, h]
theorem sI_self {w : aW} {a n : Nat} {f : Nat → Int32} (h : gI w a = some (n, f)) : sI w a n f = w := by
  unfold gI at h
  split at h
  · rename_i h1
    cases h
    apply List.ext_getElem?
    intro i
    unfold sI
    rw [List.getElem?_set]
    by_cases hi : a = i
    · subst hi
      rw [if_pos rfl, h1, if_pos (List.getElem?_eq_some_iff.mp h1).1]
    · rw [if_neg hi]
  · cases h
theorem x_arraycopy {E : Nat × Nat} {K : Nat → List Value → aW → (Option Value → aW → Prop) → Prop} {M : aM} {go : Nat → List Value → List Value → aW → Prop} {Q : Option Value → aW → Prop} {pc len idx pl a b : Nat} {z : Int} {is : List aI} {L r : List Value} {w : aW} {n dp sp : Int32} : ex pD pY E K M go Q ((pc, .invokestatic idx, len, [pl], z) :: is) L (.int n :: .int dp :: .ref a :: .int sp :: .ref b :: r) w = oM (gI w b) (fun p => oM (gI w a) (fun q => ¬ (n < 0 ∨ dp < 0 ∨ sp < 0 ∨ p.1 < tn sp + tn n ∨ q.1 < tn dp + tn n ∨ 8 < aV_c r) ∧ ex pD pY E K M go Q is L r (sI w a q.1 (va_cpy p.2 q.2 (tn sp) (tn dp) (tn n))))) := by
  rw [ex_eq]
  simp only [nx]
  unfold gI sI
  generalize w[b]? = o
  generalize w[a]? = o2
  rcases o with _ | ⟨ty, n, f | f | f | f | f⟩ | ⟨c, fs⟩ <;> try rfl
  all_goals (cases ty <;> try rfl)
  all_goals (rcases o2 with _ | ⟨ty, n, f | f | f | f | f⟩ | ⟨c, fs⟩ <;> try rfl)
  all_goals (cases ty <;> try rfl)
  all_goals (rw [exO_if]; exact if_F)
theorem x_aaload {E : Nat × Nat} {K : Nat → List Value → aW → (Option Value → aW → Prop) → Prop} {M : aM} {go : Nat → List Value → List Value → aW → Prop} {Q : Option Value → aW → Prop} {pc len a : Nat} {as : List Nat} {z : Int} {is : List aI} {L r : List Value} {w : aW} {j : Int32} : ex pD pY E K M go Q ((pc, .aaload, len, as, z) :: is) L (.int j :: .ref a :: r) w = oM (gQ w a) (fun q => inb j q.1 ∧ oM (q.2 (tn j)) (fun b => ex pD pY E K M go Q is L (.ref b :: r) w)) := by
  rw [ex_eq]
  simp only [nx]
  unfold gQ
  generalize w[a]? = o
  rcases o with _ | ⟨ty, n, f | f | f | f | f⟩ | ⟨c, fs⟩ <;> try rfl
  all_goals (cases ty <;> try rfl)
  rename_i C
  by_cases hC : C = "PairSorts$Table"
  · simp only [hC, not_true, or_false, if_true]
    rw [exO_if]
    simp only [oM_some]
    show (if j < 0 ∨ n ≤ j.toNatClampNeg then False else _) = (inb j n ∧ _)
    rw [if_F]
    unfold inb
    congr 1
    show _ = oM (f j.toNatClampNeg) _
    cases f j.toNatClampNeg <;> rfl
  · simp only [hC, not_false_iff, or_true, if_true, if_false]
    rfl
theorem ia_rgn (k : Nat) (h : k < 2147483648) : rg (k : Int) := ⟨by omega, by omega⟩
theorem sZ_self {w : aW} {a n : Nat} {f : Nat → Int32} (h : gZ w a = some (n, f)) : sZ w a n f = w := by
  unfold gZ at h
  split at h
  · rename_i h1
    cases h
    apply List.ext_getElem?
    intro i
    unfold sZ
    rw [List.getElem?_set]
    by_cases hi : a = i
    · subst hi
      rw [if_pos rfl, h1, if_pos (List.getElem?_eq_some_iff.mp h1).1]
    · rw [if_neg hi]
  · cases h
theorem sO_self {w : aW} {a c : Nat} {fs : List Value} (h : gO w a = some (c, fs)) : sO w a c fs = w := by
  unfold gO at h
  split at h
  · rename_i h1
    cases h
    apply List.ext_getElem?
    intro i
    unfold sO
    rw [List.getElem?_set]
    by_cases hi : a = i
    · subst hi
      rw [if_pos rfl, h1, if_pos (List.getElem?_eq_some_iff.mp h1).1]
    · rw [if_neg hi]
  · cases h
theorem sL_self {w : aW} {a n : Nat} {f : Nat → Int64} (h : gL w a = some (n, f)) : sL w a n f = w := by
  unfold gL at h
  split at h
  · rename_i h1
    cases h
    apply List.ext_getElem?
    intro i
    unfold sL
    rw [List.getElem?_set]
    by_cases hi : a = i
    · subst hi
      rw [if_pos rfl, h1, if_pos (List.getElem?_eq_some_iff.mp h1).1]
    · rw [if_neg hi]
  · cases h
theorem ia_10 : (Int32.ofInt 1 = 0) = False := by decide
theorem ia_00 : (Int32.ofInt 0 = 0) = True := by decide
