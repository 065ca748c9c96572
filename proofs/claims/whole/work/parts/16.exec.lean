/-! ===== STEPS AS EQUATIONS (written by gen_x.py) ===== -/
theorem ru_at {E : Nat × Nat} {K : Nat → List Value → aW → (Option Value → aW → Prop) → Prop} {M : aM} {b : List aI} (hK : aK_mono K) {Q : Option Value → aW → Prop} {pc : Nat} {L st : List Value} {w : aW} (hb : a_blk M pc = b) (h : ex pD pY E K M (Ru pD pY E K M Q) Q b L st w) : Ru pD pY E K M Q pc L st w := ru_in hK (by rw [hb]; exact h)
theorem cl_at {d mi : Nat} {M : aM} {as L : List Value} {w : aW} {Q : Option Value → aW → Prop} (hM : pM mi = M) (hl : (aL_in as).length ≤ M.2.2.1) (hL : aL_0 M.2.2.1 as = L) (h : ∀ E, E = (w.length + M.2.2.2.2.1.1, aW_s w + M.2.2.2.2.1.2) → Ru pD pY E (cL d) M Q 0 L [] w) : cL (d + 1) mi as w Q := by
  subst hM
  subst hL
  exact ⟨hl, h _ rfl⟩
/-- a contract: at every depth from d on, the answer and the world are as P says -/
def Ct (d mi : Nat) (as : List Value) (w : aW) (P : Option Value → aW → Prop) : Prop := ∀ d', d ≤ d' → ∀ Q : Option Value → aW → Prop, (∀ r w', P r w' → Q r w') → cL d' mi as w Q
theorem Ct.of {d mi : Nat} {as : List Value} {w : aW} {P : Option Value → aW → Prop} (h : ∀ d', d ≤ d' → ∀ Q : Option Value → aW → Prop, (∀ r w', P r w' → Q r w') → cL (d' + 1) mi as w Q) : Ct (d + 1) mi as w P := by
  intro d' hd Q hQ
  obtain ⟨e, rfl⟩ : ∃ e, d' = e + 1 := ⟨d' - 1, by omega⟩
  exact h e (by omega) Q hQ
theorem Ct.go {d d' mi : Nat} {as : List Value} {w : aW} {P Q : Option Value → aW → Prop} (h : Ct d mi as w P) (hd : d ≤ d') (hQ : ∀ r w', P r w' → Q r w') : cL d' mi as w Q := h d' hd Q hQ
theorem Ct.mono {d d' mi : Nat} {as : List Value} {w : aW} {P P' : Option Value → aW → Prop} (h : Ct d mi as w P) (hd : d ≤ d') (hP : ∀ r w', P r w' → P' r w') : Ct d' mi as w P' := fun e he Q hQ => h e (by omega) Q (fun r w' hp => hQ r w' (hP r w' hp))
def exO (E : Nat × Nat) (K : Nat → List Value → aW → (Option Value → aW → Prop) → Prop) (M : aM) (go : Nat → List Value → List Value → aW → Prop) (Q : Option Value → aW → Prop) (is : List aI) (L : List Value) (w : aW) : Option aO → Prop
  | none => False
  | some (.inl q) => ex pD pY E K M go Q is q.1 q.2.1 q.2.2
  | some (.inr (.inl q)) => go q.1 q.2.1 q.2.2.1 q.2.2.2
  | some (.inr (.inr (.inl q))) => Q q.1 q.2
  | some (.inr (.inr (.inr q))) => K q.1 q.2.1 w (fun r w' => ex pD pY E K M go Q is L (r.toList ++ q.2.2) w')
theorem ex_eq {E : Nat × Nat} {K : Nat → List Value → aW → (Option Value → aW → Prop) → Prop} {M : aM} {go : Nat → List Value → List Value → aW → Prop} {Q : Option Value → aW → Prop} {i : aI} {is : List aI} {L st : List Value} {w : aW} : ex pD pY E K M go Q (i :: is) L st w = exO E K M go Q is L w (nx pD pY E M i L st w) := by
  rw [ex]
  cases nx pD pY E M i L st w with
  | none => rfl
  | some q => rcases q with q | q | q | q <;> rfl
theorem exO_if {E : Nat × Nat} {K : Nat → List Value → aW → (Option Value → aW → Prop) → Prop} {M : aM} {go : Nat → List Value → List Value → aW → Prop} {Q : Option Value → aW → Prop} {is : List aI} {L : List Value} {w : aW} {c : Prop} [Decidable c] {x y : Option aO} : exO E K M go Q is L w (if c then x else y) = if c then exO E K M go Q is L w x else exO E K M go Q is L w y := by split <;> rfl
theorem if_F {c : Prop} [Decidable c] {p : Prop} : (if c then False else p) = (¬ c ∧ p) := by by_cases h : c <;> simp [h]
theorem if_T {c : Prop} [Decidable c] {p : Prop} : (if c then p else False) = (c ∧ p) := by by_cases h : c <;> simp [h]
/-- reading and writing cells -/
def gO (w : aW) (a : Nat) : Option (Nat × List Value) := match w[a]? with
  | some (.inr q) => some q
  | _ => none
def gI (w : aW) (a : Nat) : Option (Nat × (Nat → Int32)) := match w[a]? with
  | some (.inl (.int, n, .inl f)) => some (n, f)
  | _ => none
def gZ (w : aW) (a : Nat) : Option (Nat × (Nat → Int32)) := match w[a]? with
  | some (.inl (.boolean, n, .inl f)) => some (n, f)
  | _ => none
def gL (w : aW) (a : Nat) : Option (Nat × (Nat → Int64)) := match w[a]? with
  | some (.inl (.long, n, .inr (.inl f))) => some (n, f)
  | _ => none
def gQ (w : aW) (a : Nat) : Option (Nat × (Nat → Option Nat)) := match w[a]? with
  | some (.inl (.object C, n, .inr (.inr (.inr (.inr f))))) => if C = "PairSorts$Table" then some (n, f) else none
  | _ => none
def gN (w : aW) (a : Nat) : Option Nat := match w[a]? with
  | some (.inl (.int, n, _)) => some n
  | some (.inl (.long, n, _)) => some n
  | _ => none
def sO (w : aW) (a c : Nat) (fs : List Value) : aW := w.set a (.inr (c, fs))
def sI (w : aW) (a n : Nat) (f : Nat → Int32) : aW := w.set a (.inl (.int, n, .inl f))
def sZ (w : aW) (a n : Nat) (f : Nat → Int32) : aW := w.set a (.inl (.boolean, n, .inl f))
def sL (w : aW) (a n : Nat) (f : Nat → Int64) : aW := w.set a (.inl (.long, n, .inr (.inl f)))
def sQ (w : aW) (a n : Nat) (f : Nat → Option Nat) : aW := w.set a (.inl (.object "PairSorts$Table", n, .inr (.inr (.inr (.inr f)))))
def oM {α : Type} (o : Option α) (p : α → Prop) : Prop := match o with
  | some a => p a
  | none => False
theorem oM_some {α : Type} {a : α} {p : α → Prop} : oM (some a) p = p a := rfl
def tn (j : Int32) : Nat := j.toNatClampNeg
def inb (j : Int32) (n : Nat) : Prop := ¬ (j < 0 ∨ n ≤ j.toNatClampNeg)
theorem len_sO (w : aW) (a : Nat) (c0 : Nat) (fs0 : List Value) : (sO w a c0 fs0).length = w.length := by simp [sO]
theorem len_sI (w : aW) (a : Nat) (n0 : Nat) (f0 : Nat → Int32) : (sI w a n0 f0).length = w.length := by simp [sI]
theorem len_sZ (w : aW) (a : Nat) (n0 : Nat) (f0 : Nat → Int32) : (sZ w a n0 f0).length = w.length := by simp [sZ]
theorem len_sL (w : aW) (a : Nat) (n0 : Nat) (f0 : Nat → Int64) : (sL w a n0 f0).length = w.length := by simp [sL]
theorem len_sQ (w : aW) (a : Nat) (n0 : Nat) (f0 : Nat → Option Nat) : (sQ w a n0 f0).length = w.length := by simp [sQ]
theorem gO_sO_ne (w : aW) (a b : Nat) (c0 : Nat) (fs0 : List Value) (h : a ≠ b) : gO (sO w a c0 fs0) b = gO w b := by unfold gO sO; rw [List.getElem?_set_ne h]
theorem gO_sI_ne (w : aW) (a b : Nat) (n0 : Nat) (f0 : Nat → Int32) (h : a ≠ b) : gO (sI w a n0 f0) b = gO w b := by unfold gO sI; rw [List.getElem?_set_ne h]
theorem gO_sZ_ne (w : aW) (a b : Nat) (n0 : Nat) (f0 : Nat → Int32) (h : a ≠ b) : gO (sZ w a n0 f0) b = gO w b := by unfold gO sZ; rw [List.getElem?_set_ne h]
theorem gO_sL_ne (w : aW) (a b : Nat) (n0 : Nat) (f0 : Nat → Int64) (h : a ≠ b) : gO (sL w a n0 f0) b = gO w b := by unfold gO sL; rw [List.getElem?_set_ne h]
theorem gO_sQ_ne (w : aW) (a b : Nat) (n0 : Nat) (f0 : Nat → Option Nat) (h : a ≠ b) : gO (sQ w a n0 f0) b = gO w b := by unfold gO sQ; rw [List.getElem?_set_ne h]
theorem gI_sO_ne (w : aW) (a b : Nat) (c0 : Nat) (fs0 : List Value) (h : a ≠ b) : gI (sO w a c0 fs0) b = gI w b := by unfold gI sO; rw [List.getElem?_set_ne h]
theorem gI_sI_ne (w : aW) (a b : Nat) (n0 : Nat) (f0 : Nat → Int32) (h : a ≠ b) : gI (sI w a n0 f0) b = gI w b := by unfold gI sI; rw [List.getElem?_set_ne h]
theorem gI_sZ_ne (w : aW) (a b : Nat) (n0 : Nat) (f0 : Nat → Int32) (h : a ≠ b) : gI (sZ w a n0 f0) b = gI w b := by unfold gI sZ; rw [List.getElem?_set_ne h]
theorem gI_sL_ne (w : aW) (a b : Nat) (n0 : Nat) (f0 : Nat → Int64) (h : a ≠ b) : gI (sL w a n0 f0) b = gI w b := by unfold gI sL; rw [List.getElem?_set_ne h]
theorem gI_sQ_ne (w : aW) (a b : Nat) (n0 : Nat) (f0 : Nat → Option Nat) (h : a ≠ b) : gI (sQ w a n0 f0) b = gI w b := by unfold gI sQ; rw [List.getElem?_set_ne h]
theorem gZ_sO_ne (w : aW) (a b : Nat) (c0 : Nat) (fs0 : List Value) (h : a ≠ b) : gZ (sO w a c0 fs0) b = gZ w b := by unfold gZ sO; rw [List.getElem?_set_ne h]
theorem gZ_sI_ne (w : aW) (a b : Nat) (n0 : Nat) (f0 : Nat → Int32) (h : a ≠ b) : gZ (sI w a n0 f0) b = gZ w b := by unfold gZ sI; rw [List.getElem?_set_ne h]
theorem gZ_sZ_ne (w : aW) (a b : Nat) (n0 : Nat) (f0 : Nat → Int32) (h : a ≠ b) : gZ (sZ w a n0 f0) b = gZ w b := by unfold gZ sZ; rw [List.getElem?_set_ne h]
theorem gZ_sL_ne (w : aW) (a b : Nat) (n0 : Nat) (f0 : Nat → Int64) (h : a ≠ b) : gZ (sL w a n0 f0) b = gZ w b := by unfold gZ sL; rw [List.getElem?_set_ne h]
theorem gZ_sQ_ne (w : aW) (a b : Nat) (n0 : Nat) (f0 : Nat → Option Nat) (h : a ≠ b) : gZ (sQ w a n0 f0) b = gZ w b := by unfold gZ sQ; rw [List.getElem?_set_ne h]
theorem gL_sO_ne (w : aW) (a b : Nat) (c0 : Nat) (fs0 : List Value) (h : a ≠ b) : gL (sO w a c0 fs0) b = gL w b := by unfold gL sO; rw [List.getElem?_set_ne h]
theorem gL_sI_ne (w : aW) (a b : Nat) (n0 : Nat) (f0 : Nat → Int32) (h : a ≠ b) : gL (sI w a n0 f0) b = gL w b := by unfold gL sI; rw [List.getElem?_set_ne h]
theorem gL_sZ_ne (w : aW) (a b : Nat) (n0 : Nat) (f0 : Nat → Int32) (h : a ≠ b) : gL (sZ w a n0 f0) b = gL w b := by unfold gL sZ; rw [List.getElem?_set_ne h]
theorem gL_sL_ne (w : aW) (a b : Nat) (n0 : Nat) (f0 : Nat → Int64) (h : a ≠ b) : gL (sL w a n0 f0) b = gL w b := by unfold gL sL; rw [List.getElem?_set_ne h]
theorem gL_sQ_ne (w : aW) (a b : Nat) (n0 : Nat) (f0 : Nat → Option Nat) (h : a ≠ b) : gL (sQ w a n0 f0) b = gL w b := by unfold gL sQ; rw [List.getElem?_set_ne h]
theorem gQ_sO_ne (w : aW) (a b : Nat) (c0 : Nat) (fs0 : List Value) (h : a ≠ b) : gQ (sO w a c0 fs0) b = gQ w b := by unfold gQ sO; rw [List.getElem?_set_ne h]
theorem gQ_sI_ne (w : aW) (a b : Nat) (n0 : Nat) (f0 : Nat → Int32) (h : a ≠ b) : gQ (sI w a n0 f0) b = gQ w b := by unfold gQ sI; rw [List.getElem?_set_ne h]
theorem gQ_sZ_ne (w : aW) (a b : Nat) (n0 : Nat) (f0 : Nat → Int32) (h : a ≠ b) : gQ (sZ w a n0 f0) b = gQ w b := by unfold gQ sZ; rw [List.getElem?_set_ne h]
theorem gQ_sL_ne (w : aW) (a b : Nat) (n0 : Nat) (f0 : Nat → Int64) (h : a ≠ b) : gQ (sL w a n0 f0) b = gQ w b := by unfold gQ sL; rw [List.getElem?_set_ne h]
theorem gQ_sQ_ne (w : aW) (a b : Nat) (n0 : Nat) (f0 : Nat → Option Nat) (h : a ≠ b) : gQ (sQ w a n0 f0) b = gQ w b := by unfold gQ sQ; rw [List.getElem?_set_ne h]
theorem gN_sO_ne (w : aW) (a b : Nat) (c0 : Nat) (fs0 : List Value) (h : a ≠ b) : gN (sO w a c0 fs0) b = gN w b := by unfold gN sO; rw [List.getElem?_set_ne h]
theorem gN_sI_ne (w : aW) (a b : Nat) (n0 : Nat) (f0 : Nat → Int32) (h : a ≠ b) : gN (sI w a n0 f0) b = gN w b := by unfold gN sI; rw [List.getElem?_set_ne h]
theorem gN_sZ_ne (w : aW) (a b : Nat) (n0 : Nat) (f0 : Nat → Int32) (h : a ≠ b) : gN (sZ w a n0 f0) b = gN w b := by unfold gN sZ; rw [List.getElem?_set_ne h]
theorem gN_sL_ne (w : aW) (a b : Nat) (n0 : Nat) (f0 : Nat → Int64) (h : a ≠ b) : gN (sL w a n0 f0) b = gN w b := by unfold gN sL; rw [List.getElem?_set_ne h]
theorem gN_sQ_ne (w : aW) (a b : Nat) (n0 : Nat) (f0 : Nat → Option Nat) (h : a ≠ b) : gN (sQ w a n0 f0) b = gN w b := by unfold gN sQ; rw [List.getElem?_set_ne h]
theorem gO_sO_at (w : aW) (a : Nat) (c0 : Nat) (fs0 : List Value) (h : a < w.length) : gO (sO w a c0 fs0) a = some (c0, fs0) := by unfold gO sO; rw [List.getElem?_set_self h]
theorem gI_sI_at (w : aW) (a : Nat) (n0 : Nat) (f0 : Nat → Int32) (h : a < w.length) : gI (sI w a n0 f0) a = some (n0, f0) := by unfold gI sI; rw [List.getElem?_set_self h]
theorem gZ_sZ_at (w : aW) (a : Nat) (n0 : Nat) (f0 : Nat → Int32) (h : a < w.length) : gZ (sZ w a n0 f0) a = some (n0, f0) := by unfold gZ sZ; rw [List.getElem?_set_self h]
theorem gL_sL_at (w : aW) (a : Nat) (n0 : Nat) (f0 : Nat → Int64) (h : a < w.length) : gL (sL w a n0 f0) a = some (n0, f0) := by unfold gL sL; rw [List.getElem?_set_self h]
theorem gQ_sQ_at (w : aW) (a : Nat) (n0 : Nat) (f0 : Nat → Option Nat) (h : a < w.length) : gQ (sQ w a n0 f0) a = some (n0, f0) := by unfold gQ sQ; rw [List.getElem?_set_self h]; simp
theorem gN_sI_at (w : aW) (a : Nat) (n0 : Nat) (f0 : Nat → Int32) (h : a < w.length) : gN (sI w a n0 f0) a = some n0 := by unfold gN sI; rw [List.getElem?_set_self h]
theorem gN_sL_at (w : aW) (a : Nat) (n0 : Nat) (f0 : Nat → Int64) (h : a < w.length) : gN (sL w a n0 f0) a = some n0 := by unfold gN sL; rw [List.getElem?_set_self h]
theorem gI_lt {w : aW} {a : Nat} {q : Nat × (Nat → Int32)} (h : gI w a = some q) : a < w.length := by
  unfold gI at h
  split at h
  · rename_i h1; exact (List.getElem?_eq_some_iff.mp h1).1
  · cases h
theorem gO_lt {w : aW} {a : Nat} {q : Nat × List Value} (h : gO w a = some q) : a < w.length := by
  unfold gO at h
  split at h
  · rename_i h1; exact (List.getElem?_eq_some_iff.mp h1).1
  · cases h
theorem gI_gN {w : aW} {a : Nat} {q : Nat × (Nat → Int32)} (h : gI w a = some q) : gN w a = some q.1 := by
  unfold gI at h
  split at h
  · rename_i h1; cases h; unfold gN; rw [h1]
  · cases h
theorem gL_gN {w : aW} {a : Nat} {q : Nat × (Nat → Int64)} (h : gL w a = some q) : gN w a = some q.1 := by
  unfold gL at h
  split at h
  · rename_i h1; cases h; unfold gN; rw [h1]
  · cases h
theorem gO_ne_gI {w : aW} {a b : Nat} {q : Nat × List Value} {q2 : Nat × (Nat → Int32)} (h : gO w a = some q) (h2 : gI w b = some q2) : a ≠ b := by
  intro e
  subst e
  unfold gO at h
  unfold gI at h2
  split at h
  · rename_i h1; rw [h1] at h2; cases h2
  · cases h
section XS
variable {E : Nat × Nat} {K : Nat → List Value → aW → (Option Value → aW → Prop) → Prop} {M : aM} {go : Nat → List Value → List Value → aW → Prop} {Q : Option Value → aW → Prop} {pc len : Nat} {as : List Nat} {z : Int} {is : List aI} {L r st : List Value} {w : aW}
theorem x_iload_0 {x : Int32} : ex pD pY E K M go Q ((pc, .iload_n 0, len, as, z) :: is) (.int x :: r) st w = ex pD pY E K M go Q is (.int x :: r) (.int x :: st) w := rfl
theorem x_iload_1 {v0 : Value} {x : Int32} : ex pD pY E K M go Q ((pc, .iload_n 1, len, as, z) :: is) (v0 :: .int x :: r) st w = ex pD pY E K M go Q is (v0 :: .int x :: r) (.int x :: st) w := rfl
theorem x_iload_2 {v0 v1 : Value} {x : Int32} : ex pD pY E K M go Q ((pc, .iload_n 2, len, as, z) :: is) (v0 :: v1 :: .int x :: r) st w = ex pD pY E K M go Q is (v0 :: v1 :: .int x :: r) (.int x :: st) w := rfl
theorem x_iload_3 {v0 v1 v2 : Value} {x : Int32} : ex pD pY E K M go Q ((pc, .iload_n 3, len, as, z) :: is) (v0 :: v1 :: v2 :: .int x :: r) st w = ex pD pY E K M go Q is (v0 :: v1 :: v2 :: .int x :: r) (.int x :: st) w := rfl
theorem x_iload_4 {v0 v1 v2 v3 : Value} {x : Int32} : ex pD pY E K M go Q ((pc, .iload 4, len, as, z) :: is) (v0 :: v1 :: v2 :: v3 :: .int x :: r) st w = ex pD pY E K M go Q is (v0 :: v1 :: v2 :: v3 :: .int x :: r) (.int x :: st) w := rfl
theorem x_iload_5 {v0 v1 v2 v3 v4 : Value} {x : Int32} : ex pD pY E K M go Q ((pc, .iload 5, len, as, z) :: is) (v0 :: v1 :: v2 :: v3 :: v4 :: .int x :: r) st w = ex pD pY E K M go Q is (v0 :: v1 :: v2 :: v3 :: v4 :: .int x :: r) (.int x :: st) w := rfl
theorem x_iload_6 {v0 v1 v2 v3 v4 v5 : Value} {x : Int32} : ex pD pY E K M go Q ((pc, .iload 6, len, as, z) :: is) (v0 :: v1 :: v2 :: v3 :: v4 :: v5 :: .int x :: r) st w = ex pD pY E K M go Q is (v0 :: v1 :: v2 :: v3 :: v4 :: v5 :: .int x :: r) (.int x :: st) w := rfl
theorem x_iload_7 {v0 v1 v2 v3 v4 v5 v6 : Value} {x : Int32} : ex pD pY E K M go Q ((pc, .iload 7, len, as, z) :: is) (v0 :: v1 :: v2 :: v3 :: v4 :: v5 :: v6 :: .int x :: r) st w = ex pD pY E K M go Q is (v0 :: v1 :: v2 :: v3 :: v4 :: v5 :: v6 :: .int x :: r) (.int x :: st) w := rfl
theorem x_iload_8 {v0 v1 v2 v3 v4 v5 v6 v7 : Value} {x : Int32} : ex pD pY E K M go Q ((pc, .iload 8, len, as, z) :: is) (v0 :: v1 :: v2 :: v3 :: v4 :: v5 :: v6 :: v7 :: .int x :: r) st w = ex pD pY E K M go Q is (v0 :: v1 :: v2 :: v3 :: v4 :: v5 :: v6 :: v7 :: .int x :: r) (.int x :: st) w := rfl
theorem x_iload_9 {v0 v1 v2 v3 v4 v5 v6 v7 v8 : Value} {x : Int32} : ex pD pY E K M go Q ((pc, .iload 9, len, as, z) :: is) (v0 :: v1 :: v2 :: v3 :: v4 :: v5 :: v6 :: v7 :: v8 :: .int x :: r) st w = ex pD pY E K M go Q is (v0 :: v1 :: v2 :: v3 :: v4 :: v5 :: v6 :: v7 :: v8 :: .int x :: r) (.int x :: st) w := rfl
theorem x_iload_10 {v0 v1 v2 v3 v4 v5 v6 v7 v8 v9 : Value} {x : Int32} : ex pD pY E K M go Q ((pc, .iload 10, len, as, z) :: is) (v0 :: v1 :: v2 :: v3 :: v4 :: v5 :: v6 :: v7 :: v8 :: v9 :: .int x :: r) st w = ex pD pY E K M go Q is (v0 :: v1 :: v2 :: v3 :: v4 :: v5 :: v6 :: v7 :: v8 :: v9 :: .int x :: r) (.int x :: st) w := rfl
theorem x_iload_11 {v0 v1 v2 v3 v4 v5 v6 v7 v8 v9 v10 : Value} {x : Int32} : ex pD pY E K M go Q ((pc, .iload 11, len, as, z) :: is) (v0 :: v1 :: v2 :: v3 :: v4 :: v5 :: v6 :: v7 :: v8 :: v9 :: v10 :: .int x :: r) st w = ex pD pY E K M go Q is (v0 :: v1 :: v2 :: v3 :: v4 :: v5 :: v6 :: v7 :: v8 :: v9 :: v10 :: .int x :: r) (.int x :: st) w := rfl
theorem x_lload_0 {x : Int64} : ex pD pY E K M go Q ((pc, .lload_n 0, len, as, z) :: is) (.long x :: r) st w = ex pD pY E K M go Q is (.long x :: r) (.long x :: st) w := rfl
theorem x_lload_1 {v0 : Value} {x : Int64} : ex pD pY E K M go Q ((pc, .lload_n 1, len, as, z) :: is) (v0 :: .long x :: r) st w = ex pD pY E K M go Q is (v0 :: .long x :: r) (.long x :: st) w := rfl
theorem x_lload_2 {v0 v1 : Value} {x : Int64} : ex pD pY E K M go Q ((pc, .lload_n 2, len, as, z) :: is) (v0 :: v1 :: .long x :: r) st w = ex pD pY E K M go Q is (v0 :: v1 :: .long x :: r) (.long x :: st) w := rfl
theorem x_lload_3 {v0 v1 v2 : Value} {x : Int64} : ex pD pY E K M go Q ((pc, .lload_n 3, len, as, z) :: is) (v0 :: v1 :: v2 :: .long x :: r) st w = ex pD pY E K M go Q is (v0 :: v1 :: v2 :: .long x :: r) (.long x :: st) w := rfl
theorem x_lload_4 {v0 v1 v2 v3 : Value} {x : Int64} : ex pD pY E K M go Q ((pc, .lload 4, len, as, z) :: is) (v0 :: v1 :: v2 :: v3 :: .long x :: r) st w = ex pD pY E K M go Q is (v0 :: v1 :: v2 :: v3 :: .long x :: r) (.long x :: st) w := rfl
theorem x_lload_5 {v0 v1 v2 v3 v4 : Value} {x : Int64} : ex pD pY E K M go Q ((pc, .lload 5, len, as, z) :: is) (v0 :: v1 :: v2 :: v3 :: v4 :: .long x :: r) st w = ex pD pY E K M go Q is (v0 :: v1 :: v2 :: v3 :: v4 :: .long x :: r) (.long x :: st) w := rfl
theorem x_lload_6 {v0 v1 v2 v3 v4 v5 : Value} {x : Int64} : ex pD pY E K M go Q ((pc, .lload 6, len, as, z) :: is) (v0 :: v1 :: v2 :: v3 :: v4 :: v5 :: .long x :: r) st w = ex pD pY E K M go Q is (v0 :: v1 :: v2 :: v3 :: v4 :: v5 :: .long x :: r) (.long x :: st) w := rfl
theorem x_lload_7 {v0 v1 v2 v3 v4 v5 v6 : Value} {x : Int64} : ex pD pY E K M go Q ((pc, .lload 7, len, as, z) :: is) (v0 :: v1 :: v2 :: v3 :: v4 :: v5 :: v6 :: .long x :: r) st w = ex pD pY E K M go Q is (v0 :: v1 :: v2 :: v3 :: v4 :: v5 :: v6 :: .long x :: r) (.long x :: st) w := rfl
theorem x_lload_8 {v0 v1 v2 v3 v4 v5 v6 v7 : Value} {x : Int64} : ex pD pY E K M go Q ((pc, .lload 8, len, as, z) :: is) (v0 :: v1 :: v2 :: v3 :: v4 :: v5 :: v6 :: v7 :: .long x :: r) st w = ex pD pY E K M go Q is (v0 :: v1 :: v2 :: v3 :: v4 :: v5 :: v6 :: v7 :: .long x :: r) (.long x :: st) w := rfl
theorem x_lload_9 {v0 v1 v2 v3 v4 v5 v6 v7 v8 : Value} {x : Int64} : ex pD pY E K M go Q ((pc, .lload 9, len, as, z) :: is) (v0 :: v1 :: v2 :: v3 :: v4 :: v5 :: v6 :: v7 :: v8 :: .long x :: r) st w = ex pD pY E K M go Q is (v0 :: v1 :: v2 :: v3 :: v4 :: v5 :: v6 :: v7 :: v8 :: .long x :: r) (.long x :: st) w := rfl
theorem x_lload_10 {v0 v1 v2 v3 v4 v5 v6 v7 v8 v9 : Value} {x : Int64} : ex pD pY E K M go Q ((pc, .lload 10, len, as, z) :: is) (v0 :: v1 :: v2 :: v3 :: v4 :: v5 :: v6 :: v7 :: v8 :: v9 :: .long x :: r) st w = ex pD pY E K M go Q is (v0 :: v1 :: v2 :: v3 :: v4 :: v5 :: v6 :: v7 :: v8 :: v9 :: .long x :: r) (.long x :: st) w := rfl
theorem x_lload_11 {v0 v1 v2 v3 v4 v5 v6 v7 v8 v9 v10 : Value} {x : Int64} : ex pD pY E K M go Q ((pc, .lload 11, len, as, z) :: is) (v0 :: v1 :: v2 :: v3 :: v4 :: v5 :: v6 :: v7 :: v8 :: v9 :: v10 :: .long x :: r) st w = ex pD pY E K M go Q is (v0 :: v1 :: v2 :: v3 :: v4 :: v5 :: v6 :: v7 :: v8 :: v9 :: v10 :: .long x :: r) (.long x :: st) w := rfl
theorem x_aload_0 {x : Nat} : ex pD pY E K M go Q ((pc, .aload_n 0, len, as, z) :: is) (.ref x :: r) st w = ex pD pY E K M go Q is (.ref x :: r) (.ref x :: st) w := rfl
theorem x_aload_1 {v0 : Value} {x : Nat} : ex pD pY E K M go Q ((pc, .aload_n 1, len, as, z) :: is) (v0 :: .ref x :: r) st w = ex pD pY E K M go Q is (v0 :: .ref x :: r) (.ref x :: st) w := rfl
theorem x_aload_2 {v0 v1 : Value} {x : Nat} : ex pD pY E K M go Q ((pc, .aload_n 2, len, as, z) :: is) (v0 :: v1 :: .ref x :: r) st w = ex pD pY E K M go Q is (v0 :: v1 :: .ref x :: r) (.ref x :: st) w := rfl
theorem x_aload_3 {v0 v1 v2 : Value} {x : Nat} : ex pD pY E K M go Q ((pc, .aload_n 3, len, as, z) :: is) (v0 :: v1 :: v2 :: .ref x :: r) st w = ex pD pY E K M go Q is (v0 :: v1 :: v2 :: .ref x :: r) (.ref x :: st) w := rfl
theorem x_aload_4 {v0 v1 v2 v3 : Value} {x : Nat} : ex pD pY E K M go Q ((pc, .aload 4, len, as, z) :: is) (v0 :: v1 :: v2 :: v3 :: .ref x :: r) st w = ex pD pY E K M go Q is (v0 :: v1 :: v2 :: v3 :: .ref x :: r) (.ref x :: st) w := rfl
theorem x_aload_5 {v0 v1 v2 v3 v4 : Value} {x : Nat} : ex pD pY E K M go Q ((pc, .aload 5, len, as, z) :: is) (v0 :: v1 :: v2 :: v3 :: v4 :: .ref x :: r) st w = ex pD pY E K M go Q is (v0 :: v1 :: v2 :: v3 :: v4 :: .ref x :: r) (.ref x :: st) w := rfl
theorem x_aload_6 {v0 v1 v2 v3 v4 v5 : Value} {x : Nat} : ex pD pY E K M go Q ((pc, .aload 6, len, as, z) :: is) (v0 :: v1 :: v2 :: v3 :: v4 :: v5 :: .ref x :: r) st w = ex pD pY E K M go Q is (v0 :: v1 :: v2 :: v3 :: v4 :: v5 :: .ref x :: r) (.ref x :: st) w := rfl
theorem x_aload_7 {v0 v1 v2 v3 v4 v5 v6 : Value} {x : Nat} : ex pD pY E K M go Q ((pc, .aload 7, len, as, z) :: is) (v0 :: v1 :: v2 :: v3 :: v4 :: v5 :: v6 :: .ref x :: r) st w = ex pD pY E K M go Q is (v0 :: v1 :: v2 :: v3 :: v4 :: v5 :: v6 :: .ref x :: r) (.ref x :: st) w := rfl
theorem x_aload_8 {v0 v1 v2 v3 v4 v5 v6 v7 : Value} {x : Nat} : ex pD pY E K M go Q ((pc, .aload 8, len, as, z) :: is) (v0 :: v1 :: v2 :: v3 :: v4 :: v5 :: v6 :: v7 :: .ref x :: r) st w = ex pD pY E K M go Q is (v0 :: v1 :: v2 :: v3 :: v4 :: v5 :: v6 :: v7 :: .ref x :: r) (.ref x :: st) w := rfl
theorem x_aload_9 {v0 v1 v2 v3 v4 v5 v6 v7 v8 : Value} {x : Nat} : ex pD pY E K M go Q ((pc, .aload 9, len, as, z) :: is) (v0 :: v1 :: v2 :: v3 :: v4 :: v5 :: v6 :: v7 :: v8 :: .ref x :: r) st w = ex pD pY E K M go Q is (v0 :: v1 :: v2 :: v3 :: v4 :: v5 :: v6 :: v7 :: v8 :: .ref x :: r) (.ref x :: st) w := rfl
theorem x_aload_10 {v0 v1 v2 v3 v4 v5 v6 v7 v8 v9 : Value} {x : Nat} : ex pD pY E K M go Q ((pc, .aload 10, len, as, z) :: is) (v0 :: v1 :: v2 :: v3 :: v4 :: v5 :: v6 :: v7 :: v8 :: v9 :: .ref x :: r) st w = ex pD pY E K M go Q is (v0 :: v1 :: v2 :: v3 :: v4 :: v5 :: v6 :: v7 :: v8 :: v9 :: .ref x :: r) (.ref x :: st) w := rfl
theorem x_aload_11 {v0 v1 v2 v3 v4 v5 v6 v7 v8 v9 v10 : Value} {x : Nat} : ex pD pY E K M go Q ((pc, .aload 11, len, as, z) :: is) (v0 :: v1 :: v2 :: v3 :: v4 :: v5 :: v6 :: v7 :: v8 :: v9 :: v10 :: .ref x :: r) st w = ex pD pY E K M go Q is (v0 :: v1 :: v2 :: v3 :: v4 :: v5 :: v6 :: v7 :: v8 :: v9 :: v10 :: .ref x :: r) (.ref x :: st) w := rfl
theorem x_istore_0 {u : Value} {x : Int32} : ex pD pY E K M go Q ((pc, .istore_n 0, len, as, z) :: is) (u :: r) (.int x :: st) w = ex pD pY E K M go Q is (.int x :: r) st w := rfl
theorem x_istore_1 {v0 : Value} {u : Value} {x : Int32} : ex pD pY E K M go Q ((pc, .istore_n 1, len, as, z) :: is) (v0 :: u :: r) (.int x :: st) w = ex pD pY E K M go Q is (aL_k v0 :: .int x :: r) st w := rfl
theorem x_istore_2 {v0 v1 : Value} {u : Value} {x : Int32} : ex pD pY E K M go Q ((pc, .istore_n 2, len, as, z) :: is) (v0 :: v1 :: u :: r) (.int x :: st) w = ex pD pY E K M go Q is (v0 :: aL_k v1 :: .int x :: r) st w := rfl
theorem x_istore_3 {v0 v1 v2 : Value} {u : Value} {x : Int32} : ex pD pY E K M go Q ((pc, .istore_n 3, len, as, z) :: is) (v0 :: v1 :: v2 :: u :: r) (.int x :: st) w = ex pD pY E K M go Q is (v0 :: v1 :: aL_k v2 :: .int x :: r) st w := rfl
theorem x_istore_4 {v0 v1 v2 v3 : Value} {u : Value} {x : Int32} : ex pD pY E K M go Q ((pc, .istore 4, len, as, z) :: is) (v0 :: v1 :: v2 :: v3 :: u :: r) (.int x :: st) w = ex pD pY E K M go Q is (v0 :: v1 :: v2 :: aL_k v3 :: .int x :: r) st w := rfl
theorem x_istore_5 {v0 v1 v2 v3 v4 : Value} {u : Value} {x : Int32} : ex pD pY E K M go Q ((pc, .istore 5, len, as, z) :: is) (v0 :: v1 :: v2 :: v3 :: v4 :: u :: r) (.int x :: st) w = ex pD pY E K M go Q is (v0 :: v1 :: v2 :: v3 :: aL_k v4 :: .int x :: r) st w := rfl
theorem x_istore_6 {v0 v1 v2 v3 v4 v5 : Value} {u : Value} {x : Int32} : ex pD pY E K M go Q ((pc, .istore 6, len, as, z) :: is) (v0 :: v1 :: v2 :: v3 :: v4 :: v5 :: u :: r) (.int x :: st) w = ex pD pY E K M go Q is (v0 :: v1 :: v2 :: v3 :: v4 :: aL_k v5 :: .int x :: r) st w := rfl
theorem x_istore_7 {v0 v1 v2 v3 v4 v5 v6 : Value} {u : Value} {x : Int32} : ex pD pY E K M go Q ((pc, .istore 7, len, as, z) :: is) (v0 :: v1 :: v2 :: v3 :: v4 :: v5 :: v6 :: u :: r) (.int x :: st) w = ex pD pY E K M go Q is (v0 :: v1 :: v2 :: v3 :: v4 :: v5 :: aL_k v6 :: .int x :: r) st w := rfl
theorem x_istore_8 {v0 v1 v2 v3 v4 v5 v6 v7 : Value} {u : Value} {x : Int32} : ex pD pY E K M go Q ((pc, .istore 8, len, as, z) :: is) (v0 :: v1 :: v2 :: v3 :: v4 :: v5 :: v6 :: v7 :: u :: r) (.int x :: st) w = ex pD pY E K M go Q is (v0 :: v1 :: v2 :: v3 :: v4 :: v5 :: v6 :: aL_k v7 :: .int x :: r) st w := rfl
theorem x_istore_9 {v0 v1 v2 v3 v4 v5 v6 v7 v8 : Value} {u : Value} {x : Int32} : ex pD pY E K M go Q ((pc, .istore 9, len, as, z) :: is) (v0 :: v1 :: v2 :: v3 :: v4 :: v5 :: v6 :: v7 :: v8 :: u :: r) (.int x :: st) w = ex pD pY E K M go Q is (v0 :: v1 :: v2 :: v3 :: v4 :: v5 :: v6 :: v7 :: aL_k v8 :: .int x :: r) st w := rfl
theorem x_istore_10 {v0 v1 v2 v3 v4 v5 v6 v7 v8 v9 : Value} {u : Value} {x : Int32} : ex pD pY E K M go Q ((pc, .istore 10, len, as, z) :: is) (v0 :: v1 :: v2 :: v3 :: v4 :: v5 :: v6 :: v7 :: v8 :: v9 :: u :: r) (.int x :: st) w = ex pD pY E K M go Q is (v0 :: v1 :: v2 :: v3 :: v4 :: v5 :: v6 :: v7 :: v8 :: aL_k v9 :: .int x :: r) st w := rfl
theorem x_istore_11 {v0 v1 v2 v3 v4 v5 v6 v7 v8 v9 v10 : Value} {u : Value} {x : Int32} : ex pD pY E K M go Q ((pc, .istore 11, len, as, z) :: is) (v0 :: v1 :: v2 :: v3 :: v4 :: v5 :: v6 :: v7 :: v8 :: v9 :: v10 :: u :: r) (.int x :: st) w = ex pD pY E K M go Q is (v0 :: v1 :: v2 :: v3 :: v4 :: v5 :: v6 :: v7 :: v8 :: v9 :: aL_k v10 :: .int x :: r) st w := rfl
theorem x_astore_0 {u : Value} {x : Nat} : ex pD pY E K M go Q ((pc, .astore_n 0, len, as, z) :: is) (u :: r) (.ref x :: st) w = ex pD pY E K M go Q is (.ref x :: r) st w := rfl
theorem x_astore_1 {v0 : Value} {u : Value} {x : Nat} : ex pD pY E K M go Q ((pc, .astore_n 1, len, as, z) :: is) (v0 :: u :: r) (.ref x :: st) w = ex pD pY E K M go Q is (aL_k v0 :: .ref x :: r) st w := rfl
theorem x_astore_2 {v0 v1 : Value} {u : Value} {x : Nat} : ex pD pY E K M go Q ((pc, .astore_n 2, len, as, z) :: is) (v0 :: v1 :: u :: r) (.ref x :: st) w = ex pD pY E K M go Q is (v0 :: aL_k v1 :: .ref x :: r) st w := rfl
theorem x_astore_3 {v0 v1 v2 : Value} {u : Value} {x : Nat} : ex pD pY E K M go Q ((pc, .astore_n 3, len, as, z) :: is) (v0 :: v1 :: v2 :: u :: r) (.ref x :: st) w = ex pD pY E K M go Q is (v0 :: v1 :: aL_k v2 :: .ref x :: r) st w := rfl
theorem x_astore_4 {v0 v1 v2 v3 : Value} {u : Value} {x : Nat} : ex pD pY E K M go Q ((pc, .astore 4, len, as, z) :: is) (v0 :: v1 :: v2 :: v3 :: u :: r) (.ref x :: st) w = ex pD pY E K M go Q is (v0 :: v1 :: v2 :: aL_k v3 :: .ref x :: r) st w := rfl
theorem x_astore_5 {v0 v1 v2 v3 v4 : Value} {u : Value} {x : Nat} : ex pD pY E K M go Q ((pc, .astore 5, len, as, z) :: is) (v0 :: v1 :: v2 :: v3 :: v4 :: u :: r) (.ref x :: st) w = ex pD pY E K M go Q is (v0 :: v1 :: v2 :: v3 :: aL_k v4 :: .ref x :: r) st w := rfl
theorem x_astore_6 {v0 v1 v2 v3 v4 v5 : Value} {u : Value} {x : Nat} : ex pD pY E K M go Q ((pc, .astore 6, len, as, z) :: is) (v0 :: v1 :: v2 :: v3 :: v4 :: v5 :: u :: r) (.ref x :: st) w = ex pD pY E K M go Q is (v0 :: v1 :: v2 :: v3 :: v4 :: aL_k v5 :: .ref x :: r) st w := rfl
theorem x_astore_7 {v0 v1 v2 v3 v4 v5 v6 : Value} {u : Value} {x : Nat} : ex pD pY E K M go Q ((pc, .astore 7, len, as, z) :: is) (v0 :: v1 :: v2 :: v3 :: v4 :: v5 :: v6 :: u :: r) (.ref x :: st) w = ex pD pY E K M go Q is (v0 :: v1 :: v2 :: v3 :: v4 :: v5 :: aL_k v6 :: .ref x :: r) st w := rfl
theorem x_astore_8 {v0 v1 v2 v3 v4 v5 v6 v7 : Value} {u : Value} {x : Nat} : ex pD pY E K M go Q ((pc, .astore 8, len, as, z) :: is) (v0 :: v1 :: v2 :: v3 :: v4 :: v5 :: v6 :: v7 :: u :: r) (.ref x :: st) w = ex pD pY E K M go Q is (v0 :: v1 :: v2 :: v3 :: v4 :: v5 :: v6 :: aL_k v7 :: .ref x :: r) st w := rfl
theorem x_astore_9 {v0 v1 v2 v3 v4 v5 v6 v7 v8 : Value} {u : Value} {x : Nat} : ex pD pY E K M go Q ((pc, .astore 9, len, as, z) :: is) (v0 :: v1 :: v2 :: v3 :: v4 :: v5 :: v6 :: v7 :: v8 :: u :: r) (.ref x :: st) w = ex pD pY E K M go Q is (v0 :: v1 :: v2 :: v3 :: v4 :: v5 :: v6 :: v7 :: aL_k v8 :: .ref x :: r) st w := rfl
theorem x_astore_10 {v0 v1 v2 v3 v4 v5 v6 v7 v8 v9 : Value} {u : Value} {x : Nat} : ex pD pY E K M go Q ((pc, .astore 10, len, as, z) :: is) (v0 :: v1 :: v2 :: v3 :: v4 :: v5 :: v6 :: v7 :: v8 :: v9 :: u :: r) (.ref x :: st) w = ex pD pY E K M go Q is (v0 :: v1 :: v2 :: v3 :: v4 :: v5 :: v6 :: v7 :: v8 :: aL_k v9 :: .ref x :: r) st w := rfl
theorem x_astore_11 {v0 v1 v2 v3 v4 v5 v6 v7 v8 v9 v10 : Value} {u : Value} {x : Nat} : ex pD pY E K M go Q ((pc, .astore 11, len, as, z) :: is) (v0 :: v1 :: v2 :: v3 :: v4 :: v5 :: v6 :: v7 :: v8 :: v9 :: v10 :: u :: r) (.ref x :: st) w = ex pD pY E K M go Q is (v0 :: v1 :: v2 :: v3 :: v4 :: v5 :: v6 :: v7 :: v8 :: v9 :: aL_k v10 :: .ref x :: r) st w := rfl
theorem x_lstore_0 {u u2 : Value} {x : Int64} : ex pD pY E K M go Q ((pc, .lstore_n 0, len, as, z) :: is) (u :: u2 :: r) (.long x :: st) w = ex pD pY E K M go Q is (.long x :: .null :: r) st w := rfl
theorem x_lstore_1 {v0 : Value} {u u2 : Value} {x : Int64} : ex pD pY E K M go Q ((pc, .lstore_n 1, len, as, z) :: is) (v0 :: u :: u2 :: r) (.long x :: st) w = ex pD pY E K M go Q is (aL_k v0 :: .long x :: .null :: r) st w := rfl
theorem x_lstore_2 {v0 v1 : Value} {u u2 : Value} {x : Int64} : ex pD pY E K M go Q ((pc, .lstore_n 2, len, as, z) :: is) (v0 :: v1 :: u :: u2 :: r) (.long x :: st) w = ex pD pY E K M go Q is (v0 :: aL_k v1 :: .long x :: .null :: r) st w := rfl
theorem x_lstore_3 {v0 v1 v2 : Value} {u u2 : Value} {x : Int64} : ex pD pY E K M go Q ((pc, .lstore_n 3, len, as, z) :: is) (v0 :: v1 :: v2 :: u :: u2 :: r) (.long x :: st) w = ex pD pY E K M go Q is (v0 :: v1 :: aL_k v2 :: .long x :: .null :: r) st w := rfl
theorem x_lstore_4 {v0 v1 v2 v3 : Value} {u u2 : Value} {x : Int64} : ex pD pY E K M go Q ((pc, .lstore 4, len, as, z) :: is) (v0 :: v1 :: v2 :: v3 :: u :: u2 :: r) (.long x :: st) w = ex pD pY E K M go Q is (v0 :: v1 :: v2 :: aL_k v3 :: .long x :: .null :: r) st w := rfl
theorem x_lstore_5 {v0 v1 v2 v3 v4 : Value} {u u2 : Value} {x : Int64} : ex pD pY E K M go Q ((pc, .lstore 5, len, as, z) :: is) (v0 :: v1 :: v2 :: v3 :: v4 :: u :: u2 :: r) (.long x :: st) w = ex pD pY E K M go Q is (v0 :: v1 :: v2 :: v3 :: aL_k v4 :: .long x :: .null :: r) st w := rfl
theorem x_lstore_6 {v0 v1 v2 v3 v4 v5 : Value} {u u2 : Value} {x : Int64} : ex pD pY E K M go Q ((pc, .lstore 6, len, as, z) :: is) (v0 :: v1 :: v2 :: v3 :: v4 :: v5 :: u :: u2 :: r) (.long x :: st) w = ex pD pY E K M go Q is (v0 :: v1 :: v2 :: v3 :: v4 :: aL_k v5 :: .long x :: .null :: r) st w := rfl
theorem x_lstore_7 {v0 v1 v2 v3 v4 v5 v6 : Value} {u u2 : Value} {x : Int64} : ex pD pY E K M go Q ((pc, .lstore 7, len, as, z) :: is) (v0 :: v1 :: v2 :: v3 :: v4 :: v5 :: v6 :: u :: u2 :: r) (.long x :: st) w = ex pD pY E K M go Q is (v0 :: v1 :: v2 :: v3 :: v4 :: v5 :: aL_k v6 :: .long x :: .null :: r) st w := rfl
theorem x_lstore_8 {v0 v1 v2 v3 v4 v5 v6 v7 : Value} {u u2 : Value} {x : Int64} : ex pD pY E K M go Q ((pc, .lstore 8, len, as, z) :: is) (v0 :: v1 :: v2 :: v3 :: v4 :: v5 :: v6 :: v7 :: u :: u2 :: r) (.long x :: st) w = ex pD pY E K M go Q is (v0 :: v1 :: v2 :: v3 :: v4 :: v5 :: v6 :: aL_k v7 :: .long x :: .null :: r) st w := rfl
theorem x_lstore_9 {v0 v1 v2 v3 v4 v5 v6 v7 v8 : Value} {u u2 : Value} {x : Int64} : ex pD pY E K M go Q ((pc, .lstore 9, len, as, z) :: is) (v0 :: v1 :: v2 :: v3 :: v4 :: v5 :: v6 :: v7 :: v8 :: u :: u2 :: r) (.long x :: st) w = ex pD pY E K M go Q is (v0 :: v1 :: v2 :: v3 :: v4 :: v5 :: v6 :: v7 :: aL_k v8 :: .long x :: .null :: r) st w := rfl
theorem x_lstore_10 {v0 v1 v2 v3 v4 v5 v6 v7 v8 v9 : Value} {u u2 : Value} {x : Int64} : ex pD pY E K M go Q ((pc, .lstore 10, len, as, z) :: is) (v0 :: v1 :: v2 :: v3 :: v4 :: v5 :: v6 :: v7 :: v8 :: v9 :: u :: u2 :: r) (.long x :: st) w = ex pD pY E K M go Q is (v0 :: v1 :: v2 :: v3 :: v4 :: v5 :: v6 :: v7 :: v8 :: aL_k v9 :: .long x :: .null :: r) st w := rfl
theorem x_iinc_0 {n : Int} {x : Int32} : ex pD pY E K M go Q ((pc, .iinc 0 n, len, as, z) :: is) (.int x :: r) st w = ex pD pY E K M go Q is (.int (x + Int32.ofInt n) :: r) st w := rfl
theorem x_iinc_1 {v0 : Value} {n : Int} {x : Int32} : ex pD pY E K M go Q ((pc, .iinc 1 n, len, as, z) :: is) (v0 :: .int x :: r) st w = ex pD pY E K M go Q is (aL_k v0 :: .int (x + Int32.ofInt n) :: r) st w := rfl
theorem x_iinc_2 {v0 v1 : Value} {n : Int} {x : Int32} : ex pD pY E K M go Q ((pc, .iinc 2 n, len, as, z) :: is) (v0 :: v1 :: .int x :: r) st w = ex pD pY E K M go Q is (v0 :: aL_k v1 :: .int (x + Int32.ofInt n) :: r) st w := rfl
theorem x_iinc_3 {v0 v1 v2 : Value} {n : Int} {x : Int32} : ex pD pY E K M go Q ((pc, .iinc 3 n, len, as, z) :: is) (v0 :: v1 :: v2 :: .int x :: r) st w = ex pD pY E K M go Q is (v0 :: v1 :: aL_k v2 :: .int (x + Int32.ofInt n) :: r) st w := rfl
theorem x_iinc_4 {v0 v1 v2 v3 : Value} {n : Int} {x : Int32} : ex pD pY E K M go Q ((pc, .iinc 4 n, len, as, z) :: is) (v0 :: v1 :: v2 :: v3 :: .int x :: r) st w = ex pD pY E K M go Q is (v0 :: v1 :: v2 :: aL_k v3 :: .int (x + Int32.ofInt n) :: r) st w := rfl
theorem x_iinc_5 {v0 v1 v2 v3 v4 : Value} {n : Int} {x : Int32} : ex pD pY E K M go Q ((pc, .iinc 5 n, len, as, z) :: is) (v0 :: v1 :: v2 :: v3 :: v4 :: .int x :: r) st w = ex pD pY E K M go Q is (v0 :: v1 :: v2 :: v3 :: aL_k v4 :: .int (x + Int32.ofInt n) :: r) st w := rfl
theorem x_iinc_6 {v0 v1 v2 v3 v4 v5 : Value} {n : Int} {x : Int32} : ex pD pY E K M go Q ((pc, .iinc 6 n, len, as, z) :: is) (v0 :: v1 :: v2 :: v3 :: v4 :: v5 :: .int x :: r) st w = ex pD pY E K M go Q is (v0 :: v1 :: v2 :: v3 :: v4 :: aL_k v5 :: .int (x + Int32.ofInt n) :: r) st w := rfl
theorem x_iinc_7 {v0 v1 v2 v3 v4 v5 v6 : Value} {n : Int} {x : Int32} : ex pD pY E K M go Q ((pc, .iinc 7 n, len, as, z) :: is) (v0 :: v1 :: v2 :: v3 :: v4 :: v5 :: v6 :: .int x :: r) st w = ex pD pY E K M go Q is (v0 :: v1 :: v2 :: v3 :: v4 :: v5 :: aL_k v6 :: .int (x + Int32.ofInt n) :: r) st w := rfl
theorem x_iinc_8 {v0 v1 v2 v3 v4 v5 v6 v7 : Value} {n : Int} {x : Int32} : ex pD pY E K M go Q ((pc, .iinc 8 n, len, as, z) :: is) (v0 :: v1 :: v2 :: v3 :: v4 :: v5 :: v6 :: v7 :: .int x :: r) st w = ex pD pY E K M go Q is (v0 :: v1 :: v2 :: v3 :: v4 :: v5 :: v6 :: aL_k v7 :: .int (x + Int32.ofInt n) :: r) st w := rfl
theorem x_iinc_9 {v0 v1 v2 v3 v4 v5 v6 v7 v8 : Value} {n : Int} {x : Int32} : ex pD pY E K M go Q ((pc, .iinc 9 n, len, as, z) :: is) (v0 :: v1 :: v2 :: v3 :: v4 :: v5 :: v6 :: v7 :: v8 :: .int x :: r) st w = ex pD pY E K M go Q is (v0 :: v1 :: v2 :: v3 :: v4 :: v5 :: v6 :: v7 :: aL_k v8 :: .int (x + Int32.ofInt n) :: r) st w := rfl
theorem x_iinc_10 {v0 v1 v2 v3 v4 v5 v6 v7 v8 v9 : Value} {n : Int} {x : Int32} : ex pD pY E K M go Q ((pc, .iinc 10 n, len, as, z) :: is) (v0 :: v1 :: v2 :: v3 :: v4 :: v5 :: v6 :: v7 :: v8 :: v9 :: .int x :: r) st w = ex pD pY E K M go Q is (v0 :: v1 :: v2 :: v3 :: v4 :: v5 :: v6 :: v7 :: v8 :: aL_k v9 :: .int (x + Int32.ofInt n) :: r) st w := rfl
theorem x_iinc_11 {v0 v1 v2 v3 v4 v5 v6 v7 v8 v9 v10 : Value} {n : Int} {x : Int32} : ex pD pY E K M go Q ((pc, .iinc 11 n, len, as, z) :: is) (v0 :: v1 :: v2 :: v3 :: v4 :: v5 :: v6 :: v7 :: v8 :: v9 :: v10 :: .int x :: r) st w = ex pD pY E K M go Q is (v0 :: v1 :: v2 :: v3 :: v4 :: v5 :: v6 :: v7 :: v8 :: v9 :: aL_k v10 :: .int (x + Int32.ofInt n) :: r) st w := rfl
theorem x_iconst {n : Int} : ex pD pY E K M go Q ((pc, .iconst n, len, as, z) :: is) L st w = ex pD pY E K M go Q is L (.int (Int32.ofInt n) :: st) w := rfl
theorem x_bipush {n : Int} : ex pD pY E K M go Q ((pc, .bipush n, len, as, z) :: is) L st w = ex pD pY E K M go Q is L (.int (Int32.ofInt n) :: st) w := rfl
theorem x_sipush {n : Int} : ex pD pY E K M go Q ((pc, .sipush n, len, as, z) :: is) L st w = ex pD pY E K M go Q is L (.int (Int32.ofInt n) :: st) w := rfl
theorem x_lconst {n : Fin 2} : ex pD pY E K M go Q ((pc, .lconst n, len, as, z) :: is) L st w = ex pD pY E K M go Q is L (.long (Int64.ofNat n) :: st) w := rfl
theorem x_ldc_w {n : Nat} : ex pD pY E K M go Q ((pc, .ldc_w n, len, as, z) :: is) L st w = ex pD pY E K M go Q is L (.int (Int32.ofInt z) :: st) w := rfl
theorem x_ldc2_w {n : Nat} : ex pD pY E K M go Q ((pc, .ldc2_w n, len, as, z) :: is) L st w = ex pD pY E K M go Q is L (.long (Int64.ofInt z) :: st) w := rfl
theorem x_iadd {x y : Int32} : ex pD pY E K M go Q ((pc, .iadd, len, as, z) :: is) L (.int y :: .int x :: r) w = ex pD pY E K M go Q is L (.int (x + y) :: r) w := rfl
theorem x_isub {x y : Int32} : ex pD pY E K M go Q ((pc, .isub, len, as, z) :: is) L (.int y :: .int x :: r) w = ex pD pY E K M go Q is L (.int (x - y) :: r) w := rfl
theorem x_imul {x y : Int32} : ex pD pY E K M go Q ((pc, .imul, len, as, z) :: is) L (.int y :: .int x :: r) w = ex pD pY E K M go Q is L (.int (x * y) :: r) w := rfl
theorem x_iand {x y : Int32} : ex pD pY E K M go Q ((pc, .iand, len, as, z) :: is) L (.int y :: .int x :: r) w = ex pD pY E K M go Q is L (.int (x &&& y) :: r) w := rfl
theorem x_ior {x y : Int32} : ex pD pY E K M go Q ((pc, .ior, len, as, z) :: is) L (.int y :: .int x :: r) w = ex pD pY E K M go Q is L (.int (x ||| y) :: r) w := rfl
theorem x_ixor {x y : Int32} : ex pD pY E K M go Q ((pc, .ixor, len, as, z) :: is) L (.int y :: .int x :: r) w = ex pD pY E K M go Q is L (.int (x ^^^ y) :: r) w := rfl
theorem x_ishl {x y : Int32} : ex pD pY E K M go Q ((pc, .ishl, len, as, z) :: is) L (.int y :: .int x :: r) w = ex pD pY E K M go Q is L (.int (x <<< (y &&& 31)) :: r) w := rfl
theorem x_ishr {x y : Int32} : ex pD pY E K M go Q ((pc, .ishr, len, as, z) :: is) L (.int y :: .int x :: r) w = ex pD pY E K M go Q is L (.int (x >>> (y &&& 31)) :: r) w := rfl
theorem x_iushr {x y : Int32} : ex pD pY E K M go Q ((pc, .iushr, len, as, z) :: is) L (.int y :: .int x :: r) w = ex pD pY E K M go Q is L (.int ((x.toUInt32 >>> (y.toUInt32 &&& Int32.toUInt32 31)).toInt32) :: r) w := rfl
theorem x_ladd {x y : Int64} : ex pD pY E K M go Q ((pc, .ladd, len, as, z) :: is) L (.long y :: .long x :: r) w = ex pD pY E K M go Q is L (.long (x + y) :: r) w := rfl
theorem x_lsub {x y : Int64} : ex pD pY E K M go Q ((pc, .lsub, len, as, z) :: is) L (.long y :: .long x :: r) w = ex pD pY E K M go Q is L (.long (x - y) :: r) w := rfl
theorem x_lmul {x y : Int64} : ex pD pY E K M go Q ((pc, .lmul, len, as, z) :: is) L (.long y :: .long x :: r) w = ex pD pY E K M go Q is L (.long (x * y) :: r) w := rfl
theorem x_ineg {x : Int32} : ex pD pY E K M go Q ((pc, .ineg, len, as, z) :: is) L (.int x :: r) w = ex pD pY E K M go Q is L (.int (-x) :: r) w := rfl
theorem x_lneg {x : Int64} : ex pD pY E K M go Q ((pc, .lneg, len, as, z) :: is) L (.long x :: r) w = ex pD pY E K M go Q is L (.long (-x) :: r) w := rfl
theorem x_lcmp {x y : Int64} : ex pD pY E K M go Q ((pc, .lcmp, len, as, z) :: is) L (.long y :: .long x :: r) w = ex pD pY E K M go Q is L (.int (lg_cmp x y) :: r) w := rfl
theorem x_i2l {x : Int32} : ex pD pY E K M go Q ((pc, .i2l, len, as, z) :: is) L (.int x :: r) w = ex pD pY E K M go Q is L (.long x.toInt64 :: r) w := rfl
theorem x_l2i {x : Int64} : ex pD pY E K M go Q ((pc, .l2i, len, as, z) :: is) L (.long x :: r) w = ex pD pY E K M go Q is L (.int x.toInt32 :: r) w := rfl
theorem x_idiv {x y : Int32} : ex pD pY E K M go Q ((pc, .idiv, len, as, z) :: is) L (.int y :: .int x :: r) w = (y ≠ 0 ∧ ex pD pY E K M go Q is L (.int (x / y) :: r) w) := by rw [ex_eq]; show exO E K M go Q is L w (if _ then _ else _) = _; rw [exO_if]; exact if_F
theorem x_irem {x y : Int32} : ex pD pY E K M go Q ((pc, .irem, len, as, z) :: is) L (.int y :: .int x :: r) w = (y ≠ 0 ∧ ex pD pY E K M go Q is L (.int (x % y) :: r) w) := by rw [ex_eq]; show exO E K M go Q is L w (if _ then _ else _) = _; rw [exO_if]; exact if_F
theorem x_ldiv {x y : Int64} : ex pD pY E K M go Q ((pc, .ldiv, len, as, z) :: is) L (.long y :: .long x :: r) w = (y ≠ 0 ∧ ex pD pY E K M go Q is L (.long (x / y) :: r) w) := by rw [ex_eq]; show exO E K M go Q is L w (if _ then _ else _) = _; rw [exO_if]; exact if_F
theorem x_lrem {x y : Int64} : ex pD pY E K M go Q ((pc, .lrem, len, as, z) :: is) L (.long y :: .long x :: r) w = (y ≠ 0 ∧ ex pD pY E K M go Q is L (.long (x % y) :: r) w) := by rw [ex_eq]; show exO E K M go Q is L w (if _ then _ else _) = _; rw [exO_if]; exact if_F
theorem x_dup_int {x : Int32} : ex pD pY E K M go Q ((pc, .dup, len, as, z) :: is) L (.int x :: r) w = ex pD pY E K M go Q is L (.int x :: .int x :: r) w := rfl
theorem x_pop_int {x : Int32} : ex pD pY E K M go Q ((pc, .pop, len, as, z) :: is) L (.int x :: r) w = ex pD pY E K M go Q is L r w := rfl
theorem x_dup_ref {x : Nat} : ex pD pY E K M go Q ((pc, .dup, len, as, z) :: is) L (.ref x :: r) w = ex pD pY E K M go Q is L (.ref x :: .ref x :: r) w := rfl
theorem x_pop_ref {x : Nat} : ex pD pY E K M go Q ((pc, .pop, len, as, z) :: is) L (.ref x :: r) w = ex pD pY E K M go Q is L r w := rfl
theorem x_dup2 {x : Int32} {a : Nat} : ex pD pY E K M go Q ((pc, .dup2, len, as, z) :: is) L (.int x :: .ref a :: r) w = ex pD pY E K M go Q is L (.int x :: .ref a :: .int x :: .ref a :: r) w := rfl
theorem x_goto {off : Int} {t : Nat} : ex pD pY E K M go Q ((pc, .goto off, len, [t], z) :: is) L st w = go t L st w := rfl
theorem x_nop {t : Nat} : ex pD pY E K M go Q ((pc, .nop, len, [t], z) :: is) L st w = go t L st w := rfl
theorem x_if_eq {off : Int} {t : Nat} {x : Int32} : ex pD pY E K M go Q ((pc, .ifCond .eq off, len, [t], z) :: is) L (.int x :: r) w = (if x = 0 then go t L r w else ex pD pY E K M go Q is L r w) := by rw [ex_eq]; show exO E K M go Q is L w (if _ then _ else _) = _; rw [exO_if]; rfl
theorem x_if_ne {off : Int} {t : Nat} {x : Int32} : ex pD pY E K M go Q ((pc, .ifCond .ne off, len, [t], z) :: is) L (.int x :: r) w = (if ¬ x = 0 then go t L r w else ex pD pY E K M go Q is L r w) := by rw [ex_eq]; show exO E K M go Q is L w (if _ then _ else _) = _; rw [exO_if]; rfl
theorem x_if_lt {off : Int} {t : Nat} {x : Int32} : ex pD pY E K M go Q ((pc, .ifCond .lt off, len, [t], z) :: is) L (.int x :: r) w = (if x < 0 then go t L r w else ex pD pY E K M go Q is L r w) := by rw [ex_eq]; show exO E K M go Q is L w (if _ then _ else _) = _; rw [exO_if]; rfl
theorem x_if_ge {off : Int} {t : Nat} {x : Int32} : ex pD pY E K M go Q ((pc, .ifCond .ge off, len, [t], z) :: is) L (.int x :: r) w = (if 0 ≤ x then go t L r w else ex pD pY E K M go Q is L r w) := by rw [ex_eq]; show exO E K M go Q is L w (if _ then _ else _) = _; rw [exO_if]; rfl
theorem x_if_gt {off : Int} {t : Nat} {x : Int32} : ex pD pY E K M go Q ((pc, .ifCond .gt off, len, [t], z) :: is) L (.int x :: r) w = (if 0 < x then go t L r w else ex pD pY E K M go Q is L r w) := by rw [ex_eq]; show exO E K M go Q is L w (if _ then _ else _) = _; rw [exO_if]; rfl
theorem x_if_le {off : Int} {t : Nat} {x : Int32} : ex pD pY E K M go Q ((pc, .ifCond .le off, len, [t], z) :: is) L (.int x :: r) w = (if x ≤ 0 then go t L r w else ex pD pY E K M go Q is L r w) := by rw [ex_eq]; show exO E K M go Q is L w (if _ then _ else _) = _; rw [exO_if]; rfl
theorem x_icmp_eq {off : Int} {t : Nat} {x y : Int32} : ex pD pY E K M go Q ((pc, .if_icmp .eq off, len, [t], z) :: is) L (.int y :: .int x :: r) w = (if x = y then go t L r w else ex pD pY E K M go Q is L r w) := by rw [ex_eq]; show exO E K M go Q is L w (if _ then _ else _) = _; rw [exO_if]; rfl
theorem x_icmp_ne {off : Int} {t : Nat} {x y : Int32} : ex pD pY E K M go Q ((pc, .if_icmp .ne off, len, [t], z) :: is) L (.int y :: .int x :: r) w = (if ¬ x = y then go t L r w else ex pD pY E K M go Q is L r w) := by rw [ex_eq]; show exO E K M go Q is L w (if _ then _ else _) = _; rw [exO_if]; rfl
theorem x_icmp_lt {off : Int} {t : Nat} {x y : Int32} : ex pD pY E K M go Q ((pc, .if_icmp .lt off, len, [t], z) :: is) L (.int y :: .int x :: r) w = (if x < y then go t L r w else ex pD pY E K M go Q is L r w) := by rw [ex_eq]; show exO E K M go Q is L w (if _ then _ else _) = _; rw [exO_if]; rfl
theorem x_icmp_ge {off : Int} {t : Nat} {x y : Int32} : ex pD pY E K M go Q ((pc, .if_icmp .ge off, len, [t], z) :: is) L (.int y :: .int x :: r) w = (if y ≤ x then go t L r w else ex pD pY E K M go Q is L r w) := by rw [ex_eq]; show exO E K M go Q is L w (if _ then _ else _) = _; rw [exO_if]; rfl
theorem x_icmp_gt {off : Int} {t : Nat} {x y : Int32} : ex pD pY E K M go Q ((pc, .if_icmp .gt off, len, [t], z) :: is) L (.int y :: .int x :: r) w = (if y < x then go t L r w else ex pD pY E K M go Q is L r w) := by rw [ex_eq]; show exO E K M go Q is L w (if _ then _ else _) = _; rw [exO_if]; rfl
theorem x_icmp_le {off : Int} {t : Nat} {x y : Int32} : ex pD pY E K M go Q ((pc, .if_icmp .le off, len, [t], z) :: is) L (.int y :: .int x :: r) w = (if x ≤ y then go t L r w else ex pD pY E K M go Q is L r w) := by rw [ex_eq]; show exO E K M go Q is L w (if _ then _ else _) = _; rw [exO_if]; rfl
theorem x_getfield {idx ci k pl a : Nat} : ex pD pY E K M go Q ((pc, .getfield idx, len, [ci, k, pl], z) :: is) L (.ref a :: r) w = oM (gO w a) (fun q => q.1 = ci ∧ oM (q.2[k]?) (fun v => ex pD pY E K M go Q is L (v :: r) w)) := by
  rw [ex_eq]
  simp only [nx]
  unfold gO
  generalize w[a]? = o
  rcases o with _ | x | ⟨c, fs⟩
  · rfl
  · rfl
  · simp only [exO_if]
    show (if c = ci then _ else False) = (c = ci ∧ oM (fs[k]?) _)
    rw [if_T]
    congr 1
    cases fs[k]? <;> rfl
theorem x_putfield {idx ci k pl a : Nat} {v : Value} : ex pD pY E K M go Q ((pc, .putfield idx, len, [ci, k, pl], z) :: is) L (v :: .ref a :: r) w = oM (gO w a) (fun q => (q.1 = ci ∧ k < q.2.length ∧ aF_ok (pY ci k) v = true) ∧ ex pD pY E K M go Q is L r (sO w a q.1 (q.2.set k v))) := by
  rw [ex_eq]
  simp only [nx]
  unfold gO
  unfold sO
  generalize w[a]? = o
  rcases o with _ | x | ⟨c, fs⟩
  · rfl
  · rfl
  · simp only [exO_if]
    exact if_T
theorem x_iaload {a : Nat} {j : Int32} : ex pD pY E K M go Q ((pc, .iaload, len, as, z) :: is) L (.int j :: .ref a :: r) w = oM (gI w a) (fun q => inb j q.1 ∧ ex pD pY E K M go Q is L (.int (q.2 (tn j)) :: r) w) := by
  rw [ex_eq]
  simp only [nx]
  unfold gI
  generalize w[a]? = o
  rcases o with _ | ⟨ty, n, f | f | f | f | f⟩ | ⟨c, fs⟩ <;> try rfl
  all_goals (cases ty <;> try rfl)
  all_goals (rw [exO_if]; exact if_F)
theorem x_baload {a : Nat} {j : Int32} : ex pD pY E K M go Q ((pc, .baload, len, as, z) :: is) L (.int j :: .ref a :: r) w = oM (gZ w a) (fun q => inb j q.1 ∧ ex pD pY E K M go Q is L (.int (q.2 (tn j)) :: r) w) := by
  rw [ex_eq]
  simp only [nx]
  unfold gZ
  generalize w[a]? = o
  rcases o with _ | ⟨ty, n, f | f | f | f | f⟩ | ⟨c, fs⟩ <;> try rfl
  all_goals (cases ty <;> try rfl)
  all_goals (rw [exO_if]; exact if_F)
theorem x_laload {a : Nat} {j : Int32} : ex pD pY E K M go Q ((pc, .laload, len, as, z) :: is) L (.int j :: .ref a :: r) w = oM (gL w a) (fun q => inb j q.1 ∧ ex pD pY E K M go Q is L (.long (q.2 (tn j)) :: r) w) := by
  rw [ex_eq]
  simp only [nx]
  unfold gL
  generalize w[a]? = o
  rcases o with _ | ⟨ty, n, f | f | f | f | f⟩ | ⟨c, fs⟩ <;> try rfl
  all_goals (cases ty <;> try rfl)
  all_goals (rw [exO_if]; exact if_F)
theorem x_iastore {a : Nat} {j : Int32} {x : Int32} : ex pD pY E K M go Q ((pc, .iastore, len, as, z) :: is) L (.int x :: .int j :: .ref a :: r) w = oM (gI w a) (fun q => inb j q.1 ∧ ex pD pY E K M go Q is L r (sI w a q.1 (upd q.2 (tn j) x))) := by
  rw [ex_eq]
  simp only [nx]
  unfold gI
  unfold sI
  generalize w[a]? = o
  rcases o with _ | ⟨ty, n, f | f | f | f | f⟩ | ⟨c, fs⟩ <;> try rfl
  all_goals (cases ty <;> try rfl)
  all_goals (rw [exO_if]; exact if_F)
theorem x_bastore {a : Nat} {j : Int32} {x : Int32} : ex pD pY E K M go Q ((pc, .bastore, len, as, z) :: is) L (.int x :: .int j :: .ref a :: r) w = oM (gZ w a) (fun q => inb j q.1 ∧ ex pD pY E K M go Q is L r (sZ w a q.1 (upd q.2 (tn j) (aV_b x)))) := by
  rw [ex_eq]
  simp only [nx]
  unfold gZ
  unfold sZ
  generalize w[a]? = o
  rcases o with _ | ⟨ty, n, f | f | f | f | f⟩ | ⟨c, fs⟩ <;> try rfl
  all_goals (cases ty <;> try rfl)
  all_goals (rw [exO_if]; exact if_F)
theorem x_lastore {a : Nat} {j : Int32} {x : Int64} : ex pD pY E K M go Q ((pc, .lastore, len, as, z) :: is) L (.long x :: .int j :: .ref a :: r) w = oM (gL w a) (fun q => inb j q.1 ∧ ex pD pY E K M go Q is L r (sL w a q.1 (vp_updL q.2 (tn j) x))) := by
  rw [ex_eq]
  simp only [nx]
  unfold gL
  unfold sL
  generalize w[a]? = o
  rcases o with _ | ⟨ty, n, f | f | f | f | f⟩ | ⟨c, fs⟩ <;> try rfl
  all_goals (cases ty <;> try rfl)
  all_goals (rw [exO_if]; exact if_F)
theorem x_arraylength {a : Nat} : ex pD pY E K M go Q ((pc, .arraylength, len, as, z) :: is) L (.ref a :: r) w = oM (gN w a) (fun n => ex pD pY E K M go Q is L (.int (Int32.ofNat n) :: r) w) := by
  rw [ex_eq]
  simp only [nx]
  unfold gN
  generalize w[a]? = o
  rcases o with _ | ⟨ty, n, f⟩ | ⟨c, fs⟩ <;> try rfl
  cases ty <;> rfl
theorem x_virtual_0 {idx mi ci pl a : Nat} : ex pD pY E K M go Q ((pc, .invokevirtual idx, len, [mi, 0, ci, pl], z) :: is) L (.ref a :: r) w = oM (gO w a) (fun q => (q.1 = ci ∧ aV_c r ≤ 8) ∧ K mi [.ref a] w (fun r1 w1 => ex pD pY E K M go Q is L (r1.toList ++ r) w1)) := by
  rw [ex_eq]
  simp only [nx, List.length_cons, List.drop_succ_cons, List.drop_zero, List.take_succ_cons, List.take_zero, List.reverse_cons, List.reverse_nil, List.nil_append, List.cons_append, List.getElem?_cons_succ, List.getElem?_cons_zero]
  unfold gO
  have hq : ¬ (r.length + 1 < 1) := by omega
  by_cases h8 : 8 < aV_c r
  · have h9 : ¬ aV_c r ≤ 8 := by omega
    rw [if_pos (Or.inr h8)]
    generalize w[a]? = o
    rcases o with _ | x | ⟨c, fs⟩
    · rfl
    · rfl
    · show False = ((c = ci ∧ aV_c r ≤ 8) ∧ _)
      simp [h9]
  · have h9 : aV_c r ≤ 8 := by omega
    rw [if_neg (fun h => h.elim (by omega) h8)]
    generalize w[a]? = o
    rcases o with _ | x | ⟨c, fs⟩
    · rfl
    · rfl
    · simp only [exO_if]
      show (if c = ci then _ else False) = ((c = ci ∧ aV_c r ≤ 8) ∧ _)
      rw [if_T]
      simp only [h9, and_true]
      rfl
theorem x_virtual_1 {a1 : Value} {idx mi ci pl a : Nat} : ex pD pY E K M go Q ((pc, .invokevirtual idx, len, [mi, 1, ci, pl], z) :: is) L (a1 :: .ref a :: r) w = oM (gO w a) (fun q => (q.1 = ci ∧ aV_c r ≤ 8) ∧ K mi [.ref a, a1] w (fun r1 w1 => ex pD pY E K M go Q is L (r1.toList ++ r) w1)) := by
  rw [ex_eq]
  simp only [nx, List.length_cons, List.drop_succ_cons, List.drop_zero, List.take_succ_cons, List.take_zero, List.reverse_cons, List.reverse_nil, List.nil_append, List.cons_append, List.getElem?_cons_succ, List.getElem?_cons_zero]
  unfold gO
  have hq : ¬ (r.length + 2 < 2) := by omega
  by_cases h8 : 8 < aV_c r
  · have h9 : ¬ aV_c r ≤ 8 := by omega
    rw [if_pos (Or.inr h8)]
    generalize w[a]? = o
    rcases o with _ | x | ⟨c, fs⟩
    · rfl
    · rfl
    · show False = ((c = ci ∧ aV_c r ≤ 8) ∧ _)
      simp [h9]
  · have h9 : aV_c r ≤ 8 := by omega
    rw [if_neg (fun h => h.elim (by omega) h8)]
    generalize w[a]? = o
    rcases o with _ | x | ⟨c, fs⟩
    · rfl
    · rfl
    · simp only [exO_if]
      show (if c = ci then _ else False) = ((c = ci ∧ aV_c r ≤ 8) ∧ _)
      rw [if_T]
      simp only [h9, and_true]
      rfl
theorem x_virtual_2 {a1 a2 : Value} {idx mi ci pl a : Nat} : ex pD pY E K M go Q ((pc, .invokevirtual idx, len, [mi, 2, ci, pl], z) :: is) L (a2 :: a1 :: .ref a :: r) w = oM (gO w a) (fun q => (q.1 = ci ∧ aV_c r ≤ 8) ∧ K mi [.ref a, a1, a2] w (fun r1 w1 => ex pD pY E K M go Q is L (r1.toList ++ r) w1)) := by
  rw [ex_eq]
  simp only [nx, List.length_cons, List.drop_succ_cons, List.drop_zero, List.take_succ_cons, List.take_zero, List.reverse_cons, List.reverse_nil, List.nil_append, List.cons_append, List.getElem?_cons_succ, List.getElem?_cons_zero]
  unfold gO
  have hq : ¬ (r.length + 3 < 3) := by omega
  by_cases h8 : 8 < aV_c r
  · have h9 : ¬ aV_c r ≤ 8 := by omega
    rw [if_pos (Or.inr h8)]
    generalize w[a]? = o
    rcases o with _ | x | ⟨c, fs⟩
    · rfl
    · rfl
    · show False = ((c = ci ∧ aV_c r ≤ 8) ∧ _)
      simp [h9]
  · have h9 : aV_c r ≤ 8 := by omega
    rw [if_neg (fun h => h.elim (by omega) h8)]
    generalize w[a]? = o
    rcases o with _ | x | ⟨c, fs⟩
    · rfl
    · rfl
    · simp only [exO_if]
      show (if c = ci then _ else False) = ((c = ci ∧ aV_c r ≤ 8) ∧ _)
      rw [if_T]
      simp only [h9, and_true]
      rfl
theorem x_virtual_3 {a1 a2 a3 : Value} {idx mi ci pl a : Nat} : ex pD pY E K M go Q ((pc, .invokevirtual idx, len, [mi, 3, ci, pl], z) :: is) L (a3 :: a2 :: a1 :: .ref a :: r) w = oM (gO w a) (fun q => (q.1 = ci ∧ aV_c r ≤ 8) ∧ K mi [.ref a, a1, a2, a3] w (fun r1 w1 => ex pD pY E K M go Q is L (r1.toList ++ r) w1)) := by
  rw [ex_eq]
  simp only [nx, List.length_cons, List.drop_succ_cons, List.drop_zero, List.take_succ_cons, List.take_zero, List.reverse_cons, List.reverse_nil, List.nil_append, List.cons_append, List.getElem?_cons_succ, List.getElem?_cons_zero]
  unfold gO
  have hq : ¬ (r.length + 4 < 4) := by omega
  by_cases h8 : 8 < aV_c r
  · have h9 : ¬ aV_c r ≤ 8 := by omega
    rw [if_pos (Or.inr h8)]
    generalize w[a]? = o
    rcases o with _ | x | ⟨c, fs⟩
    · rfl
    · rfl
    · show False = ((c = ci ∧ aV_c r ≤ 8) ∧ _)
      simp [h9]
  · have h9 : aV_c r ≤ 8 := by omega
    rw [if_neg (fun h => h.elim (by omega) h8)]
    generalize w[a]? = o
    rcases o with _ | x | ⟨c, fs⟩
    · rfl
    · rfl
    · simp only [exO_if]
      show (if c = ci then _ else False) = ((c = ci ∧ aV_c r ≤ 8) ∧ _)
      rw [if_T]
      simp only [h9, and_true]
      rfl
theorem x_virtual_4 {a1 a2 a3 a4 : Value} {idx mi ci pl a : Nat} : ex pD pY E K M go Q ((pc, .invokevirtual idx, len, [mi, 4, ci, pl], z) :: is) L (a4 :: a3 :: a2 :: a1 :: .ref a :: r) w = oM (gO w a) (fun q => (q.1 = ci ∧ aV_c r ≤ 8) ∧ K mi [.ref a, a1, a2, a3, a4] w (fun r1 w1 => ex pD pY E K M go Q is L (r1.toList ++ r) w1)) := by
  rw [ex_eq]
  simp only [nx, List.length_cons, List.drop_succ_cons, List.drop_zero, List.take_succ_cons, List.take_zero, List.reverse_cons, List.reverse_nil, List.nil_append, List.cons_append, List.getElem?_cons_succ, List.getElem?_cons_zero]
  unfold gO
  have hq : ¬ (r.length + 5 < 5) := by omega
  by_cases h8 : 8 < aV_c r
  · have h9 : ¬ aV_c r ≤ 8 := by omega
    rw [if_pos (Or.inr h8)]
    generalize w[a]? = o
    rcases o with _ | x | ⟨c, fs⟩
    · rfl
    · rfl
    · show False = ((c = ci ∧ aV_c r ≤ 8) ∧ _)
      simp [h9]
  · have h9 : aV_c r ≤ 8 := by omega
    rw [if_neg (fun h => h.elim (by omega) h8)]
    generalize w[a]? = o
    rcases o with _ | x | ⟨c, fs⟩
    · rfl
    · rfl
    · simp only [exO_if]
      show (if c = ci then _ else False) = ((c = ci ∧ aV_c r ≤ 8) ∧ _)
      rw [if_T]
      simp only [h9, and_true]
      rfl
theorem x_virtual_5 {a1 a2 a3 a4 a5 : Value} {idx mi ci pl a : Nat} : ex pD pY E K M go Q ((pc, .invokevirtual idx, len, [mi, 5, ci, pl], z) :: is) L (a5 :: a4 :: a3 :: a2 :: a1 :: .ref a :: r) w = oM (gO w a) (fun q => (q.1 = ci ∧ aV_c r ≤ 8) ∧ K mi [.ref a, a1, a2, a3, a4, a5] w (fun r1 w1 => ex pD pY E K M go Q is L (r1.toList ++ r) w1)) := by
  rw [ex_eq]
  simp only [nx, List.length_cons, List.drop_succ_cons, List.drop_zero, List.take_succ_cons, List.take_zero, List.reverse_cons, List.reverse_nil, List.nil_append, List.cons_append, List.getElem?_cons_succ, List.getElem?_cons_zero]
  unfold gO
  have hq : ¬ (r.length + 6 < 6) := by omega
  by_cases h8 : 8 < aV_c r
  · have h9 : ¬ aV_c r ≤ 8 := by omega
    rw [if_pos (Or.inr h8)]
    generalize w[a]? = o
    rcases o with _ | x | ⟨c, fs⟩
    · rfl
    · rfl
    · show False = ((c = ci ∧ aV_c r ≤ 8) ∧ _)
      simp [h9]
  · have h9 : aV_c r ≤ 8 := by omega
    rw [if_neg (fun h => h.elim (by omega) h8)]
    generalize w[a]? = o
    rcases o with _ | x | ⟨c, fs⟩
    · rfl
    · rfl
    · simp only [exO_if]
      show (if c = ci then _ else False) = ((c = ci ∧ aV_c r ≤ 8) ∧ _)
      rw [if_T]
      simp only [h9, and_true]
      rfl
theorem x_static_0 {idx mi pl : Nat} : ex pD pY E K M go Q ((pc, .invokestatic idx, len, [mi, 0, pl], z) :: is) L (r) w = (aV_c r ≤ 8 ∧ K mi [] w (fun r1 w1 => ex pD pY E K M go Q is L (r1.toList ++ r) w1)) := by
  rw [ex_eq]
  simp only [nx, List.length_cons, List.drop_succ_cons, List.drop_zero, List.take_succ_cons, List.take_zero, List.reverse_cons, List.reverse_nil, List.nil_append, List.cons_append]
  rw [exO_if]
  by_cases h8 : 8 < aV_c r
  · have h9 : ¬ aV_c r ≤ 8 := by omega
    rw [if_pos (Or.inr h8)]
    show False = _
    simp [h9]
  · have h9 : aV_c r ≤ 8 := by omega
    rw [if_neg (fun h => h.elim (by omega) h8)]
    simp only [h9, true_and]
    rfl
theorem x_static_1 {a1 : Value} {idx mi pl : Nat} : ex pD pY E K M go Q ((pc, .invokestatic idx, len, [mi, 1, pl], z) :: is) L (a1 :: r) w = (aV_c r ≤ 8 ∧ K mi [a1] w (fun r1 w1 => ex pD pY E K M go Q is L (r1.toList ++ r) w1)) := by
  rw [ex_eq]
  simp only [nx, List.length_cons, List.drop_succ_cons, List.drop_zero, List.take_succ_cons, List.take_zero, List.reverse_cons, List.reverse_nil, List.nil_append, List.cons_append]
  rw [exO_if]
  by_cases h8 : 8 < aV_c r
  · have h9 : ¬ aV_c r ≤ 8 := by omega
    rw [if_pos (Or.inr h8)]
    show False = _
    simp [h9]
  · have h9 : aV_c r ≤ 8 := by omega
    rw [if_neg (fun h => h.elim (by omega) h8)]
    simp only [h9, true_and]
    rfl
theorem x_static_2 {a1 a2 : Value} {idx mi pl : Nat} : ex pD pY E K M go Q ((pc, .invokestatic idx, len, [mi, 2, pl], z) :: is) L (a2 :: a1 :: r) w = (aV_c r ≤ 8 ∧ K mi [a1, a2] w (fun r1 w1 => ex pD pY E K M go Q is L (r1.toList ++ r) w1)) := by
  rw [ex_eq]
  simp only [nx, List.length_cons, List.drop_succ_cons, List.drop_zero, List.take_succ_cons, List.take_zero, List.reverse_cons, List.reverse_nil, List.nil_append, List.cons_append]
  rw [exO_if]
  by_cases h8 : 8 < aV_c r
  · have h9 : ¬ aV_c r ≤ 8 := by omega
    rw [if_pos (Or.inr h8)]
    show False = _
    simp [h9]
  · have h9 : aV_c r ≤ 8 := by omega
    rw [if_neg (fun h => h.elim (by omega) h8)]
    simp only [h9, true_and]
    rfl
theorem x_static_3 {a1 a2 a3 : Value} {idx mi pl : Nat} : ex pD pY E K M go Q ((pc, .invokestatic idx, len, [mi, 3, pl], z) :: is) L (a3 :: a2 :: a1 :: r) w = (aV_c r ≤ 8 ∧ K mi [a1, a2, a3] w (fun r1 w1 => ex pD pY E K M go Q is L (r1.toList ++ r) w1)) := by
  rw [ex_eq]
  simp only [nx, List.length_cons, List.drop_succ_cons, List.drop_zero, List.take_succ_cons, List.take_zero, List.reverse_cons, List.reverse_nil, List.nil_append, List.cons_append]
  rw [exO_if]
  by_cases h8 : 8 < aV_c r
  · have h9 : ¬ aV_c r ≤ 8 := by omega
    rw [if_pos (Or.inr h8)]
    show False = _
    simp [h9]
  · have h9 : aV_c r ≤ 8 := by omega
    rw [if_neg (fun h => h.elim (by omega) h8)]
    simp only [h9, true_and]
    rfl
theorem x_static_4 {a1 a2 a3 a4 : Value} {idx mi pl : Nat} : ex pD pY E K M go Q ((pc, .invokestatic idx, len, [mi, 4, pl], z) :: is) L (a4 :: a3 :: a2 :: a1 :: r) w = (aV_c r ≤ 8 ∧ K mi [a1, a2, a3, a4] w (fun r1 w1 => ex pD pY E K M go Q is L (r1.toList ++ r) w1)) := by
  rw [ex_eq]
  simp only [nx, List.length_cons, List.drop_succ_cons, List.drop_zero, List.take_succ_cons, List.take_zero, List.reverse_cons, List.reverse_nil, List.nil_append, List.cons_append]
  rw [exO_if]
  by_cases h8 : 8 < aV_c r
  · have h9 : ¬ aV_c r ≤ 8 := by omega
    rw [if_pos (Or.inr h8)]
    show False = _
    simp [h9]
  · have h9 : aV_c r ≤ 8 := by omega
    rw [if_neg (fun h => h.elim (by omega) h8)]
    simp only [h9, true_and]
    rfl
theorem x_static_5 {a1 a2 a3 a4 a5 : Value} {idx mi pl : Nat} : ex pD pY E K M go Q ((pc, .invokestatic idx, len, [mi, 5, pl], z) :: is) L (a5 :: a4 :: a3 :: a2 :: a1 :: r) w = (aV_c r ≤ 8 ∧ K mi [a1, a2, a3, a4, a5] w (fun r1 w1 => ex pD pY E K M go Q is L (r1.toList ++ r) w1)) := by
  rw [ex_eq]
  simp only [nx, List.length_cons, List.drop_succ_cons, List.drop_zero, List.take_succ_cons, List.take_zero, List.reverse_cons, List.reverse_nil, List.nil_append, List.cons_append]
  rw [exO_if]
  by_cases h8 : 8 < aV_c r
  · have h9 : ¬ aV_c r ≤ 8 := by omega
    rw [if_pos (Or.inr h8)]
    show False = _
    simp [h9]
  · have h9 : aV_c r ≤ 8 := by omega
    rw [if_neg (fun h => h.elim (by omega) h8)]
    simp only [h9, true_and]
    rfl
theorem x_static_6 {a1 a2 a3 a4 a5 a6 : Value} {idx mi pl : Nat} : ex pD pY E K M go Q ((pc, .invokestatic idx, len, [mi, 6, pl], z) :: is) L (a6 :: a5 :: a4 :: a3 :: a2 :: a1 :: r) w = (aV_c r ≤ 8 ∧ K mi [a1, a2, a3, a4, a5, a6] w (fun r1 w1 => ex pD pY E K M go Q is L (r1.toList ++ r) w1)) := by
  rw [ex_eq]
  simp only [nx, List.length_cons, List.drop_succ_cons, List.drop_zero, List.take_succ_cons, List.take_zero, List.reverse_cons, List.reverse_nil, List.nil_append, List.cons_append]
  rw [exO_if]
  by_cases h8 : 8 < aV_c r
  · have h9 : ¬ aV_c r ≤ 8 := by omega
    rw [if_pos (Or.inr h8)]
    show False = _
    simp [h9]
  · have h9 : aV_c r ≤ 8 := by omega
    rw [if_neg (fun h => h.elim (by omega) h8)]
    simp only [h9, true_and]
    rfl
theorem x_min {idx pl : Nat} {x y : Int32} : ex pD pY E K M go Q ((pc, .invokestatic idx, len, [0, pl], z) :: is) L (.int y :: .int x :: r) w = (aV_c r ≤ 8 ∧ ex pD pY E K M go Q is L (.int (if y < x then y else x) :: r) w) := by rw [ex_eq]; simp only [nx]; rw [exO_if]; exact if_T
theorem x_max {idx pl : Nat} {x y : Int32} : ex pD pY E K M go Q ((pc, .invokestatic idx, len, [1, pl], z) :: is) L (.int y :: .int x :: r) w = (aV_c r ≤ 8 ∧ ex pD pY E K M go Q is L (.int (if x < y then y else x) :: r) w) := by rw [ex_eq]; simp only [nx]; rw [exO_if]; exact if_T
theorem x_abs {idx pl : Nat} {x : Int32} : ex pD pY E K M go Q ((pc, .invokestatic idx, len, [2, pl], z) :: is) L (.int x :: r) w = (aV_c r ≤ 8 ∧ ex pD pY E K M go Q is L (.int (if 0 ≤ x then x else 0 - x) :: r) w) := by rw [ex_eq]; simp only [nx]; rw [exO_if]; exact if_T
theorem x_labs {idx pl : Nat} {x : Int64} : ex pD pY E K M go Q ((pc, .invokestatic idx, len, [3, pl], z) :: is) L (.long x :: r) w = (aV_c r ≤ 8 ∧ ex pD pY E K M go Q is L (.long (if 0 < x then x else -x) :: r) w) := by rw [ex_eq]; simp only [nx]; rw [exO_if]; exact if_T
theorem x_ireturn {v : Int32} (h : M.2.2.2.1 = some .int) : ex pD pY E K M go Q ((pc, .ireturn, len, as, z) :: is) L [.int v] w = Q (some (.int v)) w := by rw [ex_eq]; simp only [nx, h]; rfl
theorem x_zreturn {v : Int32} (h : M.2.2.2.1 = some .boolean) : ex pD pY E K M go Q ((pc, .ireturn, len, as, z) :: is) L [.int v] w = ((v = 0 ∨ v = 1) ∧ Q (some (.int v)) w) := by rw [ex_eq]; simp only [nx, h]; rw [exO_if]; exact if_T
theorem x_lreturn {v : Int64} (h : M.2.2.2.1 = some .long) : ex pD pY E K M go Q ((pc, .lreturn, len, as, z) :: is) L [.long v] w = Q (some (.long v)) w := by rw [ex_eq]; simp only [nx, h]; rfl
theorem x_areturn {a : Nat} {C : String} (h : M.2.2.2.1 = some (.object C)) : ex pD pY E K M go Q ((pc, .areturn, len, as, z) :: is) L [.ref a] w = Q (some (.ref a)) w := by rw [ex_eq]; simp only [nx, h]; rfl
theorem x_return (h : M.2.2.2.1 = none) (h2 : M.2.2.2.2.1 = (0, 0)) : ex pD pY E K M go Q ((pc, .return_, len, as, z) :: is) L [] w = Q none w := by rw [ex_eq]; simp only [nx, h, h2]; rfl
theorem x_tsw {df lo hi : Int} {offs : Array Int} {t : Nat} {ts : List Nat} {x : Int32} : ex pD pY E K M go Q ((pc, .tableswitch df lo hi offs, len, t :: ts, z) :: is) L (.int x :: r) w = (if x.toInt < lo ∨ hi < x.toInt then go t L r w else oM (ts[(x.toInt - lo).toNat]?) (fun u => go u L r w)) := by
  rw [ex_eq]
  simp only [nx]
  rw [exO_if]
  congr 1
  cases ts[(x.toInt - lo).toNat]? <;> rfl
end XS
theorem k_int {x : Int32} : aL_k (.int x) = .int x := rfl
theorem k_ref {x : Nat} : aL_k (.ref x) = .ref x := rfl
theorem k_long {x : Int64} : aL_k (.long x) = .null := rfl
theorem k_null : aL_k .null = .null := rfl
theorem vc_nil : aV_c [] = 0 := rfl
theorem vc_int {x : Int32} {r : List Value} : aV_c (.int x :: r) = 1 + aV_c r := rfl
theorem vc_ref {x : Nat} {r : List Value} : aV_c (.ref x :: r) = 1 + aV_c r := rfl
theorem vc_long {x : Int64} {r : List Value} : aV_c (.long x :: r) = 2 + aV_c r := rfl
theorem tl_some {v : Value} {r : List Value} : (some v).toList ++ r = v :: r := rfl
theorem tl_none {r : List Value} : (none : Option Value).toList ++ r = r := rfl
