/-! ===== what stands after both constructors ===== -/
def s00 : St := (4, rst, [], fun _ => 0, [])
theorem rst_ok : tOK 4 rst := by
  refine ⟨by omega, by omega, fun x _ => ?_, fun x y _ _ => ?_, fun x y _ _ h => ?_⟩
  · unfold rst; rw [if_pos rfl]
  · unfold rst
    by_cases e : x = y
    · rw [if_pos e, if_pos e.symm]
    · rw [if_neg e, if_neg (fun q => e q.symm)]
  · unfold rst; rw [if_neg h]; omega
theorem w0_RI {fS fT f0 f1 f2 f3 f4 f5 fF fA : Nat → Int32} {g : Nat → Option Nat} (h0 : fA 0 = Int32.ofInt 4) (hA : tHas 1 4 rst fA) : RI (wP fS fT f0 f1 f2 f3 f4 f5 fF g ++ wR fA) (wP fS fT f0 f1 f2 f3 f4 f5 fF g ++ wR fA) s00 := by
  refine ⟨fun _ => 0, fun _ => 0, fun a => if a = 63 then fA else fun _ => 0, fun _ _ => 0, ⟨⟨rfl, ?_⟩, fun a n h => ?_, fun a n h => ?_, eqr.rf _ _ _⟩, ⟨h0, hA⟩, rst_ok, ?_, rfl, fun k hk => rfl, rfl, ?_⟩
  · show 88 < (wP fS fT f0 f1 f2 f3 f4 f5 fF g ++ wR fA).length
    exact Nat.le_of_ble_eq_true rfl
  · unfold rI at h
    split at h <;> first | (cases h; rfl) | cases h
  · unfold rL at h
    split at h <;> first | (cases h; rfl) | cases h
  · exact ⟨Nat.zero_le _, rfl, fun j t h => by cases h⟩
  · exact ⟨Nat.zero_le _, fun c hc => (List.not_mem_nil hc).elim, fun k c h => by cases h⟩
theorem w0_CI {fS fT f0 f1 f2 f3 f4 f5 fF fA : Nat → Int32} {g : Nat → Option Nat} (hS : tHas 0 4 rst fS) (hT : tHas 0 4 rst fT) (hg : ∀ j, j < 6 → g j = some (12 + 2 * j)) : CI (wP fS fT f0 f1 f2 f3 f4 f5 fF g ++ wR fA) (wP fS fT f0 f1 f2 f3 f4 f5 fF g ++ wR fA) s00 := by
  have hl : (wP fS fT f0 f1 f2 f3 f4 f5 fF g ++ wR fA).length = 89 := rfl
  have tb : ∀ {t a : Nat} {f : Nat → Int32}, gO (wP fS fT f0 f1 f2 f3 f4 f5 fF g ++ wR fA) t = some (8, [.int (Int32.ofInt ((4 : Nat) : Int)), .ref a]) → gI (wP fS fT f0 f1 f2 f3 f4 f5 fF g ++ wR fA) a = some (169, f) → a ≠ t → a < 89 → t < 89 → tbl (wP fS fT f0 f1 f2 f3 f4 f5 fF g ++ wR fA) t a 4 f := fun h1 h2 h3 h4 h5 => ⟨h1, h2, h3, by rw [hl]; exact h4, by rw [hl]; exact h5⟩
  refine ⟨eqr.rf _ _ _, rst_ok, rfl, ?_, ?_, ?_, ?_, ?_, ?_, ?_, ?_, ?_, ?_, ?_, ?_⟩
  · exact Or.inl ⟨fS, 0, Int32.ofInt 0, fun _ => 0, fun _ => 0, fun _ => 0, fun _ => 0, ⟨rfl, tb rfl rfl (by decide) (by decide) (by decide), rfl, rfl, rfl, rfl, by rw [hl]; decide⟩, hS⟩
  · exact ⟨rst_ok, fT, tb rfl rfl (by decide) (by decide) (by decide), hT⟩
  · refine ⟨Nat.zero_le _, fun p => p, ⟨rfl, ⟨g, rfl, hg⟩, fun j hj => hj, fun i j _ _ e => e, fun p hp => ?_, by rw [hl]; decide⟩, fun j t h => by cases h⟩
    rcases (show p = 0 ∨ p = 1 ∨ p = 2 ∨ p = 3 ∨ p = 4 ∨ p = 5 by omega) with e | e | e | e | e | e <;> subst e
    · exact ⟨4, f0, tb rfl rfl (by decide) (by decide) (by decide)⟩
    · exact ⟨4, f1, tb rfl rfl (by decide) (by decide) (by decide)⟩
    · exact ⟨4, f2, tb rfl rfl (by decide) (by decide) (by decide)⟩
    · exact ⟨4, f3, tb rfl rfl (by decide) (by decide) (by decide)⟩
    · exact ⟨4, f4, tb rfl rfl (by decide) (by decide) (by decide)⟩
    · exact ⟨4, f5, tb rfl rfl (by decide) (by decide) (by decide)⟩
  · exact ⟨fun _ => 0, rfl, rfl, by rw [hl]; decide⟩
  · exact ⟨0, 0, 0, 0, fun _ => 0, fun _ => 0, fun _ => 0, fun _ => 0, ⟨rfl, rfl, rfl, rfl, rfl, by rw [hl]; decide⟩, Or.inl rfl⟩
  · exact ⟨0, 0, fun _ => 0, fun _ => 0, fun _ => 0, fun _ => 0, ⟨rfl, rfl, rfl, rfl, rfl, by rw [hl]; decide⟩, Or.inl rfl⟩
  · exact ⟨0, 0, fun _ => 0, fun _ => 0, fun _ => 0, fun _ => 0, ⟨rfl, rfl, rfl, rfl, rfl, by rw [hl]; decide⟩, Or.inl rfl⟩
  · exact ⟨0, 0, fun _ => 0, fun _ => 0, ⟨⟨rfl, rfl, rfl, by rw [hl]; decide⟩, 4, fF, 0, 0, 0, 0, fun _ => 0, fun _ => 0, fun _ => 0, fun _ => 0, ⟨rfl, tb rfl rfl (by decide) (by decide) (by decide), rfl, rfl, rfl, rfl, by rw [hl]; decide⟩⟩, Or.inl rfl⟩
  · exact ⟨fun _ => 0, fun _ => 0, 0, rfl, rfl, rfl, by rw [hl]; decide⟩
  · exact ⟨0, 0, 0, fun _ => 0, fun _ => 0, rfl, rfl, rfl, by rw [hl]; decide⟩
  · exact ⟨0, 0, 0, 0, 0, fun _ => 0, fun _ => 0, fun _ => 0, ⟨rfl, rfl, rfl, rfl, by rw [hl]; decide⟩, Nat.zero_le _, fun c hc => (List.not_mem_nil hc).elim, fun k c h => by cases h⟩
  · exact ⟨fun _ => 0, rfl, fun k hk => rfl, by rw [hl]; decide⟩
