/-! ===== PairSorts.Maker: make ===== -/
/-- the cells while the pairs are written: those of columns below y, and of column y the first m -/
def mIv (k a b n y m : Nat) (f : Nat → Int32) : Prop := (∀ p, p < n → f (13 * p + p) = Int32.ofInt 0) ∧ ∀ p q, p < q → q < n → (q < y ∨ (q = y ∧ p < m)) → ∃ v : Nat, mRel k a b n p q v ∧ f (13 * p + q) = Int32.ofInt v ∧ f (13 * q + p) = Int32.ofInt v
theorem mIv_end {k a b n : Nat} {f : Nat → Int32} (ho : mOK k a b n) (h : mIv k a b n n 0 f) : ∃ R, tOK n R ∧ tHas 0 n R f ∧ ∀ x y, x < y → y < n → mRel k a b n x y (R x y) := by
  have hv : ∀ x y, x < y → y < n → ∃ v : Nat, mRel k a b n x y v ∧ (1 ≤ v ∧ v ≤ 5) ∧ f (13 * x + y) = Int32.ofInt v ∧ f (13 * y + x) = Int32.ofInt v := by
    intro x y hxy hy
    obtain ⟨v, h1, h2, h3⟩ := h.2 x y hxy hy (Or.inl hy)
    exact ⟨v, h1, mRel_rg ho hxy hy h1, h2, h3⟩
  have hto : ∀ v : Nat, v ≤ 5 → (Int32.ofInt (v : Int)).toInt.toNat = v := by
    intro v hv5
    rw [ia_to ⟨by omega, by omega⟩]
    omega
  refine ⟨fun x y => (f (13 * x + y)).toInt.toNat, ⟨ho.1.1, ho.1.2, fun x hx => ?_, fun x y hx hy => ?_, fun x y hx hy hne => ?_⟩, fun x y hx hy => ?_, fun x y hxy hy => ?_⟩
  · show (f (13 * x + x)).toInt.toNat = 0
    rw [h.1 x hx, ia_to rg_0]
    rfl
  · show (f (13 * x + y)).toInt.toNat = (f (13 * y + x)).toInt.toNat
    rcases Nat.lt_trichotomy x y with q | q | q
    · obtain ⟨v, -, -, h2, h3⟩ := hv x y q hy
      rw [h2, h3]
    · rw [q]
    · obtain ⟨v, -, -, h2, h3⟩ := hv y x q hx
      rw [h2, h3]
  · show 1 ≤ (f (13 * x + y)).toInt.toNat ∧ (f (13 * x + y)).toInt.toNat ≤ 5
    rcases Nat.lt_trichotomy x y with q | q | q
    · obtain ⟨v, -, hr, h2, h3⟩ := hv x y q hy
      rw [h2, hto v hr.2]
      exact hr
    · exact absurd q hne
    · obtain ⟨v, -, hr, h2, h3⟩ := hv y x q hx
      rw [h3, hto v hr.2]
      exact hr
  · rw [Nat.zero_add]
    show f (13 * x + y) = Int32.ofInt (((f (13 * x + y)).toInt.toNat : Nat) : Int)
    rcases Nat.lt_trichotomy x y with q | q | q
    · obtain ⟨v, -, hr, h2, h3⟩ := hv x y q hy
      rw [h2, hto v hr.2]
    · rw [q, h.1 y hy, ia_to rg_0]
      rfl
    · obtain ⟨v, -, hr, h2, h3⟩ := hv y x q hx
      rw [h3, hto v hr.2]
  · obtain ⟨v, hm, hr, h2, h3⟩ := hv x y hxy hy
    show mRel k a b n x y (f (13 * x + y)).toInt.toNat
    rw [h2, hto v hr.2]
    exact hm
