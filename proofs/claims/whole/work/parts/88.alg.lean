/-! ===== the algebra of a scheme ===== -/
/-- a scheme: its valencies and intersection numbers -/
def kv (n : Nat) (R : Nat → Nat → Nat) (i : Nat) : Nat := dgr R i n
theorem pjk_at {n : Nat} {R : Nat → Nat → Nat} (hR : tOK n R) (hs : isSc n R) {x y : Nat} (hx : x < n) (hy : y < n) (i j : Nat) : pjk n R i j (R x y) = pnz R x y i j n := pjk_is hR hs ⟨x, y, hx, hy, rfl, rfl⟩
theorem ind_R {n : Nat} {R : Nat → Nat → Nat} (hR : tOK n R) {x z : Nat} (hx : x < n) (hz : z < n) : sg (fun i => ind (R x z = i)) (gry R n + 1) = 1 := sg_d1 (by have := R_le hR hx hz; omega)
/-- how many points a point has of a sort -/
theorem val_at {n : Nat} {R : Nat → Nat → Nat} (hR : tOK n R) (hs : isSc n R) {x : Nat} (hx : x < n) {i : Nat} (hi : i ≤ gry R n) : sg (fun z => ind (R x z = i)) n = (kv n R i : Int) := by
  have h0 : 0 < n := hR.1
  have key : ∀ x, x < n → sg (fun z => ind (R x z = i)) n = (pnz R x x i i n : Int) := by
    intro x hx
    rw [pnz_sg]
    refine sg_cg (fun z hz => ?_)
    rw [hR.2.2.2.1 z x hz hx]
    unfold ind
    split <;> rfl
  have e : pnz R x x i i n = pnz R 0 0 i i n := by
    rw [← pjk_at hR hs hx hx, ← pjk_at hR hs h0 h0, hR.2.2.1 x hx, hR.2.2.1 0 h0]
  rw [key x hx, e, ← key 0 h0]
  unfold kv
  rw [dgr_sg]
theorem kv_pos {n : Nat} {R : Nat → Nat → Nat} (hR : tOK n R) (hs : isSc n R) {i : Nat} (hi : i ≤ gry R n) : 1 ≤ kv n R i := by
  obtain ⟨x, y, hx, hy, e⟩ := sc_occ hR hs hi
  have h := val_at hR hs hx hi
  have h2 : ind (R x y = i) ≤ sg (fun z => ind (R x z = i)) n := sg_one (f := fun z => ind (R x z = i)) (n := n) (fun k _ => ind_nn _) y hy
  rw [ind_y e, h] at h2
  omega
theorem kv_0 {n : Nat} {R : Nat → Nat → Nat} (hR : tOK n R) (hs : isSc n R) : kv n R 0 = 1 := by
  have h := val_at hR hs hR.1 (i := 0) (Nat.zero_le _)
  have h2 : sg (fun z => ind (R 0 z = 0)) n = 1 := by
    rw [← sg_d1 (j := 0) (n := n) hR.1]
    refine sg_cg (fun z hz => ind_cg ?_)
    constructor
    · intro q
      refine Decidable.byContradiction fun hne => ?_
      have := hR.2.2.2.2 0 z hR.1 hz hne
      omega
    · intro q
      rw [← q]
      exact hR.2.2.1 0 hR.1
  rw [h2] at h
  omega
/-- all valencies together -/
theorem kv_sum {n : Nat} {R : Nat → Nat → Nat} (hR : tOK n R) (hs : isSc n R) : sg (fun i => (kv n R i : Int)) (gry R n + 1) = (n : Int) := by
  have h : sg (fun i => (kv n R i : Int)) (gry R n + 1) = sg (fun i => sg (fun z => ind (R 0 z = i)) n) (gry R n + 1) := sg_cg (fun i hi => (val_at hR hs hR.1 (by omega)).symm)
  rw [h, sg_com]
  have h2 : sg (fun y => sg (fun x => ind (R 0 y = x)) (gry R n + 1)) n = sg (fun _ => 1) n := sg_cg (fun y hy => ind_R hR hR.1 hy)
  rw [h2]
  have : ∀ m : Nat, sg (fun _ => 1) m = (m : Int) := by
    intro m
    induction m with
    | zero => rfl
    | succ m ih => rw [sg_s, ih]; rfl
  exact this n
theorem pjk_sy {n : Nat} {R : Nat → Nat → Nat} (hR : tOK n R) (hs : isSc n R) {i j k : Nat} (hk : k ≤ gry R n) : pjk n R i j k = pjk n R j i k := by
  obtain ⟨x, y, hx, hy, e⟩ := sc_occ hR hs hk
  have e2 : R y x = k := by rw [hR.2.2.2.1 y x hy hx]; exact e
  have h1 := pjk_at hR hs hx hy i j
  have h2 := pjk_at hR hs hy hx j i
  rw [e] at h1
  rw [e2] at h2
  rw [h1, h2]
  exact pnz_sym hR hx hy n (Nat.le_refl _)
/-- the paths of all first sorts -/
theorem pjk_sum {n : Nat} {R : Nat → Nat → Nat} (hR : tOK n R) (hs : isSc n R) {j k : Nat} (hj : j ≤ gry R n) (hk : k ≤ gry R n) : sg (fun i => (pjk n R i j k : Int)) (gry R n + 1) = (kv n R j : Int) := by
  obtain ⟨x, y, hx, hy, e⟩ := sc_occ hR hs hk
  have h1 : sg (fun i => (pjk n R i j k : Int)) (gry R n + 1) = sg (fun i => sg (fun z => ind (R x z = i) * ind (R z y = j)) n) (gry R n + 1) := sg_cg (fun i _ => by rw [← pnz_sg, ← pjk_at hR hs hx hy, e])
  rw [h1, sg_com]
  have h2 : sg (fun z => sg (fun i => ind (R x z = i) * ind (R z y = j)) (gry R n + 1)) n = sg (fun z => ind (R y z = j)) n := by
    refine sg_cg (fun z hz => ?_)
    rw [sg_mur, ind_R hR hx hz, Int.one_mul, hR.2.2.2.1 z y hz hy]
  rw [h2]
  exact val_at hR hs hy hj
/-- triangles -/
theorem pjk_tri {n : Nat} {R : Nat → Nat → Nat} (hR : tOK n R) (hs : isSc n R) {i j k : Nat} (hi : i ≤ gry R n) (hk : k ≤ gry R n) : (kv n R k : Int) * pjk n R i j k = (kv n R i : Int) * pjk n R k j i := by
  have h0 := hR.1
  have key : ∀ a b c, a ≤ gry R n → (kv n R a : Int) * pjk n R b c a = sg (fun y => sg (fun z => ind (R 0 y = a) * (ind (R 0 z = b) * ind (R z y = c))) n) n := by
    intro a b c ha
    rw [← val_at hR hs h0 ha, ← sg_mur]
    refine sg_cg (fun y hy => ?_)
    rw [sg_mul, ← pnz_sg]
    by_cases q : R 0 y = a
    · rw [ind_y q, Int.one_mul, Int.one_mul, ← pjk_at hR hs h0 hy, q]
    · rw [ind_n q, Int.zero_mul, Int.zero_mul]
  rw [key k i j hk, key i k j hi, sg_com]
  refine sg_cg (fun z hz => sg_cg (fun y hy => ?_))
  rw [hR.2.2.2.1 z y hz hy, Int.mul_left_comm]
theorem pjk_0 {n : Nat} {R : Nat → Nat → Nat} (hR : tOK n R) (hs : isSc n R) {j k : Nat} (hk : k ≤ gry R n) : (pjk n R 0 j k : Int) = ind (k = j) := by
  obtain ⟨x, y, hx, hy, e⟩ := sc_occ hR hs hk
  have h1 := pjk_at hR hs hx hy 0 j
  rw [e, pnz_0 hR hx n (Nat.le_refl _)] at h1
  rw [h1, e]
  unfold ind
  by_cases q : k = j
  · rw [if_pos ⟨hx, q⟩, if_pos q]; rfl
  · rw [if_neg (fun p => q p.2), if_neg q]; rfl
/-- a row: whole numbers that multiply as the sorts do -/
def mulP (n : Nat) (R : Nat → Nat → Nat) (a : Nat → Int) : Prop := ∀ i j, 1 ≤ j → j ≤ i → i ≤ gry R n → sg (fun k => (pjk n R i j k : Int) * a k) (gry R n + 1) = a i * a j
theorem mulP_all {n : Nat} {R : Nat → Nat → Nat} (hR : tOK n R) (hs : isSc n R) {a : Nat → Int} (h0 : a 0 = 1) (h : mulP n R a) : ∀ i j, i ≤ gry R n → j ≤ gry R n → sg (fun k => (pjk n R i j k : Int) * a k) (gry R n + 1) = a i * a j := by
  have sym : ∀ i j, sg (fun k => (pjk n R i j k : Int) * a k) (gry R n + 1) = sg (fun k => (pjk n R j i k : Int) * a k) (gry R n + 1) := fun i j => sg_cg (fun k hk => by rw [pjk_sy hR hs (by omega)])
  have zero : ∀ j, j ≤ gry R n → sg (fun k => (pjk n R 0 j k : Int) * a k) (gry R n + 1) = a 0 * a j := by
    intro j hj
    have e : sg (fun k => (pjk n R 0 j k : Int) * a k) (gry R n + 1) = sg (fun k => ind (j = k) * a k) (gry R n + 1) := sg_cg (fun k hk => by rw [pjk_0 hR hs (by omega), ind_cg (show k = j ↔ j = k from ⟨Eq.symm, Eq.symm⟩)])
    rw [e, sg_dl, if_pos (by omega), h0, Int.one_mul]
  intro i j hi hj
  by_cases i0 : i = 0
  · subst i0; exact zero j hj
  · by_cases j0 : j = 0
    · subst j0; rw [sym, zero i hi, Int.mul_comm]
    · rcases Nat.le_total j i with q | q
      · exact h i j (by omega) q hi
      · rw [sym, h j i (by omega) q hj, Int.mul_comm]
/-- the sum of a row other than the valencies' is 0 -/
theorem row_sum {n : Nat} {R : Nat → Nat → Nat} (hR : tOK n R) (hs : isSc n R) {a : Nat → Int} (h0 : a 0 = 1) (h : mulP n R a) : sg a (gry R n + 1) = 0 ∨ ∀ i, i ≤ gry R n → a i = (kv n R i : Int) := by
  have hall := mulP_all hR hs h0 h
  by_cases hz : sg a (gry R n + 1) = 0
  · exact Or.inl hz
  · right
    intro j hj
    have h1 : sg (fun i => a i * a j) (gry R n + 1) = sg a (gry R n + 1) * a j := sg_mur _ _ _
    have h2 : sg (fun i => a i * a j) (gry R n + 1) = (kv n R j : Int) * sg a (gry R n + 1) := by
      have e : sg (fun i => a i * a j) (gry R n + 1) = sg (fun i => sg (fun k => (pjk n R i j k : Int) * a k) (gry R n + 1)) (gry R n + 1) := sg_cg (fun i hi => (hall i j (by omega) hj).symm)
      rw [e, sg_com, ← sg_mul]
      refine sg_cg (fun k hk => ?_)
      rw [sg_mur, pjk_sum hR hs hj (by omega)]
    have h3 : sg a (gry R n + 1) * a j = sg a (gry R n + 1) * (kv n R j : Int) := by rw [← h1, h2, Int.mul_comm]
    exact Int.eq_of_mul_eq_mul_left hz h3
