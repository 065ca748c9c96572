/-! ===== rows: orthogonality, and how many there are ===== -/
def prd (k : Nat → Nat) : Nat → Nat
  | 0 => 1
  | i + 1 => prd k i * k i
theorem prd_pos {k : Nat → Nat} : ∀ {m : Nat}, (∀ i, i < m → 1 ≤ k i) → 1 ≤ prd k m := by
  intro m
  induction m with
  | zero => intro _; exact Nat.le_refl _
  | succ m ih =>
    intro h
    have h1 := ih (fun i hi => h i (by omega))
    have h2 := h m (by omega)
    unfold prd
    exact Nat.mul_le_mul h1 h2
theorem prd_dvd {k : Nat → Nat} : ∀ {m i : Nat}, i < m → k i ∣ prd k m := by
  intro m
  induction m with
  | zero => intro i hi; omega
  | succ m ih =>
    intro i hi
    unfold prd
    by_cases e : i = m
    · rw [e]; exact Nat.dvd_mul_left _ _
    · exact Nat.dvd_trans (ih (by omega)) (Nat.dvd_mul_right _ _)
/-- the product of all valencies, and without that of i -/
def prK (n : Nat) (R : Nat → Nat → Nat) : Nat := prd (kv n R) (gry R n + 1)
def shK (n : Nat) (R : Nat → Nat → Nat) (i : Nat) : Nat := prK n R / kv n R i
theorem shK_k {n : Nat} {R : Nat → Nat → Nat} {i : Nat} (hi : i ≤ gry R n) : kv n R i * shK n R i = prK n R := Nat.mul_div_cancel' (prd_dvd (by omega))
theorem prK_pos {n : Nat} {R : Nat → Nat → Nat} (hR : tOK n R) (hs : isSc n R) : 1 ≤ prK n R := prd_pos (fun i hi => kv_pos hR hs (by omega))
theorem shK_pos {n : Nat} {R : Nat → Nat → Nat} (hR : tOK n R) (hs : isSc n R) {i : Nat} (hi : i ≤ gry R n) : 1 ≤ shK n R i := by
  have h1 := shK_k (n := n) (R := R) hi
  have h2 := prK_pos hR hs
  rcases Nat.eq_zero_or_pos (shK n R i) with q | q
  · rw [q] at h1; omega
  · exact q
theorem pjk_w {n : Nat} {R : Nat → Nat → Nat} (hR : tOK n R) (hs : isSc n R) {i j k : Nat} (hi : i ≤ gry R n) (hk : k ≤ gry R n) : (pjk n R i j k : Int) * shK n R i = (pjk n R k j i : Int) * shK n R k := by
  have h1 := pjk_tri hR hs (j := j) hi hk
  have e1 : (kv n R i : Int) * shK n R i = prK n R := by exact_mod_cast shK_k hi
  have e2 : (kv n R k : Int) * shK n R k = prK n R := by exact_mod_cast shK_k hk
  have hp := prK_pos hR hs
  refine Int.eq_of_mul_eq_mul_left (a := (prK n R : Int)) (by omega) ?_
  have l1 : (prK n R : Int) * ((pjk n R i j k : Int) * shK n R i) = ((kv n R k : Int) * pjk n R i j k) * (shK n R k * shK n R i) := by
    rw [← e2]
    simp only [Int.mul_assoc, Int.mul_comm, Int.mul_left_comm]
  have l2 : (prK n R : Int) * ((pjk n R k j i : Int) * shK n R k) = ((kv n R i : Int) * pjk n R k j i) * (shK n R k * shK n R i) := by
    rw [← e1]
    simp only [Int.mul_assoc, Int.mul_comm, Int.mul_left_comm]
  rw [l1, l2, h1]
def ipr (n : Nat) (R : Nat → Nat → Nat) (a b : Nat → Int) : Int := sg (fun i => a i * b i * shK n R i) (gry R n + 1)
theorem ipr_0 {n : Nat} {R : Nat → Nat → Nat} (hR : tOK n R) (hs : isSc n R) {a b : Nat → Int} (ha0 : a 0 = 1) (ha : mulP n R a) (hb0 : b 0 = 1) (hb : mulP n R b) {j : Nat} (hj : j ≤ gry R n) (hne : a j ≠ b j) : ipr n R a b = 0 := by
  have ma := mulP_all hR hs ha0 ha
  have mb := mulP_all hR hs hb0 hb
  have l1 : a j * ipr n R a b = sg (fun i => sg (fun k => a k * (b i * ((pjk n R i j k : Int) * shK n R i))) (gry R n + 1)) (gry R n + 1) := by
    unfold ipr
    rw [← sg_mul]
    refine sg_cg (fun i hi => ?_)
    have e : a j * (a i * b i * shK n R i) = (a i * a j) * (b i * shK n R i) := by simp only [Int.mul_assoc, Int.mul_comm, Int.mul_left_comm]
    rw [e, ← ma i j (by omega) hj, ← sg_mur]
    refine sg_cg (fun k hk => ?_)
    simp only [Int.mul_assoc, Int.mul_comm, Int.mul_left_comm]
  have l2 : b j * ipr n R a b = sg (fun k => sg (fun i => a k * (b i * ((pjk n R k j i : Int) * shK n R k))) (gry R n + 1)) (gry R n + 1) := by
    unfold ipr
    rw [← sg_mul]
    refine sg_cg (fun k hk => ?_)
    have e : b j * (a k * b k * shK n R k) = (b k * b j) * (a k * shK n R k) := by simp only [Int.mul_assoc, Int.mul_comm, Int.mul_left_comm]
    rw [e, ← mb k j (by omega) hj, ← sg_mur]
    refine sg_cg (fun i hi => ?_)
    simp only [Int.mul_assoc, Int.mul_comm, Int.mul_left_comm]
  rw [sg_com] at l1
  have l3 : a j * ipr n R a b = b j * ipr n R a b := by
    rw [l1, l2]
    refine sg_cg (fun k hk => sg_cg (fun i hi => ?_))
    rw [pjk_w hR hs (by omega) (by omega)]
  refine Decidable.byContradiction fun hz => hne (Int.eq_of_mul_eq_mul_right hz l3)
theorem sq_nn (x : Int) : 0 ≤ x * x := by
  rcases Int.le_total 0 x with q | q
  · exact Int.mul_nonneg q q
  · have := Int.mul_nonneg (show 0 ≤ -x by omega) (show 0 ≤ -x by omega)
    rwa [Int.neg_mul_neg] at this
theorem ipr_pos {n : Nat} {R : Nat → Nat → Nat} (hR : tOK n R) (hs : isSc n R) {a : Nat → Int} (ha0 : a 0 = 1) : 0 < ipr n R a a := by
  have h1 : (fun i => a i * a i * (shK n R i : Int)) 0 ≤ ipr n R a a := sg_one (fun k _ => Int.mul_nonneg (sq_nn _) (by omega)) 0 (by omega)
  simp only [ha0] at h1
  have := shK_pos hR hs (i := 0) (Nat.zero_le _)
  omega
/-- a sum with one summand taken out -/
theorem sg_skp (f : Nat → Int) : ∀ (m p : Nat), p ≤ m → sg f (m + 1) = f p + sg (fun r => f (skp p r)) m := by
  intro m
  induction m with
  | zero => intro p hp; rw [show p = 0 by omega]; rw [sg_s]; show (0 : Int) + f 0 = f 0 + 0; omega
  | succ m ih =>
    intro p hp
    by_cases e : p = m + 1
    · subst e
      rw [sg_s]
      have : sg (fun r => f (skp (m + 1) r)) (m + 1) = sg f (m + 1) := sg_cg (fun k hk => by unfold skp; rw [if_pos hk])
      rw [this, Int.add_comm]
    · rw [sg_s, ih p (by omega), sg_s]
      have : skp p m = m + 1 := by unfold skp; rw [if_neg (by omega)]
      rw [this, Int.add_assoc]
/-- one more vector than numbers in each: they depend on each other -/
theorem dep : ∀ (d : Nat) (V : Nat → Nat → Int), ∃ c : Nat → Int, (∃ r, r < d + 1 ∧ c r ≠ 0) ∧ ∀ i, i < d → sg (fun r => c r * V r i) (d + 1) = 0 := by
  intro d
  induction d with
  | zero => intro V; exact ⟨fun _ => 1, ⟨0, by omega, by decide⟩, fun i hi => by omega⟩
  | succ d ih =>
    intro V
    by_cases hp : ∃ p, p < d + 2 ∧ V p d ≠ 0
    · obtain ⟨p, hp1, hp2⟩ := hp
      obtain ⟨c, ⟨r0, hr0, hc0⟩, hc⟩ := ih (fun r i => V p d * V (skp p r) i - V (skp p r) d * V p i)
      have usk : ∀ r, skp p r ≠ p ∧ (if skp p r < p then skp p r else skp p r - 1) = r := by
        intro r
        unfold skp
        by_cases q : r < p
        · rw [if_pos q, if_pos q]; omega
        · rw [if_neg q, if_neg (by omega)]; omega
      refine ⟨fun q => if q = p then - sg (fun r => c r * V (skp p r) d) (d + 1) else V p d * c (if q < p then q else q - 1), ⟨skp p r0, ?_, ?_⟩, fun i hi => ?_⟩
      · unfold skp; split <;> omega
      · simp only
        rw [if_neg (usk r0).1, (usk r0).2]
        exact Int.mul_ne_zero hp2 hc0
      · rw [sg_skp _ (d + 1) p (by omega)]
        simp only [if_true]
        have e1 : sg (fun r => (if skp p r = p then - sg (fun r => c r * V (skp p r) d) (d + 1) else V p d * c (if skp p r < p then skp p r else skp p r - 1)) * V (skp p r) i) (d + 1) = sg (fun r => V p d * c r * V (skp p r) i) (d + 1) := sg_cg (fun r _ => by rw [if_neg (usk r).1, (usk r).2])
        rw [e1]
        have e2 : sg (fun r => c r * (V p d * V (skp p r) i - V (skp p r) d * V p i)) (d + 1) = sg (fun r => V p d * c r * V (skp p r) i) (d + 1) - sg (fun r => c r * V (skp p r) d) (d + 1) * V p i := by
          rw [← sg_mur, ← sg_sub]
          refine sg_cg (fun r _ => ?_)
          rw [Int.mul_sub]
          simp only [Int.mul_assoc, Int.mul_comm, Int.mul_left_comm]
        have e3 : sg (fun r => c r * (V p d * V (skp p r) i - V (skp p r) d * V p i)) (d + 1) = 0 := by
          by_cases q : i < d
          · exact hc i q
          · have : i = d := by omega
            subst this
            rw [← sg_0 (i + 1)]
            refine sg_cg (fun r _ => ?_)
            rw [Int.mul_comm (V p i), Int.sub_self, Int.mul_zero]
        rw [e3] at e2
        rw [Int.neg_mul]
        omega
    · have hz : ∀ p, p < d + 2 → V p d = 0 := fun p hp1 => Decidable.byContradiction fun q => hp ⟨p, hp1, q⟩
      obtain ⟨c, ⟨r0, hr0, hc0⟩, hc⟩ := ih V
      refine ⟨fun q => if q < d + 1 then c q else 0, ⟨r0, by omega, ?_⟩, fun i hi => ?_⟩
      · simp only; rw [if_pos hr0]; exact hc0
      · rw [sg_s]
        simp only
        rw [if_neg (by omega), Int.zero_mul, Int.add_zero]
        have e1 : sg (fun r => (if r < d + 1 then c r else 0) * V r i) (d + 1) = sg (fun r => c r * V r i) (d + 1) := sg_cg (fun r hr => by rw [if_pos hr])
        rw [e1]
        by_cases q : i < d
        · exact hc i q
        · have : i = d := by omega
          subst this
          rw [← sg_0 (i + 1)]
          exact sg_cg (fun r hr => by rw [hz r (by omega), Int.mul_zero])
/-- there are no more rows than sorts -/
theorem rows_dep {n : Nat} {R : Nat → Nat → Nat} (hR : tOK n R) (hs : isSc n R) {ρ : Nat → Nat → Int} (h0 : ∀ r, r ≤ gry R n + 1 → ρ r 0 = 1) (hm : ∀ r, r ≤ gry R n + 1 → mulP n R (ρ r)) (hd : ∀ r s, r ≤ gry R n + 1 → s ≤ gry R n + 1 → r ≠ s → ∃ j, j ≤ gry R n ∧ ρ r j ≠ ρ s j) : False := by
  obtain ⟨c, ⟨r0, hr0, hc0⟩, hc⟩ := dep (gry R n + 1) ρ
  -- with the row r0
  have h1 : sg (fun r => c r * ipr n R (ρ r) (ρ r0)) (gry R n + 1 + 1) = 0 := by
    have e : sg (fun r => c r * ipr n R (ρ r) (ρ r0)) (gry R n + 1 + 1) = sg (fun r => sg (fun i => (c r * ρ r i) * (ρ r0 i * shK n R i)) (gry R n + 1)) (gry R n + 1 + 1) := by
      refine sg_cg (fun r _ => ?_)
      unfold ipr
      rw [← sg_mul]
      refine sg_cg (fun i _ => ?_)
      simp only [Int.mul_assoc]
    rw [e, sg_com, ← sg_0 (gry R n + 1)]
    refine sg_cg (fun i hi => ?_)
    rw [sg_mur, hc i hi, Int.zero_mul]
  rw [sg_skp _ (gry R n + 1) r0 (by omega)] at h1
  have h2 : sg (fun r => c (skp r0 r) * ipr n R (ρ (skp r0 r)) (ρ r0)) (gry R n + 1) = 0 := by
    rw [← sg_0 (gry R n + 1)]
    refine sg_cg (fun r hr => ?_)
    have hsk : skp r0 r ≤ gry R n + 1 ∧ skp r0 r ≠ r0 := by unfold skp; split <;> omega
    obtain ⟨j, hj, hne⟩ := hd (skp r0 r) r0 hsk.1 (by omega) hsk.2
    rw [ipr_0 hR hs (h0 _ hsk.1) (hm _ hsk.1) (h0 _ (by omega)) (hm _ (by omega)) hj hne, Int.mul_zero]
  rw [h2, Int.add_zero] at h1
  have h3 := ipr_pos hR hs (h0 r0 (by omega))
  rcases Int.mul_eq_zero.mp h1 with q | q
  · exact hc0 q
  · omega
