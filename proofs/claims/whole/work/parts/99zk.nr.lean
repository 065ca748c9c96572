/-! ===== the rows of a scheme: no way leads on for ever ===== -/
/-- all rows are there -/
def wholeR (n : Nat) (R : Nat → Nat → Nat) : Prop := tOK n R ∧ isSc n R ∧ (RwL n R).length = gry R n + 1
theorem rowN_mem {n : Nat} {R : Nat → Nat → Nat} {f : Nat} (h : f < (RwL n R).length) : rowN n R f ∈ RwL n R := List.mem_of_getElem? (rowN_is h)
theorem rowN_0 {n : Nat} {R : Nat → Nat → Nat} (hR : tOK n R) (hs : isSc n R) : rowN n R 0 = kvR n R := by
  unfold rowN
  by_cases h : gry R n = 0
  · rw [RwL_0 hR hs h]; rfl
  · rw [RwL_c hR hs (by omega)]; rfl
theorem rowN_k {n : Nat} {R : Nat → Nat → Nat} (hR : tOK n R) (hs : isSc n R) {i : Nat} (hi : i ≤ gry R n) : rowN n R 0 i = (kv n R i : Int) := by
  rw [rowN_0 hR hs]; unfold kvR; rw [if_pos hi]
theorem rowN_orth {n : Nat} {R : Nat → Nat → Nat} (hR : tOK n R) (hs : isSc n R) {r s : Nat} (hr : r < (RwL n R).length) (hs2 : s < (RwL n R).length) (hne : r ≠ s) : ipr n R (rowN n R r) (rowN n R s) = 0 := by
  have hpw := List.pairwise_iff_getElem.mp (rEn_pw (k := kv n R) (P := mulP n R) (r := gry R n) (i := 1) (a := a00))
  have hg : ∀ r (hr : r < (RwL n R).length), rowN n R r = (RwL n R)[r] := fun r hr => by unfold rowN; rw [List.getElem?_eq_getElem hr]; rfl
  have h1 := RwL_mem (rowN_mem hr)
  have h2 := RwL_mem (rowN_mem hs2)
  rcases Nat.lt_or_ge r s with q | q
  · obtain ⟨j, e1, e2⟩ := hpw r s hr hs2 q
    exact ipr_0 hR hs h1.2.1 h1.1 h2.2.1 h2.1 (j := j) (by omega) (by rw [hg r hr, hg s hs2]; exact e2)
  · obtain ⟨j, e1, e2⟩ := hpw s r hs2 hr (by omega)
    exact ipr_0 hR hs h1.2.1 h1.1 h2.2.1 h2.1 (j := j) (by omega) (by rw [hg r hr, hg s hs2]; exact fun e => e2 e.symm)
theorem NR_w {n : Nat} {R : Nat → Nat → Nat} (h : wholeR n R) : NR (gry R n) (rowN n R) := by
  obtain ⟨hR, hs, hl⟩ := h
  generalize hL : gry R n = L
  obtain ⟨c, ⟨r0, hr0, hc0⟩, hc⟩ := dep L (fun r i => rowN n R r (i + 1))
  -- against each row
  have key : ∀ s, s < L + 1 → c s * ipr n R (rowN n R s) (rowN n R s) = sg c (L + 1) * (shK n R 0 : Int) := by
    intro s hs1
    have e1 : sg (fun r => c r * ipr n R (rowN n R r) (rowN n R s)) (L + 1) = c s * ipr n R (rowN n R s) (rowN n R s) := by
      have := sg_dl (fun r => c r * ipr n R (rowN n R r) (rowN n R s)) s (L + 1)
      rw [if_pos hs1] at this
      rw [← this]
      refine sg_cg (fun r hr => ?_)
      by_cases e : s = r
      · rw [ind_y e, Int.one_mul]
      · rw [ind_n e, rowN_orth hR hs (by omega) (by omega) (fun q => e q.symm), Int.mul_zero]; rfl
    have e2 : sg (fun r => c r * ipr n R (rowN n R r) (rowN n R s)) (L + 1) = sg (fun i => sg (fun r => c r * rowN n R r i) (L + 1) * (rowN n R s i * shK n R i)) (L + 1) := by
      have e3 : sg (fun r => c r * ipr n R (rowN n R r) (rowN n R s)) (L + 1) = sg (fun r => sg (fun i => c r * rowN n R r i * (rowN n R s i * shK n R i)) (L + 1)) (L + 1) := by
        refine sg_cg (fun r hr => ?_)
        unfold ipr
        rw [hL, ← sg_mul]
        exact sg_cg (fun i hi => by grind)
      rw [e3, sg_com]
      exact sg_cg (fun i hi => by rw [← sg_mur])
    rw [← e1, e2, show L + 1 = 1 + L by omega, sg_app]
    have e4 : sg (fun i => sg (fun r => c r * rowN n R r (1 + i)) (1 + L) * (rowN n R s (1 + i) * shK n R (1 + i))) L = 0 := by
      rw [← sg_0 L]
      refine sg_cg (fun i hi => ?_)
      have := hc i hi
      rw [show 1 + i = i + 1 by omega, show 1 + L = L + 1 by omega, this, Int.zero_mul]
    rw [e4, show (1 : Nat) = 0 + 1 from rfl, sg_s]
    have e5 : sg (fun r => c r * rowN n R r 0) (0 + 1 + L) = sg c (0 + 1 + L) := sg_cg (fun r hr => by rw [(RwL_mem (rowN_mem (show r < (RwL n R).length by omega))).2.1, Int.mul_one])
    rw [e5, (RwL_mem (rowN_mem (show s < (RwL n R).length by omega))).2.1]
    show 0 + sg c (0 + 1 + L) * (1 * (shK n R 0 : Int)) + 0 = _
    rw [Int.one_mul]; omega
  have hp : ∀ s, s < L + 1 → 0 < ipr n R (rowN n R s) (rowN n R s) := fun s hs1 => ipr_pos hR hs (RwL_mem (rowN_mem (show s < (RwL n R).length by omega))).2.1
  have hk : 0 < (shK n R 0 : Int) := by have := shK_pos hR hs (i := 0) (by omega); omega
  intro x hx hr
  -- the sum over all rows is 0
  have tot : sg (fun r => c r * sg (fun i => rowN n R r (i + 1) * x i) L) (L + 1) = 0 := by
    have e1 : sg (fun r => c r * sg (fun i => rowN n R r (i + 1) * x i) L) (L + 1) = sg (fun r => sg (fun i => c r * rowN n R r (i + 1) * x i) L) (L + 1) := sg_cg (fun r hr => by rw [← sg_mul]; exact sg_cg (fun i hi => by grind))
    rw [e1, sg_com, ← sg_0 L]
    refine sg_cg (fun i hi => ?_)
    rw [sg_mur, hc i hi, Int.zero_mul]
  rw [show L + 1 = 1 + L by omega, sg_app, show (1 : Nat) = 0 + 1 from rfl, sg_s] at tot
  have tot2 : c 0 * sg (fun i => rowN n R 0 (i + 1) * x i) L + sg (fun r => c (r + 1) * sg (fun i => rowN n R (r + 1) (i + 1) * x i) L) L = 0 := by
    rw [sg_cg (f := fun r => c (r + 1) * sg (fun i => rowN n R (r + 1) (i + 1) * x i) L) (g := fun r => c (0 + 1 + r) * sg (fun i => rowN n R (0 + 1 + r) (i + 1) * x i) L) (fun r hr => by rw [show 0 + 1 + r = r + 1 by omega])]
    have t3 : 0 + c 0 * sg (fun i => rowN n R 0 (i + 1) * x i) L + sg (fun r => c (0 + 1 + r) * sg (fun i => rowN n R (0 + 1 + r) (i + 1) * x i) L) L = 0 := tot
    omega
  have k0 := key r0 hr0
  rcases Int.lt_trichotomy (sg c (L + 1)) 0 with q | q | q
  · have cn : ∀ s, s < L + 1 → c s < 0 := by
      intro s hs1
      have h1 := key s hs1
      have h2 := Int.mul_neg_of_neg_of_pos q hk
      refine Decidable.byContradiction fun hn => ?_
      have := mul_nn (show 0 ≤ c s by omega) (Int.le_of_lt (hp s hs1))
      omega
    have h1 := sg_nn (n := L) (f := fun r => -1 * (c (r + 1) * sg (fun i => rowN n R (r + 1) (i + 1) * x i) L)) (fun r hr1 => by
      have := mul_nn (show 0 ≤ - c (r + 1) by have := cn (r + 1) (by omega); omega) (hr r hr1)
      rw [Int.neg_mul] at this
      omega)
    rw [sg_mul] at h1
    refine Decidable.byContradiction fun hn => ?_
    have := Int.mul_neg_of_neg_of_pos (cn 0 (by omega)) (show 0 < sg (fun i => rowN n R 0 (i + 1) * x i) L by omega)
    omega
  · rw [q, Int.zero_mul] at k0
    rcases Int.mul_eq_zero.mp k0 with z | z
    · exact absurd z hc0
    · have := hp r0 hr0; omega
  · have cn : ∀ s, s < L + 1 → 0 < c s := by
      intro s hs1
      have h1 := key s hs1
      have h2 := Int.mul_pos q hk
      refine Decidable.byContradiction fun hn => ?_
      have := mul_nn (show 0 ≤ - c s by omega) (Int.le_of_lt (hp s hs1))
      rw [Int.neg_mul] at this
      omega
    have h1 := sg_nn (n := L) (f := fun r => c (r + 1) * sg (fun i => rowN n R (r + 1) (i + 1) * x i) L) (fun r hr1 => mul_nn (by have := cn (r + 1) (by omega); omega) (hr r hr1))
    refine Decidable.byContradiction fun hn => ?_
    have := Int.mul_pos (cn 0 (by omega)) (show 0 < sg (fun i => rowN n R 0 (i + 1) * x i) L by omega)
    omega
