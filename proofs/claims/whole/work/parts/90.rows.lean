/-! ===== the list of rows ===== -/
def upI (a : Nat → Int) (i : Nat) (v : Int) : Nat → Int := fun j => if j = i then v else a j
theorem upI_at (a : Nat → Int) (i : Nat) (v : Int) : upI a i v i = v := if_pos rfl
theorem upI_ne (a : Nat → Int) {i j : Nat} (v : Int) (h : j ≠ i) : upI a i v j = a j := if_neg h
noncomputable def rEn (k : Nat → Nat) (P : (Nat → Int) → Prop) : Nat → Nat → (Nat → Int) → List (Nat → Int)
  | 0, _, a => cif (P a) [a] []
  | r + 1, i, a => (List.range (2 * k i + 1)).flatMap (fun t => rEn k P r (i + 1) (upI a i ((k i : Int) - (t : Nat))))
theorem rEn_s (k : Nat → Nat) (P : (Nat → Int) → Prop) (r i : Nat) (a : Nat → Int) : rEn k P (r + 1) i a = (List.range (2 * k i + 1)).flatMap (fun t => rEn k P r (i + 1) (upI a i ((k i : Int) - (t : Nat)))) := rfl
theorem rEn_z (k : Nat → Nat) (P : (Nat → Int) → Prop) (i : Nat) (a : Nat → Int) : rEn k P 0 i a = cif (P a) [a] [] := rfl
def a00 : Nat → Int := fun i => if i = 0 then 1 else 0
noncomputable def RwL (n : Nat) (R : Nat → Nat → Nat) : List (Nat → Int) := rEn (kv n R) (mulP n R) (gry R n) 1 a00
theorem rEn_mem {k : Nat → Nat} {P : (Nat → Int) → Prop} : ∀ {r i : Nat} {a b : Nat → Int}, b ∈ rEn k P r i a → P b ∧ (∀ j, j < i ∨ i + r ≤ j → b j = a j) ∧ ∀ j, i ≤ j → j < i + r → -(k j : Int) ≤ b j ∧ b j ≤ k j := by
  intro r
  induction r with
  | zero =>
    intro i a b h
    rw [rEn_z] at h
    by_cases q : P a
    · rw [cif_y q] at h
      rw [List.mem_singleton.mp h]
      exact ⟨q, fun j _ => rfl, fun j h1 h2 => by omega⟩
    · rw [cif_n q] at h; cases h
  | succ r ih =>
    intro i a b h
    rw [rEn_s] at h
    obtain ⟨t, ht, hb⟩ := List.mem_flatMap.mp h
    have ht2 := List.mem_range.mp ht
    obtain ⟨h1, h2, h3⟩ := ih hb
    refine ⟨h1, fun j hj => ?_, fun j h4 h5 => ?_⟩
    · rw [h2 j (by omega), upI_ne _ _ (by omega)]
    · by_cases e : j = i
      · rw [h2 j (by omega), e, upI_at]; omega
      · exact h3 j (by omega) (by omega)
theorem rEn_pw {k : Nat → Nat} {P : (Nat → Int) → Prop} : ∀ {r i : Nat} {a : Nat → Int}, (rEn k P r i a).Pairwise (fun a b => ∃ j, j < i + r ∧ a j ≠ b j) := by
  intro r
  induction r with
  | zero =>
    intro i a
    rw [rEn_z]
    by_cases q : P a
    · rw [cif_y q]; exact List.pairwise_singleton _ _
    · rw [cif_n q]; exact List.Pairwise.nil
  | succ r ih =>
    intro i a
    rw [rEn_s, List.pairwise_flatMap]
    refine ⟨fun t _ => (ih (i := i + 1)).imp (fun ⟨j, h1, h2⟩ => ⟨j, by omega, h2⟩), List.pairwise_lt_range.imp (fun {t u} htu x hx y hy => ⟨i, by omega, ?_⟩)⟩
    rw [(rEn_mem hx).2.1 i (by omega), (rEn_mem hy).2.1 i (by omega), upI_at, upI_at]
    omega
theorem RwL_mem {n : Nat} {R : Nat → Nat → Nat} {a : Nat → Int} (h : a ∈ RwL n R) : mulP n R a ∧ a 0 = 1 ∧ (∀ i, 1 ≤ i → i ≤ gry R n → -(kv n R i : Int) ≤ a i ∧ a i ≤ kv n R i) ∧ ∀ i, gry R n < i → a i = 0 := by
  obtain ⟨h1, h2, h3⟩ := rEn_mem h
  refine ⟨h1, by rw [h2 0 (by omega)]; rfl, fun i h4 h5 => h3 i h4 (by omega), fun i hi => ?_⟩
  rw [h2 i (by omega)]
  unfold a00
  rw [if_neg (by omega)]
/-- there are no more rows than sorts -/
theorem RwL_len {n : Nat} {R : Nat → Nat → Nat} (hR : tOK n R) (hs : isSc n R) : (RwL n R).length ≤ gry R n + 1 := by
  refine Decidable.byContradiction fun hc => ?_
  have hl : ∀ r, r ≤ gry R n + 1 → r < (RwL n R).length := fun r hr => by omega
  have hpw := List.pairwise_iff_getElem.mp (rEn_pw (k := kv n R) (P := mulP n R) (r := gry R n) (i := 1) (a := a00))
  have hg : ∀ r (hr : r < (RwL n R).length), ((RwL n R)[r]?).getD a00 = (RwL n R)[r] := fun r hr => by rw [List.getElem?_eq_getElem hr]; rfl
  refine rows_dep hR hs (ρ := fun r => ((RwL n R)[r]?).getD a00) (fun r hr => ?_) (fun r hr => ?_) (fun r s hr hs2 hne => ?_)
  · rw [hg r (hl r hr)]
    exact (RwL_mem (List.getElem_mem _)).2.1
  · rw [hg r (hl r hr)]
    exact (RwL_mem (List.getElem_mem _)).1
  · rw [hg r (hl r hr), hg s (hl s hs2)]
    rcases Nat.lt_or_ge r s with q | q
    · obtain ⟨j, h1, h2⟩ := hpw r s (hl r hr) (hl s hs2) q
      exact ⟨j, by omega, h2⟩
    · obtain ⟨j, h1, h2⟩ := hpw s r (hl s hs2) (hl r hr) (by omega)
      exact ⟨j, by omega, fun e => h2 e.symm⟩
/-- the valencies are a row -/
def kvR (n : Nat) (R : Nat → Nat → Nat) : Nat → Int := fun i => if i ≤ gry R n then (kv n R i : Int) else 0
theorem kvR_mul {n : Nat} {R : Nat → Nat → Nat} (hR : tOK n R) (hs : isSc n R) : mulP n R (kvR n R) := by
  intro i j h1 h2 h3
  have e : sg (fun k => (pjk n R i j k : Int) * kvR n R k) (gry R n + 1) = sg (fun k => (kv n R i : Int) * pjk n R k j i) (gry R n + 1) := by
    refine sg_cg (fun k hk => ?_)
    unfold kvR
    rw [if_pos (by omega), Int.mul_comm, pjk_tri hR hs (by omega) (by omega)]
  rw [e, sg_mul, pjk_sum hR hs (by omega) h3]
  unfold kvR
  rw [if_pos h3, if_pos (by omega)]
/-- the rows with the last number found from the others -/
noncomputable def cEn (k : Nat → Nat) (P : (Nat → Int) → Prop) (L : Nat) : Nat → Nat → (Nat → Int) → List (Nat → Int)
  | 0, _, a => cif ((-(k L : Int) ≤ sg a L ∧ sg a L ≤ k L) ∧ P (upI a L (- sg a L))) [upI a L (- sg a L)] []
  | r + 1, i, a => (List.range (2 * k i + 1)).flatMap (fun t => cEn k P L r (i + 1) (upI a i ((k i : Int) - (t : Nat))))
theorem fm_nil {α : Type} {f : Nat → List α} : ∀ {m : Nat}, (∀ t, t < m → f t = []) → (List.range m).flatMap f = [] := by
  intro m
  induction m with
  | zero => intro _; rfl
  | succ m ih =>
    intro h
    rw [List.range_succ, List.flatMap_append, ih (fun t ht => h t (by omega))]
    simp [h m (by omega)]
theorem fm_one {α : Type} {f : Nat → List α} {t0 : Nat} : ∀ {m : Nat}, t0 < m → (∀ t, t < m → t ≠ t0 → f t = []) → (List.range m).flatMap f = f t0 := by
  intro m
  induction m with
  | zero => intro h; omega
  | succ m ih =>
    intro h0 h
    rw [List.range_succ, List.flatMap_append]
    by_cases e : t0 = m
    · subst e
      rw [fm_nil (fun t ht => h t (by omega) (by omega))]
      simp
    · rw [ih (by omega) (fun t ht hne => h t (by omega) hne)]
      simp [h m (by omega) (by omega)]
theorem fm_cg {α : Type} {f g : Nat → List α} : ∀ {m : Nat}, (∀ t, t < m → f t = g t) → (List.range m).flatMap f = (List.range m).flatMap g := by
  intro m
  induction m with
  | zero => intro _; rfl
  | succ m ih =>
    intro h
    rw [List.range_succ, List.flatMap_append, List.flatMap_append, ih (fun t ht => h t (by omega))]
    simp [h m (by omega)]
theorem fm_0 {α : Type} (f : Nat → List α) (m : Nat) : (List.range (m + 1)).flatMap f = f 0 ++ (List.range m).flatMap (fun t => f (t + 1)) := by
  rw [List.range_succ_eq_map, List.flatMap_cons, List.flatMap_map]
theorem sg_up {a : Nat → Int} {L : Nat} {v : Int} : ∀ {m : Nat}, m ≤ L → sg (upI a L v) m = sg a m := fun {m} h => sg_cg (fun k hk => upI_ne _ _ (by omega))
theorem rEn_c {n : Nat} {R : Nat → Nat → Nat} (hR : tOK n R) (hs : isSc n R) : ∀ {r i : Nat} {a : Nat → Int}, 1 ≤ i → i + r = gry R n → a 0 = 1 → (∃ j, j < i ∧ a j ≠ (kv n R j : Int)) → rEn (kv n R) (mulP n R) (r + 1) i a = cEn (kv n R) (mulP n R) (gry R n) r i a := by
  intro r
  induction r with
  | zero =>
    intro i a hi hr h0 hne
    have hiL : i = gry R n := by omega
    rw [rEn_s]
    unfold cEn
    have key : ∀ t : Nat, mulP n R (upI a i ((kv n R i : Int) - t)) → (kv n R i : Int) - t = - sg a (gry R n) := by
      intro t hm
      rcases row_sum hR hs (by rw [upI_ne _ _ (by omega)]; exact h0) hm with q | q
      · rw [sg_s, ← hiL, upI_at, sg_up (Nat.le_refl _)] at q
        rw [← hiL]
        omega
      · obtain ⟨j, hj, hj2⟩ := hne
        have := q j (by omega)
        rw [upI_ne _ _ (by omega)] at this
        exact absurd this hj2
    by_cases hc : (-(kv n R (gry R n) : Int) ≤ sg a (gry R n) ∧ sg a (gry R n) ≤ kv n R (gry R n)) ∧ mulP n R (upI a (gry R n) (- sg a (gry R n)))
    · rw [cif_y hc]
      rw [fm_one (t0 := ((kv n R i : Int) + sg a (gry R n)).toNat) (by rw [hiL]; omega) (fun t ht hne2 => ?_)]
      · have e : (kv n R i : Int) - (((kv n R i : Int) + sg a (gry R n)).toNat : Nat) = - sg a (gry R n) := by rw [hiL]; omega
        rw [e, rEn_z, hiL, cif_y hc.2]
      · rw [rEn_z]
        refine cif_n (fun hm => hne2 ?_)
        have := key t hm
        omega
    · rw [cif_n hc]
      refine fm_nil (fun t ht => ?_)
      rw [rEn_z]
      refine cif_n (fun hm => hc ?_)
      have e := key t hm
      rw [e, hiL] at hm
      exact ⟨by rw [hiL] at e ht; omega, hm⟩
  | succ r ih =>
    intro i a hi hr h0 hne
    rw [rEn_s]
    conv => rhs; unfold cEn
    refine fm_cg (fun t ht => ?_)
    obtain ⟨j, hj, hj2⟩ := hne
    exact ih (by omega) (by omega) (by rw [upI_ne _ _ (by omega)]; exact h0) ⟨j, by omega, by rw [upI_ne _ _ (by omega)]; exact hj2⟩
theorem rEn_k {n : Nat} {R : Nat → Nat → Nat} (hR : tOK n R) (hs : isSc n R) : ∀ {r i : Nat} {a : Nat → Int}, 1 ≤ i → i + r = gry R n → (∀ j, j < i → a j = (kv n R j : Int)) → (∀ j, gry R n < j → a j = 0) → rEn (kv n R) (mulP n R) (r + 1) i a = kvR n R :: cEn (kv n R) (mulP n R) (gry R n) r i a := by
  intro r
  have k0 := kv_0 hR hs
  induction r with
  | zero =>
    intro i a hi hr hk hz
    have hiL : i = gry R n := by omega
    have ha0 : a 0 = 1 := by rw [hk 0 (by omega), k0]; rfl
    have hself : upI a i (kv n R i : Int) = kvR n R := by
      funext j
      unfold upI kvR
      by_cases e : j = i
      · rw [if_pos e, if_pos (by omega), e]
      · rw [if_neg e]
        by_cases q : j ≤ gry R n
        · rw [if_pos q]; exact hk j (by omega)
        · rw [if_neg q]; exact hz j (by omega)
    have hsp : 0 < sg a (gry R n) := by
      have h1 : (fun j => a j) 0 ≤ sg a (gry R n) := sg_one (f := a) (fun j hj => by rw [hk j (by omega)]; omega) 0 (by omega)
      simp only [ha0] at h1
      omega
    rw [rEn_s, show 2 * kv n R i + 1 = (2 * kv n R i) + 1 from rfl, fm_0]
    have e0 : rEn (kv n R) (mulP n R) 0 (i + 1) (upI a i ((kv n R i : Int) - ((0 : Nat) : Int))) = [kvR n R] := by
      rw [show (kv n R i : Int) - ((0 : Nat) : Int) = (kv n R i : Int) by omega, hself, rEn_z, cif_y (kvR_mul hR hs)]
    rw [e0]
    show kvR n R :: _ = kvR n R :: _
    congr 1
    unfold cEn
    have key : ∀ t : Nat, mulP n R (upI a i ((kv n R i : Int) - ((t + 1 : Nat) : Int))) → (kv n R i : Int) - ((t + 1 : Nat) : Int) = - sg a (gry R n) := by
      intro t hm
      rcases row_sum hR hs (by rw [upI_ne _ _ (by omega)]; exact ha0) hm with q | q
      · rw [sg_s, ← hiL, upI_at, sg_up (Nat.le_refl _)] at q
        rw [← hiL]
        omega
      · have := q i (by omega)
        rw [upI_at] at this
        omega
    by_cases hc : (-(kv n R (gry R n) : Int) ≤ sg a (gry R n) ∧ sg a (gry R n) ≤ kv n R (gry R n)) ∧ mulP n R (upI a (gry R n) (- sg a (gry R n)))
    · rw [cif_y hc]
      rw [fm_one (t0 := ((kv n R i : Int) + sg a (gry R n) - 1).toNat) (by rw [hiL]; omega) (fun t ht hne2 => ?_)]
      · have e : (kv n R i : Int) - ((((kv n R i : Int) + sg a (gry R n) - 1).toNat + 1 : Nat) : Int) = - sg a (gry R n) := by rw [hiL]; omega
        rw [e, rEn_z, hiL, cif_y hc.2]
        rfl
      · rw [rEn_z]
        refine cif_n (fun hm => hne2 ?_)
        have := key t hm
        omega
    · rw [cif_n hc]
      refine fm_nil (fun t ht => ?_)
      rw [rEn_z]
      refine cif_n (fun hm => hc ?_)
      have e := key t hm
      rw [e, hiL] at hm
      exact ⟨by rw [hiL] at e ht; omega, hm⟩
  | succ r ih =>
    intro i a hi hr hk hz
    have ha0 : a 0 = 1 := by rw [hk 0 (by omega), k0]; rfl
    rw [rEn_s, fm_0]
    conv => rhs; unfold cEn
    rw [fm_0]
    have e0 := ih (i := i + 1) (a := upI a i ((kv n R i : Int) - ((0 : Nat) : Int))) (by omega) (by omega) (fun j hj => by
      by_cases e : j = i
      · rw [e, upI_at]; omega
      · rw [upI_ne _ _ e]; exact hk j (by omega)) (fun j hj => by rw [upI_ne _ _ (by omega)]; exact hz j hj)
    rw [e0, List.cons_append]
    congr 2
    refine fm_cg (fun t ht => ?_)
    refine rEn_c hR hs (by omega) (by omega) (by rw [upI_ne _ _ (by omega)]; exact ha0) ⟨i, by omega, ?_⟩
    rw [upI_at]
    omega
/-- the rows as the class finds them -/
theorem RwL_c {n : Nat} {R : Nat → Nat → Nat} (hR : tOK n R) (hs : isSc n R) (hL : 1 ≤ gry R n) : RwL n R = kvR n R :: cEn (kv n R) (mulP n R) (gry R n) (gry R n - 1) 1 a00 := by
  have k0 := kv_0 hR hs
  unfold RwL
  have := rEn_k hR hs (r := gry R n - 1) (i := 1) (a := a00) (Nat.le_refl _) (by omega) (fun j hj => by rw [show j = 0 by omega, k0]; rfl) (fun j hj => by unfold a00; rw [if_neg (by omega)])
  rw [show gry R n - 1 + 1 = gry R n by omega] at this
  exact this
theorem RwL_0 {n : Nat} {R : Nat → Nat → Nat} (hR : tOK n R) (hs : isSc n R) (hL : gry R n = 0) : RwL n R = [kvR n R] := by
  have k0 := kv_0 hR hs
  have e : a00 = kvR n R := by
    funext j
    unfold a00 kvR
    by_cases q : j = 0
    · rw [if_pos q, if_pos (by omega), q, k0]; rfl
    · rw [if_neg q, if_neg (by omega)]
  unfold RwL
  rw [hL, rEn_z, e, cif_y (kvR_mul hR hs)]
