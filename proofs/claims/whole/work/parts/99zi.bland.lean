/-! ===== Bland's rule ends; the linear program ===== -/
noncomputable def msk (P : Nat → Prop) : Nat → Nat
  | 0 => 0
  | k + 1 => 2 * msk P k + cif (P k) 1 0
theorem msk_s (P : Nat → Prop) (k : Nat) : msk P (k + 1) = 2 * msk P k + cif (P k) 1 0 := rfl
theorem cif01 (P : Prop) : (cif P 1 0 = (1 : Nat) ∧ P) ∨ (cif P 1 0 = (0 : Nat) ∧ ¬ P) := by
  by_cases h : P
  · exact Or.inl ⟨cif_y h, h⟩
  · exact Or.inr ⟨cif_n h, h⟩
theorem msk_lt (P : Nat → Prop) : ∀ k, msk P k < 2 ^ k := by
  intro k
  induction k with
  | zero => exact Nat.one_pos
  | succ k ih =>
    rw [msk_s, Nat.pow_succ]
    rcases cif01 (P k) with ⟨e, -⟩ | ⟨e, -⟩ <;> rw [e] <;> omega
theorem msk_eq {P Q : Nat → Prop} : ∀ {k : Nat}, msk P k = msk Q k → ∀ i : Nat, i < k → (P i ↔ Q i) := by
  intro k
  induction k with
  | zero => intro _ i h; omega
  | succ k ih =>
    intro h i hi
    rw [msk_s, msk_s] at h
    rcases cif01 (P k) with ⟨e1, p1⟩ | ⟨e1, p1⟩ <;> rcases cif01 (Q k) with ⟨e2, p2⟩ | ⟨e2, p2⟩ <;> rw [e1, e2] at h
    · by_cases q : i = k
      · rw [q]; exact ⟨fun _ => p2, fun _ => p1⟩
      · exact ih (by omega) i (by omega)
    · omega
    · omega
    · by_cases q : i = k
      · rw [q]; exact ⟨fun x => absurd x p1, fun x => absurd x p2⟩
      · exact ih (by omega) i (by omega)
theorem nodup_map {f : Nat → Nat} {m : Nat} (h : ∀ i j : Nat, i < m → j < m → f i = f j → i = j) : ((List.range m).map f).Nodup := by
  rw [List.nodup_iff_pairwise_ne, List.pairwise_map]
  refine List.Pairwise.imp_of_mem (fun {a b} ha hb hab q => ?_) (List.pairwise_lt_range (n := m))
  have := h a b (List.mem_range.mp ha) (List.mem_range.mp hb) q
  omega
theorem php {M : Nat} {f : Nat → Nat} (h : ∀ i : Nat, i < M + 1 → f i < M) : ∃ i j, i < j ∧ j < M + 1 ∧ f i = f j := by
  refine Classical.byContradiction fun hno => ?_
  have hn := nodup_map (f := f) (m := M + 1) (fun i j hi hj e => by
    rcases Nat.lt_trichotomy i j with q | q | q
    · exact absurd ⟨i, j, q, hj, e⟩ hno
    · exact q
    · exact absurd ⟨j, i, q, hi, e.symm⟩ hno)
  have := List.Nodup.length_le_of_subset hn (l₂ := List.range M) (fun x hx => by
    obtain ⟨i, hi, e⟩ := List.mem_map.mp hx
    rw [← e]
    exact List.mem_range.mpr (h i (List.mem_range.mp hi)))
  rw [List.length_map, List.length_range, List.length_range] at this
  omega
/-- L numbers of which all but one lie among L - 1 -/
theorem no_fit {L z : Nat} {p q : Nat → Nat} (hp : ∀ i j : Nat, i < L → j < L → p i = p j → i = j) (hz : ∃ k, k < L ∧ q k = z) (hn : ∀ k : Nat, k < L → p k ≠ z) (h : ∀ k : Nat, k < L → ∃ i, i < L ∧ q i = p k) : False := by
  have h1 := List.Nodup.length_le_of_subset (nodup_map hp) (l₂ := ((List.range L).map q).erase z) (fun x hx => by
    obtain ⟨k, hk, e⟩ := List.mem_map.mp hx
    obtain ⟨i, hi, e2⟩ := h k (List.mem_range.mp hk)
    refine (List.mem_erase_of_ne (by rw [← e]; exact hn k (List.mem_range.mp hk))).mpr (List.mem_map.mpr ⟨i, List.mem_range.mpr hi, by rw [e2, e]⟩))
  obtain ⟨k, hk, e⟩ := hz
  have hm : z ∈ (List.range L).map q := List.mem_map.mpr ⟨k, List.mem_range.mpr hk, e⟩
  rw [List.length_erase_of_mem hm, List.length_map, List.length_map, List.length_range] at h1
  omega
theorem Run.short {L : Nat} (hL : L < 6) {a : Nat → Nat → Int} {M : Nat} {D : Nat → Int} {T : Nat → Nat → Nat → Int} {b : Nat → Nat → Nat} {j r : Nat → Nat} (h : Run L (2 * L) a M D T b j r) : M < 512 := by
  refine Classical.byContradiction fun hno => ?_
  obtain ⟨s, t, h1, h2, h3⟩ := php (M := 512) (f := fun t => msk (fun c => ba L b t c) (2 * L - 1)) (fun i hi => by
    have := msk_lt (fun c => ba L b i c) (2 * L - 1)
    have h9 : 2 ^ (2 * L - 1) ≤ 2 ^ 9 := Nat.pow_le_pow_right (by omega) (by omega)
    omega)
  have he := msk_eq h3
  have lt : ∀ u : Nat, u < M + 1 → ∀ c, ba L b u c → c < 2 * L := by
    rintro u hu c ⟨k, hk, e⟩
    rw [← e]
    exact (h.1 u hu).1.1 k hk
  have one : ∀ s t : Nat, s < M + 1 → t < M + 1 → (∀ i : Nat, i < 2 * L - 1 → (ba L b s i ↔ ba L b t i)) → ∀ c, ba L b s c → ba L b t c := by
    intro s t hs ht he c hc
    have hlt := lt s hs c hc
    by_cases q : c < 2 * L - 1
    · exact (he c q).mp hc
    · refine Classical.byContradiction fun hn => ?_
      refine no_fit (L := L) (z := c) (p := b t) (q := b s) (fun i j hi hj e => (h.1 t ht).1.inj hi hj e) hc (fun k hk e => hn ⟨k, hk, e⟩) (fun k hk => ?_)
      have : ba L b t (b t k) := ⟨k, hk, rfl⟩
      have h5 := lt t ht _ this
      have h6 : b t k ≠ c := fun e => hn ⟨k, hk, e⟩
      exact (he (b t k) (by omega)).mpr this
  exact h.norep h1 (by omega) (fun c => ⟨one s t (by omega) (by omega) he c, one t s (by omega) (by omega) (fun i hi => (he i hi).symm) c⟩)
/-- the nearest row among the first ones -/
def Lv (N : Nat) (T : Nat → Nat → Int) (b : Nat → Nat) (j k r : Nat) : Prop := r < k ∧ 0 < T r j ∧ (∀ i : Nat, i < k → 0 < T i j → T r N * T i j < T i N * T r j ∨ (T r N * T i j = T i N * T r j ∧ b r ≤ b i))
theorem Lv.keep {N : Nat} {T : Nat → Nat → Int} {b : Nat → Nat} {j k r : Nat} (h : Lv N T b j k r) (hn : T k j ≤ 0) : Lv N T b j (k + 1) r := by
  obtain ⟨h1, h2, h3⟩ := h
  refine ⟨by omega, h2, fun i hi q => ?_⟩
  by_cases e : i = k
  · subst e; omega
  · exact h3 i (by omega) q
theorem Lv.no {N : Nat} {T : Nat → Nat → Int} {b : Nat → Nat} {j k r : Nat} (h : Lv N T b j k r) (hn : ¬ (T k N * T r j < T r N * T k j ∨ (T k N * T r j = T r N * T k j ∧ b k < b r))) : Lv N T b j (k + 1) r := by
  obtain ⟨h1, h2, h3⟩ := h
  refine ⟨by omega, h2, fun i hi q => ?_⟩
  by_cases e : i = k
  · subst e; omega
  · exact h3 i (by omega) q
theorem Lv.yes {N : Nat} {T : Nat → Nat → Int} {b : Nat → Nat} {j k r : Nat} (h : Lv N T b j k r) (hp : 0 < T k j) (hn : T k N * T r j < T r N * T k j ∨ (T k N * T r j = T r N * T k j ∧ b k < b r)) : Lv N T b j (k + 1) k := by
  obtain ⟨h1, h2, h3⟩ := h
  refine ⟨by omega, hp, fun i hi q => ?_⟩
  by_cases e : i = k
  · subst e; exact Or.inr ⟨rfl, Nat.le_refl _⟩
  · have h4 := h3 i (by omega) q
    have h5 : T k N * T i j ≤ T i N * T k j := fr_tr (y := T r N) hp h2 q (by omega) (by omega)
    have c1 : T k N * T r j * T i j = T r j * (T k N * T i j) := by grind
    have c2 : T i N * T r j * T k j = T r j * (T i N * T k j) := by grind
    have c3 : T r N * T k j * T i j = T r N * T i j * T k j := by grind
    by_cases q1 : T k N * T i j < T i N * T k j
    · exact Or.inl q1
    · have q2 : T k N * T i j = T i N * T k j := by omega
      refine Or.inr ⟨q2, ?_⟩
      rcases hn with x | ⟨x, y⟩
      · exfalso
        have i1 := Int.mul_lt_mul_of_pos_right x q
        have i2 : T r N * T i j * T k j ≤ T i N * T r j * T k j := Int.mul_le_mul_of_nonneg_right (by omega) (Int.le_of_lt hp)
        rw [q2] at c1
        omega
      · rcases h4 with x4 | ⟨x4, y4⟩
        · exfalso
          have i2 := Int.mul_lt_mul_of_pos_right x4 hp
          have i1 : T k N * T r j * T i j = T r N * T k j * T i j := by rw [x]
          rw [q2] at c1
          omega
        · omega
theorem Lv.first {N : Nat} {T : Nat → Nat → Int} {b : Nat → Nat} {j k : Nat} (hp : 0 < T k j) (hn : ∀ i : Nat, i < k → T i j ≤ 0) : Lv N T b j (k + 1) k := by
  refine ⟨by omega, hp, fun i hi q => ?_⟩
  by_cases e : i = k
  · subst e; exact Or.inr ⟨rfl, Nat.le_refl _⟩
  · have := hn i (by omega); omega
theorem Lv_ex (N : Nat) (T : Nat → Nat → Int) (b : Nat → Nat) (j : Nat) : ∀ k, (∀ i : Nat, i < k → T i j ≤ 0) ∨ ∃ r, Lv N T b j k r := by
  intro k
  induction k with
  | zero => exact Or.inl (fun i h => by omega)
  | succ k ih =>
    by_cases hp : 0 < T k j
    · rcases ih with h | ⟨r, h⟩
      · exact Or.inr ⟨k, Lv.first hp h⟩
      · by_cases q : T k N * T r j < T r N * T k j ∨ (T k N * T r j = T r N * T k j ∧ b k < b r)
        · exact Or.inr ⟨k, h.yes hp q⟩
        · exact Or.inr ⟨r, h.no q⟩
    · rcases ih with h | ⟨r, h⟩
      · exact Or.inl (fun i hi => by
          by_cases e : i = k
          · subst e; omega
          · exact h i (by omega))
      · exact Or.inr ⟨r, h.keep (by omega)⟩
theorem first_of (P : Nat → Prop) : ∀ k, (∀ i : Nat, i < k → ¬ P i) ∨ ∃ i, i < k ∧ P i ∧ ∀ c : Nat, c < i → ¬ P c := by
  intro k
  induction k with
  | zero => exact Or.inl (fun i h => by omega)
  | succ k ih =>
    rcases ih with h | ⟨i, h1, h2, h3⟩
    · by_cases q : P k
      · exact Or.inr ⟨k, by omega, q, h⟩
      · refine Or.inl (fun i hi => ?_)
        by_cases e : i = k
        · rw [e]; exact q
        · exact h i (by omega)
    · exact Or.inr ⟨i, by omega, h2, h3⟩
/-- one turn more -/
theorem Run.more {L N : Nat} {a : Nat → Nat → Int} {M : Nat} {D : Nat → Int} {T : Nat → Nat → Nat → Int} {b : Nat → Nat → Nat} {j r : Nat → Nat} (h : Run L N a M D T b j r) {jj rr : Nat} (hB : Bl L N (T M) (b M) jj rr) : ∃ D' T' b' j' r', Run L N a (M + 1) D' T' b' j' r' ∧ Nx L N (D M) (T M) (b M) jj rr (D' (M + 1)) (T' (M + 1)) (b' (M + 1)) := by
  obtain ⟨hT, hF⟩ := h.1 M (by omega)
  obtain ⟨T2, t2, n2⟩ := hT.piv hB.2.2.2.1 hB.1 hB.2.2.2.2.1
  have f2 := n2.fs hT.2.1 hB hF
  refine ⟨fun t => if t = M + 1 then T M rr jj else D t, fun t => if t = M + 1 then T2 else T t, fun t => if t = M + 1 then (fun k => if k = rr then jj else b M k) else b t, fun t => if t = M then jj else j t, fun t => if t = M then rr else r t, ⟨fun t ht => ?_, fun t ht => ?_⟩, ?_⟩
  · by_cases e : t = M + 1
    · simp only [e, if_true]; exact ⟨t2, f2⟩
    · simp only [e, if_false]; exact h.1 t (by omega)
  · by_cases e : t = M
    · subst e
      simp only [if_true, show ¬ t = t + 1 by omega, if_false]
      exact ⟨hB, n2⟩
    · simp only [e, if_false, show ¬ t = M + 1 by omega, show ¬ t + 1 = M + 1 by omega]
      exact h.2 t (by omega)
  · simp only [if_true]; exact n2
/-- the best corner -/
def Opt (L N : Nat) (a : Nat → Nat → Int) (D : Int) (T : Nat → Nat → Int) (b : Nat → Nat) : Prop := Tab L N a D T b ∧ Fs L N T ∧ ∀ c : Nat, c < N → 0 ≤ T L c
theorem opt_ex {L : Nat} (hL : L < 6) {a : Nat → Nat → Int} (hb : ∀ D T b j, Tab L (2 * L) a D T b → j < 2 * L → T L j < 0 → ¬ ∀ k : Nat, k < L → T k j ≤ 0) {D0 : Int} {T0 : Nat → Nat → Int} {b0 : Nat → Nat} (h0 : Tab L (2 * L) a D0 T0 b0) (f0 : Fs L (2 * L) T0) : ∃ D T b, Opt L (2 * L) a D T b := by
  refine Classical.byContradiction fun hno => ?_
  have go : ∀ M, ∃ D T b j r, Run L (2 * L) a M D T b j r := by
    intro M
    induction M with
    | zero => exact ⟨fun _ => D0, fun _ => T0, fun _ => b0, fun _ => 0, fun _ => 0, fun t _ => ⟨h0, f0⟩, fun t ht => by omega⟩
    | succ M ih =>
      obtain ⟨D, T, b, j, r, h⟩ := ih
      obtain ⟨hT, hF⟩ := h.1 M (by omega)
      rcases first_of (fun c => T M L c < 0) (2 * L) with q | ⟨jj, q1, q2, q3⟩
      · exact absurd ⟨_, _, _, hT, hF, fun c hc => by have := q c hc; omega⟩ hno
      · rcases Lv_ex (2 * L) (T M) (b M) jj L with z | ⟨rr, z1, z2, z3⟩
        · exact absurd z (hb _ _ _ _ hT q1 q2)
        · obtain ⟨D', T', b', j', r', h', -⟩ := h.more (jj := jj) (rr := rr) ⟨q1, q2, fun c hc => by have := q3 c hc; omega, z1, z2, z3⟩
          exact ⟨_, _, _, _, _, h'⟩
  obtain ⟨D, T, b, j, r, h⟩ := go 512
  have := h.short hL
  omega
