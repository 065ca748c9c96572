/-! ===== the sets of a elements ===== -/
theorem setl_s (a m : Nat) : setl a (m + 1) = setl a m ++ if pc m = a then [m] else [] := rfl
theorem setl_pc {a : Nat} : ∀ m s, s ∈ setl a m → pc s = a := by
  intro m
  induction m with
  | zero => intro s h; cases h
  | succ m ih =>
    intro s h
    rw [setl_s] at h
    rcases List.mem_append.mp h with q | q
    · exact ih s q
    · split at q
      · rw [List.mem_singleton.mp q]; assumption
      · cases q
theorem setl_inc {a : Nat} : ∀ m i j s t : Nat, i < j → (setl a m)[i]? = some s → (setl a m)[j]? = some t → s < t := by
  intro m
  induction m with
  | zero => intro i j s t _ h _; cases h
  | succ m ih =>
    intro i j s t hij hs ht
    rw [setl_s] at hs ht
    by_cases hj : j < (setl a m).length
    · rw [List.getElem?_append_left (by omega)] at hs
      rw [List.getElem?_append_left hj] at ht
      exact ih i j s t hij hs ht
    · by_cases e : pc m = a
      · rw [if_pos e] at hs ht
        have hjl : j = (setl a m).length := by
          have := (List.getElem?_eq_some_iff.mp ht).1
          simp at this
          omega
        rw [List.getElem?_append_right (by omega), hjl, Nat.sub_self] at ht
        cases ht
        rw [List.getElem?_append_left (by omega)] at hs
        exact setl_lt a m s (List.mem_of_getElem? hs)
      · rw [if_neg e, List.append_nil] at ht
        rw [List.getElem?_eq_none (by omega)] at ht
        cases ht
theorem pcs_add {b : Nat} {j : Nat} (hj : j < 2 ^ b) : ∀ i, pcs (2 ^ b + j) i = pcs j i + if b < i then 1 else 0 := by
  intro i
  induction i with
  | zero => rfl
  | succ i ih =>
    show pcs (2 ^ b + j) i + (2 ^ b + j) / 2 ^ i % 2 = pcs j i + j / 2 ^ i % 2 + _
    have b1 := bitp_tb (2 ^ b + j) i
    have b2 := bitp_tb j i
    have c1 := bitp_01 (2 ^ b + j) i
    have c2 := bitp_01 j i
    unfold bitp at b1 b2
    rcases Nat.lt_trichotomy i b with q | q | q
    · rw [Nat.testBit_two_pow_add_gt q] at b1
      rw [if_neg (by omega)] at ih ⊢
      cases h : j.testBit i <;> rw [h] at b1 b2 <;> simp at b1 b2 <;> omega
    · subst q
      rw [Nat.testBit_two_pow_add_eq, Nat.testBit_lt_two_pow hj] at b1
      rw [Nat.testBit_lt_two_pow hj] at b2
      rw [if_neg (by omega)] at ih
      rw [if_pos (by omega)]
      simp at b1 b2
      omega
    · have hle : 2 ^ (b + 1) ≤ 2 ^ i := Nat.pow_le_pow_right (by omega) (by omega)
      rw [Nat.pow_succ] at hle
      rw [Nat.testBit_lt_two_pow (by omega)] at b1
      rw [Nat.testBit_lt_two_pow (by omega)] at b2
      rw [if_pos (by omega)] at ih ⊢
      simp at b1 b2
      omega
theorem pc_add {b j : Nat} (hb : b < 13) (hj : j < 2 ^ b) : pc (2 ^ b + j) = pc j + 1 := by
  have := pcs_add hj 13
  rw [if_pos hb] at this
  exact this
/-- Pascal's triangle -/
def cbn : Nat → Nat → Nat
  | 0, 0 => 1
  | 0, _ + 1 => 0
  | _ + 1, 0 => 1
  | b + 1, a + 1 => cbn b (a + 1) + cbn b a
theorem setl_half {b a : Nat} (hb : b < 13) : ∀ m, m ≤ 2 ^ b → (setl (a + 1) (2 ^ b + m)).length = (setl (a + 1) (2 ^ b)).length + (setl a m).length := by
  intro m
  induction m with
  | zero => intro _; rfl
  | succ m ih =>
    intro hm
    rw [← Nat.add_assoc, setl_s, setl_s, List.length_append, List.length_append, ih (by omega), pc_add hb (by omega)]
    by_cases e : pc m = a
    · rw [if_pos e, if_pos (by omega)]; simp; omega
    · rw [if_neg e, if_neg (by omega)]; simp
theorem setl_half0 {b : Nat} (hb : b < 13) : ∀ m, m ≤ 2 ^ b → (setl 0 (2 ^ b + m)).length = (setl 0 (2 ^ b)).length := by
  intro m
  induction m with
  | zero => intro _; rfl
  | succ m ih =>
    intro hm
    rw [← Nat.add_assoc, setl_s, List.length_append, ih (by omega), pc_add hb (by omega), if_neg (by omega)]
    rfl
theorem setl_cbn : ∀ b, b ≤ 13 → ∀ a, (setl a (2 ^ b)).length = cbn b a := by
  intro b
  induction b with
  | zero =>
    intro _ a
    cases a with
    | zero => decide +kernel
    | succ a =>
      have h0 : pc 0 = 0 := by decide +kernel
      show ([] ++ if pc 0 = a + 1 then [0] else []).length = 0
      rw [h0, if_neg (by omega)]
      rfl
  | succ b ih =>
    intro hb a
    rw [show 2 ^ (b + 1) = 2 ^ b + 2 ^ b by rw [Nat.pow_succ]; omega]
    cases a with
    | zero =>
      rw [setl_half0 (by omega) _ (Nat.le_refl _), ih (by omega)]
      cases b <;> rfl
    | succ a =>
      rw [setl_half (by omega) _ (Nat.le_refl _), ih (by omega), ih (by omega)]
      rfl
theorem cbn_scf : ∀ b, b ≤ 13 → ∀ a, a < b → cbn b a = scf b a a := by
  have h : ∀ b : Fin 14, ∀ a : Fin 13, a.val < b.val → cbn b.val a.val = scf b.val a.val a.val := by decide +kernel
  intro b hb a ha
  exact h ⟨b, by omega⟩ ⟨a, by omega⟩ ha
theorem scf_few : ∀ b, b ≤ 13 → ∀ a, a < b → scf b a a ≤ 13 → a ≤ 5 ∨ b ≤ a + 5 := by
  have h : ∀ b : Fin 14, ∀ a : Fin 13, a.val < b.val → scf b.val a.val a.val ≤ 13 → a.val ≤ 5 ∨ b.val ≤ a.val + 5 := by decide +kernel
  intro b hb a ha
  exact h ⟨b, by omega⟩ ⟨a, by omega⟩ ha
theorem setl_n {a b : Nat} (hb : b ≤ 13) (ha : a < b) : (setl a (2 ^ b)).length = scf b a a := by rw [setl_cbn b hb, cbn_scf b hb a ha]
theorem pcs_0 {u : Nat} : ∀ i, pcs u i = 0 → ∀ j, j < i → ¬ bitp u j := by
  intro i
  induction i with
  | zero => intro _ j hj; omega
  | succ i ih =>
    intro h j hj
    have h1 : pcs u i + u / 2 ^ i % 2 = 0 := h
    by_cases e : j = i
    · subst e; unfold bitp; omega
    · exact ih (by omega) j (by omega)
theorem bitp_sub {s t i : Nat} (hi : i < 13) (h : ¬ bitp (s &&& (t ^^^ 8191)) i) : bitp s i → bitp t i := by
  intro hs
  rw [bitp_tb] at h hs ⊢
  have h8 : Nat.testBit 8191 i = true := by rw [show Nat.testBit 8191 i = decide (i < 13) from Nat.testBit_two_pow_sub_one 13 i]; simp; omega
  rw [Nat.testBit_and, Nat.testBit_xor, h8, hs] at h
  simpa using h
theorem set_ne {s t : Nat} (hs : s < 8192) (ht : t < 8192) (hp : pc s = pc t) (h : pc (s &&& t) = pc s) : s = t := by
  have z1 : pcs (s &&& (t ^^^ 8191)) 13 = 0 := by have := pc_split s t; unfold pc at this h hp; omega
  have z2 : pcs (t &&& (s ^^^ 8191)) 13 = 0 := by have := pc_split t s; rw [Nat.and_comm t s] at this; unfold pc at this h hp; omega
  refine bitp_ext (fun i => ?_)
  by_cases hi : i < 13
  · exact ⟨bitp_sub hi (pcs_0 13 z1 i hi), bitp_sub hi (pcs_0 13 z2 i hi)⟩
  · have hbig : 8192 ≤ 2 ^ i := Nat.pow_le_pow_right (n := 2) (i := 13) (by omega) (by omega)
    exact ⟨fun q => absurd q (bitp_big (by omega)), fun q => absurd q (bitp_big (by omega))⟩
theorem pcs_dis {s t : Nat} : ∀ i, i ≤ 13 → pcs (s &&& (t ^^^ 8191)) i + pcs t i ≤ i := by
  intro i
  induction i with
  | zero => intro _; exact Nat.le_refl _
  | succ i ih =>
    intro hi
    have := ih (by omega)
    show pcs (s &&& (t ^^^ 8191)) i + (s &&& (t ^^^ 8191)) / 2 ^ i % 2 + (pcs t i + t / 2 ^ i % 2) ≤ i + 1
    have h8 : Nat.testBit 8191 i = true := by rw [show Nat.testBit 8191 i = decide (i < 13) from Nat.testBit_two_pow_sub_one 13 i]; simp; omega
    have b1 := bitp_tb (s &&& (t ^^^ 8191)) i
    have b2 := bitp_tb t i
    have c1 := bitp_01 (s &&& (t ^^^ 8191)) i
    have c2 := bitp_01 t i
    rw [Nat.testBit_and, Nat.testBit_xor, h8] at b1
    unfold bitp at b1 b2
    cases ht : t.testBit i <;> simp only [ht] at b1 b2 <;> simp at b1 b2 <;> omega
theorem pcs_top {u b : Nat} (hu : u < 2 ^ b) : ∀ k, pcs u (b + k) = pcs u b := by
  intro k
  induction k with
  | zero => rfl
  | succ k ih =>
    show pcs u (b + k) + u / 2 ^ (b + k) % 2 = pcs u b
    have hle : 2 ^ b ≤ 2 ^ (b + k) := Nat.pow_le_pow_right (by omega) (by omega)
    rw [ih, Nat.div_eq_of_lt (by omega), Nat.zero_mod, Nat.add_zero]
theorem pc_room {s t b : Nat} (hb : b ≤ 13) (hs : s < 2 ^ b) (ht : t < 2 ^ b) : pc (s &&& (t ^^^ 8191)) + pc t ≤ b := by
  have h1 := pcs_dis (s := s) (t := t) b hb
  have h2 := pcs_top ht (13 - b)
  have h3 := pcs_top (u := s &&& (t ^^^ 8191)) (b := b) (Nat.lt_of_le_of_lt Nat.and_le_left hs) (13 - b)
  rw [show b + (13 - b) = 13 by omega] at h2 h3
  unfold pc
  omega
