/-! ===== the list of parameters: Sieve.entry, and the reference's sievedOf ===== -/
/-- D of the parameters, and the answer of the test -/
def svD (k l m : Nat) : Nat := (((l : Int) - m) * ((l : Int) - m) + 4 * ((k : Int) - m)).toNat
def sv0 (n k l m : Nat) : Prop := svT (Int32.ofInt n) (Int32.ofInt k) (Int32.ofInt l) (Int32.ofInt m) (Int32.ofInt (rtf (svD k l m))) (Int32.ofInt 0)
theorem sqi_le {t : Int} {B : Nat} (h1 : -(B : Int) ≤ t) (h2 : t ≤ B) : 0 ≤ t * t ∧ t * t ≤ ((B * B : Nat) : Int) := by
  obtain ⟨a, rfl | rfl⟩ := Int.eq_nat_or_neg t
  · have := sq_mono (show a ≤ B by omega)
    rw [← Int.natCast_mul]
    omega
  · have := sq_mono (show a ≤ B by omega)
    rw [Int.neg_mul_neg, ← Int.natCast_mul]
    omega
theorem sqi_pos {t : Int} (h : t ≠ 0) : 1 ≤ t * t := by
  obtain ⟨a, rfl | rfl⟩ := Int.eq_nat_or_neg t
  · have := sq_mono (show 1 ≤ a by omega)
    rw [← Int.natCast_mul]
    omega
  · have := sq_mono (show 1 ≤ a by omega)
    rw [Int.neg_mul_neg, ← Int.natCast_mul]
    omega
theorem svD_ok {k l m : Nat} (hk : k ≤ 58) (hl : l < k) (hm : m ≤ k) : ((svD k l m : Nat) : Int) = ((l : Int) - m) * ((l : Int) - m) + 4 * ((k : Int) - m) ∧ 1 ≤ svD k l m ∧ svD k l m ≤ 3843 := by
  have h1 := sqi_le (t := (l : Int) - m) (B := 58) (by omega) (by omega)
  have h2 : (l : Int) - m ≠ 0 ∨ 1 ≤ (k : Int) - m := by omega
  have h3 : 1 ≤ ((l : Int) - m) * ((l : Int) - m) + 4 * ((k : Int) - m) := by
    rcases h2 with h2 | h2
    · have := sqi_pos h2; omega
    · omega
  unfold svD
  omega
theorem svD_eq {k l m : Nat} (hk : k ≤ 58) (hl : l < k) (hm : m ≤ k) : (Int32.ofInt l - Int32.ofInt m) * (Int32.ofInt l - Int32.ofInt m) + Int32.ofInt 4 * (Int32.ofInt k - Int32.ofInt m) = Int32.ofInt (svD k l m) := by
  rw [(svD_ok hk hl hm).1]
  simp only [ia_sub, ia_mul, ia_add]
/-- the test passed: the first condition holds -/
theorem sv0_first {n k l m : Nat} (hn : n ≤ 60) (hk : k + 2 ≤ n) (hl : l < k) (hm : m ≤ k) (h : sv0 n k l m) : k * (k - l - 1) = (n - k - 1) * m := by
  unfold sv0 svT at h
  split at h
  · exact absurd h (by decide)
  · rename_i h1
    have h1 := Decidable.not_not.mp h1
    obtain ⟨q, rfl⟩ : ∃ q, k = l + 1 + q := ⟨k - l - 1, by omega⟩
    obtain ⟨u, rfl⟩ : ∃ u, n = l + 1 + q + 1 + u := ⟨n - (l + 1 + q) - 1, by omega⟩
    simp only [ia_sub, ia_mul] at h1
    rw [show (((l + 1 + q : Nat) : Int) - l - 1) = (q : Int) by omega, show (((l + 1 + q + 1 + u : Nat) : Int) - ((l + 1 + q : Nat) : Int) - 1) = (u : Int) by omega, ← Int.natCast_mul, ← Int.natCast_mul] at h1
    have b1 : (l + 1 + q) * q ≤ 60 * 60 := Nat.mul_le_mul (by omega) (by omega)
    have b2 : u * m ≤ 60 * 60 := Nat.mul_le_mul (by omega) (by omega)
    have := (ia_eq ⟨by omega, by omega⟩ ⟨by omega, by omega⟩).mp h1
    rw [show l + 1 + q - l - 1 = q by omega, show l + 1 + q + 1 + u - (l + 1 + q) - 1 = u by omega]
    omega
/-- the one m that can pass -/
def sm0 (n k l : Nat) : Nat := k * (k - l - 1) / (n - k - 1)
theorem sv0_m {n k l m : Nat} (hn : n ≤ 60) (hk : k + 2 ≤ n) (hl : l < k) (hm : m ≤ k) (h : sv0 n k l m) : m = sm0 n k l := by
  have h1 := sv0_first hn hk hl hm h
  unfold sm0
  rw [h1, Nat.mul_div_cancel_left _ (by omega)]
def sCd (k l m : Nat) : Int := 10000 * k + 100 * l + m
/-- the entries of one k, l; of one k; of all -/
def IsOne (n k l : Nat) (e : List Int) : Prop := (sm0 n k l ≤ k ∧ sv0 n k l (sm0 n k l) ∧ e = [sCd k l (sm0 n k l)]) ∨ (¬ (sm0 n k l ≤ k ∧ sv0 n k l (sm0 n k l)) ∧ e = [])
theorem IsOne_ex (n k l : Nat) : ∃ e, IsOne n k l e := by
  by_cases h : sm0 n k l ≤ k ∧ sv0 n k l (sm0 n k l)
  · exact ⟨_, Or.inl ⟨h.1, h.2, rfl⟩⟩
  · exact ⟨_, Or.inr ⟨h, rfl⟩⟩
noncomputable def sOne (n k l : Nat) : List Int := Classical.choose (IsOne_ex n k l)
theorem sOne_is (n k l : Nat) : IsOne n k l (sOne n k l) := Classical.choose_spec (IsOne_ex n k l)
noncomputable def slx (n k : Nat) : Nat → List Int
  | 0 => []
  | l + 1 => slx n k l ++ sOne n k l
noncomputable def sly (n : Nat) : Nat → List Int
  | 0 => []
  | k + 1 => sly n k ++ slx n k k
theorem sOne_len (n k l : Nat) : (sOne n k l).length ≤ 1 := by
  rcases sOne_is n k l with ⟨-, -, e⟩ | ⟨-, e⟩ <;> rw [e] <;> simp
theorem slx_len (n k : Nat) : ∀ l, (slx n k l).length ≤ l := by
  intro l
  induction l with
  | zero => exact Nat.le_refl _
  | succ l ih => have := sOne_len n k l; simp only [slx, List.length_append]; omega
theorem sly_len (n : Nat) : ∀ k, k ≤ 60 → (sly n k).length ≤ k * 60 := by
  intro k
  induction k with
  | zero => intro _; exact Nat.le_refl _
  | succ k ih => intro h; have := slx_len n k k; have := ih (by omega); simp only [sly, List.length_append]; omega
theorem slx_pre (n k l : Nat) : ∀ l', l ≤ l' → ∃ r, slx n k l' = slx n k l ++ r := by
  intro l' h
  induction h with
  | refl => exact ⟨[], by simp⟩
  | step _ ih => obtain ⟨r, hr⟩ := ih; exact ⟨r ++ sOne n k _, by rw [show slx n k (_ + 1) = slx n k _ ++ sOne n k _ from rfl, hr, List.append_assoc]⟩
theorem sly_pre (n k : Nat) : ∀ k', k ≤ k' → ∃ r, sly n k' = sly n k ++ r := by
  intro k' h
  induction h with
  | refl => exact ⟨[], by simp⟩
  | step _ ih => obtain ⟨r, hr⟩ := ih; exact ⟨r ++ slx n _ _, by rw [show sly n (_ + 1) = sly n _ ++ slx n _ _ from rfl, hr, List.append_assoc]⟩
/-- the answer for index i: the number, the entry, or -5 -/
def sdA (n : Nat) (i r : Int) : Prop := (i = -1 ∧ r = ((sly n (n - 1)).length : Nat)) ∨ (∃ j : Nat, i = j ∧ (sly n (n - 1))[j]? = some r) ∨ (0 ≤ i ∧ ((sly n (n - 1)).length : Int) ≤ i ∧ r = -5)
theorem sdA_un {n : Nat} {i r r' : Int} (h : sdA n i r) (h' : sdA n i r') : r = r' := by
  rcases h with ⟨h1, h2⟩ | ⟨j, h1, h2⟩ | ⟨h1, h2, h3⟩ <;> rcases h' with ⟨g1, g2⟩ | ⟨j', g1, g2⟩ | ⟨g1, g2, g3⟩
  · rw [h2, g2]
  · omega
  · omega
  · omega
  · have e : j = j' := by omega
    subst e
    rw [h2] at g2
    exact Option.some.inj g2
  · have := (List.getElem?_eq_some_iff.mp h2).1; omega
  · omega
  · have := (List.getElem?_eq_some_iff.mp g2).1; omega
  · rw [h3, g3]
/-- at a hit: the next entry is that of index i -/
theorem sdA_hit {n k l : Nat} {i : Int} (hk : k + 2 ≤ n) (hl : l < k) (h1 : sm0 n k l ≤ k) (h2 : sv0 n k l (sm0 n k l)) (hi : ((sly n k ++ slx n k l).length : Int) = i) : sdA n i (sCd k l (sm0 n k l)) := by
  right; left
  refine ⟨(sly n k ++ slx n k l).length, hi.symm, ?_⟩
  obtain ⟨r1, hr1⟩ := slx_pre n k (l + 1) k (by omega)
  obtain ⟨r2, hr2⟩ := sly_pre n (k + 1) (n - 1) (by omega)
  have e : sOne n k l = [sCd k l (sm0 n k l)] := by
    rcases sOne_is n k l with ⟨-, -, e⟩ | ⟨e, -⟩
    · exact e
    · exact absurd ⟨h1, h2⟩ e
  rw [hr2, show sly n (k + 1) = sly n k ++ slx n k k from rfl, hr1, show slx n k (l + 1) = slx n k l ++ sOne n k l from rfl, e]
  simp [List.append_assoc]
theorem ia_div {a b : Nat} (ha : a < 2147483648) (hb : b < 2147483648) : Int32.ofInt (a : Int) / Int32.ofInt (b : Int) = Int32.ofInt ((a / b : Nat) : Int) := by
  apply Int32.toInt_inj.mp
  have h1 : a / b ≤ a := Nat.div_le_self _ _
  have h2 : ((a : Int).tdiv b) = ((a / b : Nat) : Int) := Int.ofNat_tdiv a b
  generalize a / b = q at h1 h2 ⊢
  rw [Int32.toInt_div, ia_to ⟨by omega, by omega⟩, ia_to ⟨by omega, by omega⟩, ia_to ⟨by omega, by omega⟩, h2, Int.bmod_eq_of_le_mul_two (by omega) (by omega)]
/-- Sieve.entry -/
theorem c_entry {w : aW} {n : Nat} {i : Int} (hn3 : 3 ≤ n) (hn : n ≤ 60) (hi : rg i) (hi1 : -1 ≤ i) : Ct 3 126 [.int (Int32.ofInt n), .int (Int32.ofInt i)] w (fun r w' => ∃ v, r = some (.int (Int32.ofInt v)) ∧ sdA n i v ∧ w' = w) := by
  refine Ct.of (fun d hd Q hQ => cl_at (M := m_126) (L := [.int (Int32.ofInt n), .int (Int32.ofInt i), .null, .null, .null, .null]) rfl (Nat.le_of_ble_eq_true rfl) rfl (fun E hE => ?_))
  refine ru_at (b := k_126_0) (cl_mono _ _ _ _) rfl ?_
  simp only [k_126_0, x_iload_0, x_iload_1, x_iload_2, x_iload_3, x_iload_4, x_iload_5, x_iload_6, x_iload_7, x_iload_8, x_iload_9, x_iload_10, x_iload_11, x_lload_0, x_lload_1, x_lload_2, x_lload_3, x_lload_4, x_lload_5, x_lload_6, x_lload_7, x_lload_8, x_lload_9, x_lload_10, x_lload_11, x_aload_0, x_aload_1, x_aload_2, x_aload_3, x_aload_4, x_aload_5, x_aload_6, x_aload_7, x_aload_8, x_aload_9, x_aload_10, x_aload_11, x_istore_0, x_istore_1, x_istore_2, x_istore_3, x_istore_4, x_istore_5, x_istore_6, x_istore_7, x_istore_8, x_istore_9, x_istore_10, x_istore_11, x_astore_0, x_astore_1, x_astore_2, x_astore_3, x_astore_4, x_astore_5, x_astore_6, x_astore_7, x_astore_8, x_astore_9, x_astore_10, x_astore_11, x_lstore_0, x_lstore_1, x_lstore_2, x_lstore_3, x_lstore_4, x_lstore_5, x_lstore_6, x_lstore_7, x_lstore_8, x_lstore_9, x_lstore_10, x_iinc_0, x_iinc_1, x_iinc_2, x_iinc_3, x_iinc_4, x_iinc_5, x_iinc_6, x_iinc_7, x_iinc_8, x_iinc_9, x_iinc_10, x_iinc_11, x_iconst, x_bipush, x_sipush, x_lconst, x_ldc_w, x_ldc2_w, x_iadd, x_isub, x_imul, x_iand, x_ior, x_ixor, x_ishl, x_ishr, x_iushr, x_ladd, x_lsub, x_lmul, x_ineg, x_lneg, x_lcmp, x_i2l, x_l2i, x_idiv, x_irem, x_ldiv, x_lrem, x_dup_int, x_pop_int, x_dup_ref, x_pop_ref, x_dup2, x_goto, x_nop, x_if_eq, x_if_ne, x_if_lt, x_if_ge, x_if_gt, x_if_le, x_icmp_eq, x_icmp_ne, x_icmp_lt, x_icmp_ge, x_icmp_gt, x_icmp_le, x_getfield, x_putfield, x_iaload, x_baload, x_laload, x_iastore, x_bastore, x_lastore, x_arraylength, x_virtual_0, x_virtual_1, x_virtual_2, x_virtual_3, x_virtual_4, x_virtual_5, x_static_0, x_static_1, x_static_2, x_static_3, x_static_4, x_static_5, x_static_6, x_min, x_max, x_abs, x_labs, x_tsw, oM_some, k_int, k_ref, k_long, k_null, vc_nil, vc_int, vc_ref, vc_long, tl_some, tl_none, x_ireturn (M := m_126) rfl]
  refine up_to (R := fun k => ∀ l4 l5, (i = -1 ∨ ((sly n k).length : Int) ≤ i) → Ru pD pY E (cL d) m_126 Q 4 [.int (Int32.ofInt n), .int (Int32.ofInt i), .int (Int32.ofInt ((sly n k).length : Nat)), .int (Int32.ofInt (k : Int)), l4, l5] [] w) (lo := 1) (hi := n - 1) (by omega) (fun k hk1 hk ih => ?_) ?_ .null .null (by rw [show (sly n 1).length = 0 from rfl]; omega)
  · intro l4 l5 hpos
    have hlen := sly_len n k (by omega)
    refine ru_at (b := k_126_4) (cl_mono _ _ _ _) rfl ?_
    simp only [k_126_4, x_iload_0, x_iload_1, x_iload_2, x_iload_3, x_iload_4, x_iload_5, x_iload_6, x_iload_7, x_iload_8, x_iload_9, x_iload_10, x_iload_11, x_lload_0, x_lload_1, x_lload_2, x_lload_3, x_lload_4, x_lload_5, x_lload_6, x_lload_7, x_lload_8, x_lload_9, x_lload_10, x_lload_11, x_aload_0, x_aload_1, x_aload_2, x_aload_3, x_aload_4, x_aload_5, x_aload_6, x_aload_7, x_aload_8, x_aload_9, x_aload_10, x_aload_11, x_istore_0, x_istore_1, x_istore_2, x_istore_3, x_istore_4, x_istore_5, x_istore_6, x_istore_7, x_istore_8, x_istore_9, x_istore_10, x_istore_11, x_astore_0, x_astore_1, x_astore_2, x_astore_3, x_astore_4, x_astore_5, x_astore_6, x_astore_7, x_astore_8, x_astore_9, x_astore_10, x_astore_11, x_lstore_0, x_lstore_1, x_lstore_2, x_lstore_3, x_lstore_4, x_lstore_5, x_lstore_6, x_lstore_7, x_lstore_8, x_lstore_9, x_lstore_10, x_iinc_0, x_iinc_1, x_iinc_2, x_iinc_3, x_iinc_4, x_iinc_5, x_iinc_6, x_iinc_7, x_iinc_8, x_iinc_9, x_iinc_10, x_iinc_11, x_iconst, x_bipush, x_sipush, x_lconst, x_ldc_w, x_ldc2_w, x_iadd, x_isub, x_imul, x_iand, x_ior, x_ixor, x_ishl, x_ishr, x_iushr, x_ladd, x_lsub, x_lmul, x_ineg, x_lneg, x_lcmp, x_i2l, x_l2i, x_idiv, x_irem, x_ldiv, x_lrem, x_dup_int, x_pop_int, x_dup_ref, x_pop_ref, x_dup2, x_goto, x_nop, x_if_eq, x_if_ne, x_if_lt, x_if_ge, x_if_gt, x_if_le, x_icmp_eq, x_icmp_ne, x_icmp_lt, x_icmp_ge, x_icmp_gt, x_icmp_le, x_getfield, x_putfield, x_iaload, x_baload, x_laload, x_iastore, x_bastore, x_lastore, x_arraylength, x_virtual_0, x_virtual_1, x_virtual_2, x_virtual_3, x_virtual_4, x_virtual_5, x_static_0, x_static_1, x_static_2, x_static_3, x_static_4, x_static_5, x_static_6, x_min, x_max, x_abs, x_labs, x_tsw, oM_some, k_int, k_ref, k_long, k_null, vc_nil, vc_int, vc_ref, vc_long, tl_some, tl_none, ia_sub, x_ireturn (M := m_126) rfl]
    refine if_lt ⟨by omega, by omega⟩ ⟨by omega, by omega⟩ (fun hcc => absurd hcc (by omega)) (fun hcc => ?_)
    refine up_to (R := fun l => ∀ l5, (i = -1 ∨ ((sly n k ++ slx n k l).length : Int) ≤ i) → Ru pD pY E (cL d) m_126 Q 14 [.int (Int32.ofInt n), .int (Int32.ofInt i), .int (Int32.ofInt ((sly n k ++ slx n k l).length : Nat)), .int (Int32.ofInt (k : Int)), .int (Int32.ofInt (l : Int)), l5] [] w) (lo := 0) (hi := k) (Nat.zero_le _) (fun l _ hl ih2 => ?_) ?_ l5 (by rw [show slx n k 0 = [] from rfl, List.append_nil]; exact hpos) |> (fun q => by rw [show slx n k 0 = [] from rfl, List.append_nil] at q; exact q)
    · intro l5 hpos
      have hlx := slx_len n k l
      have hlen2 : (sly n k ++ slx n k l).length ≤ 3600 := by rw [List.length_append]; omega
      generalize hct : (sly n k ++ slx n k l).length = ct at hpos hlen2 ⊢
      have h77 : ∀ m : Int32, sOne n k l = [] → Ru pD pY E (cL d) m_126 Q 77 [.int (Int32.ofInt n), .int (Int32.ofInt i), .int (Int32.ofInt (ct : Int)), .int (Int32.ofInt (k : Int)), .int (Int32.ofInt (l : Int)), .int m] [] w := by
        intro m he
        refine ru_at (b := k_126_77) (cl_mono _ _ _ _) rfl ?_
        simp only [k_126_77, x_iload_0, x_iload_1, x_iload_2, x_iload_3, x_iload_4, x_iload_5, x_iload_6, x_iload_7, x_iload_8, x_iload_9, x_iload_10, x_iload_11, x_lload_0, x_lload_1, x_lload_2, x_lload_3, x_lload_4, x_lload_5, x_lload_6, x_lload_7, x_lload_8, x_lload_9, x_lload_10, x_lload_11, x_aload_0, x_aload_1, x_aload_2, x_aload_3, x_aload_4, x_aload_5, x_aload_6, x_aload_7, x_aload_8, x_aload_9, x_aload_10, x_aload_11, x_istore_0, x_istore_1, x_istore_2, x_istore_3, x_istore_4, x_istore_5, x_istore_6, x_istore_7, x_istore_8, x_istore_9, x_istore_10, x_istore_11, x_astore_0, x_astore_1, x_astore_2, x_astore_3, x_astore_4, x_astore_5, x_astore_6, x_astore_7, x_astore_8, x_astore_9, x_astore_10, x_astore_11, x_lstore_0, x_lstore_1, x_lstore_2, x_lstore_3, x_lstore_4, x_lstore_5, x_lstore_6, x_lstore_7, x_lstore_8, x_lstore_9, x_lstore_10, x_iinc_0, x_iinc_1, x_iinc_2, x_iinc_3, x_iinc_4, x_iinc_5, x_iinc_6, x_iinc_7, x_iinc_8, x_iinc_9, x_iinc_10, x_iinc_11, x_iconst, x_bipush, x_sipush, x_lconst, x_ldc_w, x_ldc2_w, x_iadd, x_isub, x_imul, x_iand, x_ior, x_ixor, x_ishl, x_ishr, x_iushr, x_ladd, x_lsub, x_lmul, x_ineg, x_lneg, x_lcmp, x_i2l, x_l2i, x_idiv, x_irem, x_ldiv, x_lrem, x_dup_int, x_pop_int, x_dup_ref, x_pop_ref, x_dup2, x_goto, x_nop, x_if_eq, x_if_ne, x_if_lt, x_if_ge, x_if_gt, x_if_le, x_icmp_eq, x_icmp_ne, x_icmp_lt, x_icmp_ge, x_icmp_gt, x_icmp_le, x_getfield, x_putfield, x_iaload, x_baload, x_laload, x_iastore, x_bastore, x_lastore, x_arraylength, x_virtual_0, x_virtual_1, x_virtual_2, x_virtual_3, x_virtual_4, x_virtual_5, x_static_0, x_static_1, x_static_2, x_static_3, x_static_4, x_static_5, x_static_6, x_min, x_max, x_abs, x_labs, x_tsw, oM_some, k_int, k_ref, k_long, k_null, vc_nil, vc_int, vc_ref, vc_long, tl_some, tl_none, ia_add, x_ireturn (M := m_126) rfl]
        have := ih2 (.int m)
        rw [show slx n k (l + 1) = slx n k l ++ sOne n k l from rfl, he, List.append_nil, hct] at this
        exact this hpos
      obtain ⟨q, hq⟩ : ∃ q, k = l + 1 + q := ⟨k - l - 1, by omega⟩
      obtain ⟨u, hu⟩ : ∃ u, n = k + 1 + u := ⟨n - k - 1, by omega⟩
      have e1 : ((k : Int) - l - 1) = (q : Int) := by omega
      have e2 : ((n : Int) - k - 1) = (u : Int) := by omega
      have b1 : k * q ≤ 60 * 60 := Nat.mul_le_mul (by omega) (by omega)
      have hsm : sm0 n k l = k * q / u := by unfold sm0; rw [show k - l - 1 = q by omega, show n - k - 1 = u by omega]
      have hu0 : ¬ Int32.ofInt (u : Int) = 0 := by rw [ia_0, ia_eq ⟨by omega, by omega⟩ rg_0]; omega
      have hm1 : k * q / u ≤ k * q := Nat.div_le_self _ _
      refine ru_at (b := k_126_14) (cl_mono _ _ _ _) rfl ?_
      simp only [k_126_14, x_iload_0, x_iload_1, x_iload_2, x_iload_3, x_iload_4, x_iload_5, x_iload_6, x_iload_7, x_iload_8, x_iload_9, x_iload_10, x_iload_11, x_lload_0, x_lload_1, x_lload_2, x_lload_3, x_lload_4, x_lload_5, x_lload_6, x_lload_7, x_lload_8, x_lload_9, x_lload_10, x_lload_11, x_aload_0, x_aload_1, x_aload_2, x_aload_3, x_aload_4, x_aload_5, x_aload_6, x_aload_7, x_aload_8, x_aload_9, x_aload_10, x_aload_11, x_istore_0, x_istore_1, x_istore_2, x_istore_3, x_istore_4, x_istore_5, x_istore_6, x_istore_7, x_istore_8, x_istore_9, x_istore_10, x_istore_11, x_astore_0, x_astore_1, x_astore_2, x_astore_3, x_astore_4, x_astore_5, x_astore_6, x_astore_7, x_astore_8, x_astore_9, x_astore_10, x_astore_11, x_lstore_0, x_lstore_1, x_lstore_2, x_lstore_3, x_lstore_4, x_lstore_5, x_lstore_6, x_lstore_7, x_lstore_8, x_lstore_9, x_lstore_10, x_iinc_0, x_iinc_1, x_iinc_2, x_iinc_3, x_iinc_4, x_iinc_5, x_iinc_6, x_iinc_7, x_iinc_8, x_iinc_9, x_iinc_10, x_iinc_11, x_iconst, x_bipush, x_sipush, x_lconst, x_ldc_w, x_ldc2_w, x_iadd, x_isub, x_imul, x_iand, x_ior, x_ixor, x_ishl, x_ishr, x_iushr, x_ladd, x_lsub, x_lmul, x_ineg, x_lneg, x_lcmp, x_i2l, x_l2i, x_idiv, x_irem, x_ldiv, x_lrem, x_dup_int, x_pop_int, x_dup_ref, x_pop_ref, x_dup2, x_goto, x_nop, x_if_eq, x_if_ne, x_if_lt, x_if_ge, x_if_gt, x_if_le, x_icmp_eq, x_icmp_ne, x_icmp_lt, x_icmp_ge, x_icmp_gt, x_icmp_le, x_getfield, x_putfield, x_iaload, x_baload, x_laload, x_iastore, x_bastore, x_lastore, x_arraylength, x_virtual_0, x_virtual_1, x_virtual_2, x_virtual_3, x_virtual_4, x_virtual_5, x_static_0, x_static_1, x_static_2, x_static_3, x_static_4, x_static_5, x_static_6, x_min, x_max, x_abs, x_labs, x_tsw, oM_some, k_int, k_ref, k_long, k_null, vc_nil, vc_int, vc_ref, vc_long, tl_some, tl_none, ia_sub, e1, e2, ia_mul, ← Int.natCast_mul, ia_div (show k * q < 2147483648 by omega) (show u < 2147483648 by omega), hu0, ne_eq, not_false_iff, true_and, x_ireturn (M := m_126) rfl]
      refine if_le ⟨by omega, by omega⟩ ⟨by omega, by omega⟩ (fun hcc => absurd hcc (by omega)) (fun hcc => ?_)
      rw [← hsm] at hm1 ⊢
      generalize hmm : sm0 n k l = m0 at hm1 ⊢
      refine if_lt ⟨by omega, by omega⟩ ⟨by omega, by omega⟩ (fun hgt => ?_) (fun hle => ?_)
      · refine h77 _ ?_
        rcases sOne_is n k l with ⟨e, -, -⟩ | ⟨-, e⟩
        · omega
        · exact e
      · have hm2 : m0 ≤ k := by omega
        refine ⟨by decide, (c_result (svD_eq (by omega) hl hm2) (svD_ok (by omega) hl hm2).2.1 (svD_ok (by omega) hl hm2).2.2).go (by omega) (fun r w' hr => ?_)⟩
        obtain ⟨v, rfl, hv, rfl⟩ := hr
        simp only [x_iload_0, x_iload_1, x_iload_2, x_iload_3, x_iload_4, x_iload_5, x_iload_6, x_iload_7, x_iload_8, x_iload_9, x_iload_10, x_iload_11, x_lload_0, x_lload_1, x_lload_2, x_lload_3, x_lload_4, x_lload_5, x_lload_6, x_lload_7, x_lload_8, x_lload_9, x_lload_10, x_lload_11, x_aload_0, x_aload_1, x_aload_2, x_aload_3, x_aload_4, x_aload_5, x_aload_6, x_aload_7, x_aload_8, x_aload_9, x_aload_10, x_aload_11, x_istore_0, x_istore_1, x_istore_2, x_istore_3, x_istore_4, x_istore_5, x_istore_6, x_istore_7, x_istore_8, x_istore_9, x_istore_10, x_istore_11, x_astore_0, x_astore_1, x_astore_2, x_astore_3, x_astore_4, x_astore_5, x_astore_6, x_astore_7, x_astore_8, x_astore_9, x_astore_10, x_astore_11, x_lstore_0, x_lstore_1, x_lstore_2, x_lstore_3, x_lstore_4, x_lstore_5, x_lstore_6, x_lstore_7, x_lstore_8, x_lstore_9, x_lstore_10, x_iinc_0, x_iinc_1, x_iinc_2, x_iinc_3, x_iinc_4, x_iinc_5, x_iinc_6, x_iinc_7, x_iinc_8, x_iinc_9, x_iinc_10, x_iinc_11, x_iconst, x_bipush, x_sipush, x_lconst, x_ldc_w, x_ldc2_w, x_iadd, x_isub, x_imul, x_iand, x_ior, x_ixor, x_ishl, x_ishr, x_iushr, x_ladd, x_lsub, x_lmul, x_ineg, x_lneg, x_lcmp, x_i2l, x_l2i, x_idiv, x_irem, x_ldiv, x_lrem, x_dup_int, x_pop_int, x_dup_ref, x_pop_ref, x_dup2, x_goto, x_nop, x_if_eq, x_if_ne, x_if_lt, x_if_ge, x_if_gt, x_if_le, x_icmp_eq, x_icmp_ne, x_icmp_lt, x_icmp_ge, x_icmp_gt, x_icmp_le, x_getfield, x_putfield, x_iaload, x_baload, x_laload, x_iastore, x_bastore, x_lastore, x_arraylength, x_virtual_0, x_virtual_1, x_virtual_2, x_virtual_3, x_virtual_4, x_virtual_5, x_static_0, x_static_1, x_static_2, x_static_3, x_static_4, x_static_5, x_static_6, x_min, x_max, x_abs, x_labs, x_tsw, oM_some, k_int, k_ref, k_long, k_null, vc_nil, vc_int, vc_ref, vc_long, tl_some, tl_none]
        split
        · rename_i hv0
          refine h77 _ ?_
          rcases sOne_is n k l with ⟨-, e, -⟩ | ⟨-, e⟩
          · rw [hmm] at e
            exact absurd (svT_un hv e) hv0
          · exact e
        · rename_i hv0
          have hv0 : v = Int32.ofInt 0 := Decidable.not_not.mp hv0
          subst hv0
          have hone : sOne n k l = [sCd k l m0] := by
            rcases sOne_is n k l with ⟨-, -, e⟩ | ⟨e, -⟩
            · rw [hmm] at e; exact e
            · rw [hmm] at e; exact absurd ⟨hm2, hv⟩ e
          refine if_ne ⟨by omega, by omega⟩ hi (fun hne => ?_) (fun heq => ?_)
          · refine ru_at (b := k_126_74) (cl_mono _ _ _ _) rfl ?_
            simp only [k_126_74, x_iload_0, x_iload_1, x_iload_2, x_iload_3, x_iload_4, x_iload_5, x_iload_6, x_iload_7, x_iload_8, x_iload_9, x_iload_10, x_iload_11, x_lload_0, x_lload_1, x_lload_2, x_lload_3, x_lload_4, x_lload_5, x_lload_6, x_lload_7, x_lload_8, x_lload_9, x_lload_10, x_lload_11, x_aload_0, x_aload_1, x_aload_2, x_aload_3, x_aload_4, x_aload_5, x_aload_6, x_aload_7, x_aload_8, x_aload_9, x_aload_10, x_aload_11, x_istore_0, x_istore_1, x_istore_2, x_istore_3, x_istore_4, x_istore_5, x_istore_6, x_istore_7, x_istore_8, x_istore_9, x_istore_10, x_istore_11, x_astore_0, x_astore_1, x_astore_2, x_astore_3, x_astore_4, x_astore_5, x_astore_6, x_astore_7, x_astore_8, x_astore_9, x_astore_10, x_astore_11, x_lstore_0, x_lstore_1, x_lstore_2, x_lstore_3, x_lstore_4, x_lstore_5, x_lstore_6, x_lstore_7, x_lstore_8, x_lstore_9, x_lstore_10, x_iinc_0, x_iinc_1, x_iinc_2, x_iinc_3, x_iinc_4, x_iinc_5, x_iinc_6, x_iinc_7, x_iinc_8, x_iinc_9, x_iinc_10, x_iinc_11, x_iconst, x_bipush, x_sipush, x_lconst, x_ldc_w, x_ldc2_w, x_iadd, x_isub, x_imul, x_iand, x_ior, x_ixor, x_ishl, x_ishr, x_iushr, x_ladd, x_lsub, x_lmul, x_ineg, x_lneg, x_lcmp, x_i2l, x_l2i, x_idiv, x_irem, x_ldiv, x_lrem, x_dup_int, x_pop_int, x_dup_ref, x_pop_ref, x_dup2, x_goto, x_nop, x_if_eq, x_if_ne, x_if_lt, x_if_ge, x_if_gt, x_if_le, x_icmp_eq, x_icmp_ne, x_icmp_lt, x_icmp_ge, x_icmp_gt, x_icmp_le, x_getfield, x_putfield, x_iaload, x_baload, x_laload, x_iastore, x_bastore, x_lastore, x_arraylength, x_virtual_0, x_virtual_1, x_virtual_2, x_virtual_3, x_virtual_4, x_virtual_5, x_static_0, x_static_1, x_static_2, x_static_3, x_static_4, x_static_5, x_static_6, x_min, x_max, x_abs, x_labs, x_tsw, oM_some, k_int, k_ref, k_long, k_null, vc_nil, vc_int, vc_ref, vc_long, tl_some, tl_none, ia_add, x_ireturn (M := m_126) rfl]
            refine ru_at (b := k_126_77) (cl_mono _ _ _ _) rfl ?_
            simp only [k_126_77, x_iload_0, x_iload_1, x_iload_2, x_iload_3, x_iload_4, x_iload_5, x_iload_6, x_iload_7, x_iload_8, x_iload_9, x_iload_10, x_iload_11, x_lload_0, x_lload_1, x_lload_2, x_lload_3, x_lload_4, x_lload_5, x_lload_6, x_lload_7, x_lload_8, x_lload_9, x_lload_10, x_lload_11, x_aload_0, x_aload_1, x_aload_2, x_aload_3, x_aload_4, x_aload_5, x_aload_6, x_aload_7, x_aload_8, x_aload_9, x_aload_10, x_aload_11, x_istore_0, x_istore_1, x_istore_2, x_istore_3, x_istore_4, x_istore_5, x_istore_6, x_istore_7, x_istore_8, x_istore_9, x_istore_10, x_istore_11, x_astore_0, x_astore_1, x_astore_2, x_astore_3, x_astore_4, x_astore_5, x_astore_6, x_astore_7, x_astore_8, x_astore_9, x_astore_10, x_astore_11, x_lstore_0, x_lstore_1, x_lstore_2, x_lstore_3, x_lstore_4, x_lstore_5, x_lstore_6, x_lstore_7, x_lstore_8, x_lstore_9, x_lstore_10, x_iinc_0, x_iinc_1, x_iinc_2, x_iinc_3, x_iinc_4, x_iinc_5, x_iinc_6, x_iinc_7, x_iinc_8, x_iinc_9, x_iinc_10, x_iinc_11, x_iconst, x_bipush, x_sipush, x_lconst, x_ldc_w, x_ldc2_w, x_iadd, x_isub, x_imul, x_iand, x_ior, x_ixor, x_ishl, x_ishr, x_iushr, x_ladd, x_lsub, x_lmul, x_ineg, x_lneg, x_lcmp, x_i2l, x_l2i, x_idiv, x_irem, x_ldiv, x_lrem, x_dup_int, x_pop_int, x_dup_ref, x_pop_ref, x_dup2, x_goto, x_nop, x_if_eq, x_if_ne, x_if_lt, x_if_ge, x_if_gt, x_if_le, x_icmp_eq, x_icmp_ne, x_icmp_lt, x_icmp_ge, x_icmp_gt, x_icmp_le, x_getfield, x_putfield, x_iaload, x_baload, x_laload, x_iastore, x_bastore, x_lastore, x_arraylength, x_virtual_0, x_virtual_1, x_virtual_2, x_virtual_3, x_virtual_4, x_virtual_5, x_static_0, x_static_1, x_static_2, x_static_3, x_static_4, x_static_5, x_static_6, x_min, x_max, x_abs, x_labs, x_tsw, oM_some, k_int, k_ref, k_long, k_null, vc_nil, vc_int, vc_ref, vc_long, tl_some, tl_none, ia_add, x_ireturn (M := m_126) rfl]
            have := ih2 (.int (Int32.ofInt (m0 : Int)))
            rw [show slx n k (l + 1) = slx n k l ++ sOne n k l from rfl, hone, ← List.append_assoc, List.length_append, hct] at this
            exact this (by rw [show ([sCd k l m0] : List Int).length = 1 from rfl]; omega)
          · simp only [ia_mul, ia_add]
            refine hQ _ _ ⟨_, rfl, ?_, rfl⟩
            have := sdA_hit (n := n) (k := k) (l := l) (i := i) (by omega) hl (by rw [hmm]; exact hm2) (by rw [hmm]; exact hv) (by rw [hct]; exact heq)
            rw [hmm] at this
            exact this
    · intro l5 hpos
      refine ru_at (b := k_126_14) (cl_mono _ _ _ _) rfl ?_
      simp only [k_126_14, x_iload_0, x_iload_1, x_iload_2, x_iload_3, x_iload_4, x_iload_5, x_iload_6, x_iload_7, x_iload_8, x_iload_9, x_iload_10, x_iload_11, x_lload_0, x_lload_1, x_lload_2, x_lload_3, x_lload_4, x_lload_5, x_lload_6, x_lload_7, x_lload_8, x_lload_9, x_lload_10, x_lload_11, x_aload_0, x_aload_1, x_aload_2, x_aload_3, x_aload_4, x_aload_5, x_aload_6, x_aload_7, x_aload_8, x_aload_9, x_aload_10, x_aload_11, x_istore_0, x_istore_1, x_istore_2, x_istore_3, x_istore_4, x_istore_5, x_istore_6, x_istore_7, x_istore_8, x_istore_9, x_istore_10, x_istore_11, x_astore_0, x_astore_1, x_astore_2, x_astore_3, x_astore_4, x_astore_5, x_astore_6, x_astore_7, x_astore_8, x_astore_9, x_astore_10, x_astore_11, x_lstore_0, x_lstore_1, x_lstore_2, x_lstore_3, x_lstore_4, x_lstore_5, x_lstore_6, x_lstore_7, x_lstore_8, x_lstore_9, x_lstore_10, x_iinc_0, x_iinc_1, x_iinc_2, x_iinc_3, x_iinc_4, x_iinc_5, x_iinc_6, x_iinc_7, x_iinc_8, x_iinc_9, x_iinc_10, x_iinc_11, x_iconst, x_bipush, x_sipush, x_lconst, x_ldc_w, x_ldc2_w, x_iadd, x_isub, x_imul, x_iand, x_ior, x_ixor, x_ishl, x_ishr, x_iushr, x_ladd, x_lsub, x_lmul, x_ineg, x_lneg, x_lcmp, x_i2l, x_l2i, x_idiv, x_irem, x_ldiv, x_lrem, x_dup_int, x_pop_int, x_dup_ref, x_pop_ref, x_dup2, x_goto, x_nop, x_if_eq, x_if_ne, x_if_lt, x_if_ge, x_if_gt, x_if_le, x_icmp_eq, x_icmp_ne, x_icmp_lt, x_icmp_ge, x_icmp_gt, x_icmp_le, x_getfield, x_putfield, x_iaload, x_baload, x_laload, x_iastore, x_bastore, x_lastore, x_arraylength, x_virtual_0, x_virtual_1, x_virtual_2, x_virtual_3, x_virtual_4, x_virtual_5, x_static_0, x_static_1, x_static_2, x_static_3, x_static_4, x_static_5, x_static_6, x_min, x_max, x_abs, x_labs, x_tsw, oM_some, k_int, k_ref, k_long, k_null, vc_nil, vc_int, vc_ref, vc_long, tl_some, tl_none, x_ireturn (M := m_126) rfl]
      refine if_le ⟨by omega, by omega⟩ ⟨by omega, by omega⟩ (fun hcc => ?_) (fun hcc => absurd hcc (by omega))
      refine ru_at (b := k_126_83) (cl_mono _ _ _ _) rfl ?_
      simp only [k_126_83, x_iload_0, x_iload_1, x_iload_2, x_iload_3, x_iload_4, x_iload_5, x_iload_6, x_iload_7, x_iload_8, x_iload_9, x_iload_10, x_iload_11, x_lload_0, x_lload_1, x_lload_2, x_lload_3, x_lload_4, x_lload_5, x_lload_6, x_lload_7, x_lload_8, x_lload_9, x_lload_10, x_lload_11, x_aload_0, x_aload_1, x_aload_2, x_aload_3, x_aload_4, x_aload_5, x_aload_6, x_aload_7, x_aload_8, x_aload_9, x_aload_10, x_aload_11, x_istore_0, x_istore_1, x_istore_2, x_istore_3, x_istore_4, x_istore_5, x_istore_6, x_istore_7, x_istore_8, x_istore_9, x_istore_10, x_istore_11, x_astore_0, x_astore_1, x_astore_2, x_astore_3, x_astore_4, x_astore_5, x_astore_6, x_astore_7, x_astore_8, x_astore_9, x_astore_10, x_astore_11, x_lstore_0, x_lstore_1, x_lstore_2, x_lstore_3, x_lstore_4, x_lstore_5, x_lstore_6, x_lstore_7, x_lstore_8, x_lstore_9, x_lstore_10, x_iinc_0, x_iinc_1, x_iinc_2, x_iinc_3, x_iinc_4, x_iinc_5, x_iinc_6, x_iinc_7, x_iinc_8, x_iinc_9, x_iinc_10, x_iinc_11, x_iconst, x_bipush, x_sipush, x_lconst, x_ldc_w, x_ldc2_w, x_iadd, x_isub, x_imul, x_iand, x_ior, x_ixor, x_ishl, x_ishr, x_iushr, x_ladd, x_lsub, x_lmul, x_ineg, x_lneg, x_lcmp, x_i2l, x_l2i, x_idiv, x_irem, x_ldiv, x_lrem, x_dup_int, x_pop_int, x_dup_ref, x_pop_ref, x_dup2, x_goto, x_nop, x_if_eq, x_if_ne, x_if_lt, x_if_ge, x_if_gt, x_if_le, x_icmp_eq, x_icmp_ne, x_icmp_lt, x_icmp_ge, x_icmp_gt, x_icmp_le, x_getfield, x_putfield, x_iaload, x_baload, x_laload, x_iastore, x_bastore, x_lastore, x_arraylength, x_virtual_0, x_virtual_1, x_virtual_2, x_virtual_3, x_virtual_4, x_virtual_5, x_static_0, x_static_1, x_static_2, x_static_3, x_static_4, x_static_5, x_static_6, x_min, x_max, x_abs, x_labs, x_tsw, oM_some, k_int, k_ref, k_long, k_null, vc_nil, vc_int, vc_ref, vc_long, tl_some, tl_none, ia_add, x_ireturn (M := m_126) rfl]
      exact ih _ _ hpos
  · intro l4 l5 hpos
    have hlen := sly_len n (n - 1) (by omega)
    obtain ⟨n1, hn1⟩ : ∃ n1, n - 1 = n1 := ⟨_, rfl⟩
    rw [hn1] at hlen hpos ⊢
    refine ru_at (b := k_126_4) (cl_mono _ _ _ _) rfl ?_
    simp only [k_126_4, x_iload_0, x_iload_1, x_iload_2, x_iload_3, x_iload_4, x_iload_5, x_iload_6, x_iload_7, x_iload_8, x_iload_9, x_iload_10, x_iload_11, x_lload_0, x_lload_1, x_lload_2, x_lload_3, x_lload_4, x_lload_5, x_lload_6, x_lload_7, x_lload_8, x_lload_9, x_lload_10, x_lload_11, x_aload_0, x_aload_1, x_aload_2, x_aload_3, x_aload_4, x_aload_5, x_aload_6, x_aload_7, x_aload_8, x_aload_9, x_aload_10, x_aload_11, x_istore_0, x_istore_1, x_istore_2, x_istore_3, x_istore_4, x_istore_5, x_istore_6, x_istore_7, x_istore_8, x_istore_9, x_istore_10, x_istore_11, x_astore_0, x_astore_1, x_astore_2, x_astore_3, x_astore_4, x_astore_5, x_astore_6, x_astore_7, x_astore_8, x_astore_9, x_astore_10, x_astore_11, x_lstore_0, x_lstore_1, x_lstore_2, x_lstore_3, x_lstore_4, x_lstore_5, x_lstore_6, x_lstore_7, x_lstore_8, x_lstore_9, x_lstore_10, x_iinc_0, x_iinc_1, x_iinc_2, x_iinc_3, x_iinc_4, x_iinc_5, x_iinc_6, x_iinc_7, x_iinc_8, x_iinc_9, x_iinc_10, x_iinc_11, x_iconst, x_bipush, x_sipush, x_lconst, x_ldc_w, x_ldc2_w, x_iadd, x_isub, x_imul, x_iand, x_ior, x_ixor, x_ishl, x_ishr, x_iushr, x_ladd, x_lsub, x_lmul, x_ineg, x_lneg, x_lcmp, x_i2l, x_l2i, x_idiv, x_irem, x_ldiv, x_lrem, x_dup_int, x_pop_int, x_dup_ref, x_pop_ref, x_dup2, x_goto, x_nop, x_if_eq, x_if_ne, x_if_lt, x_if_ge, x_if_gt, x_if_le, x_icmp_eq, x_icmp_ne, x_icmp_lt, x_icmp_ge, x_icmp_gt, x_icmp_le, x_getfield, x_putfield, x_iaload, x_baload, x_laload, x_iastore, x_bastore, x_lastore, x_arraylength, x_virtual_0, x_virtual_1, x_virtual_2, x_virtual_3, x_virtual_4, x_virtual_5, x_static_0, x_static_1, x_static_2, x_static_3, x_static_4, x_static_5, x_static_6, x_min, x_max, x_abs, x_labs, x_tsw, oM_some, k_int, k_ref, k_long, k_null, vc_nil, vc_int, vc_ref, vc_long, tl_some, tl_none, ia_sub, x_ireturn (M := m_126) rfl]
    refine if_lt ⟨by omega, by omega⟩ ⟨by omega, by omega⟩ (fun hcc => ?_) (fun hcc => absurd hcc (by omega))
    refine ru_at (b := k_126_89) (cl_mono _ _ _ _) rfl ?_
    simp only [k_126_89, x_iload_0, x_iload_1, x_iload_2, x_iload_3, x_iload_4, x_iload_5, x_iload_6, x_iload_7, x_iload_8, x_iload_9, x_iload_10, x_iload_11, x_lload_0, x_lload_1, x_lload_2, x_lload_3, x_lload_4, x_lload_5, x_lload_6, x_lload_7, x_lload_8, x_lload_9, x_lload_10, x_lload_11, x_aload_0, x_aload_1, x_aload_2, x_aload_3, x_aload_4, x_aload_5, x_aload_6, x_aload_7, x_aload_8, x_aload_9, x_aload_10, x_aload_11, x_istore_0, x_istore_1, x_istore_2, x_istore_3, x_istore_4, x_istore_5, x_istore_6, x_istore_7, x_istore_8, x_istore_9, x_istore_10, x_istore_11, x_astore_0, x_astore_1, x_astore_2, x_astore_3, x_astore_4, x_astore_5, x_astore_6, x_astore_7, x_astore_8, x_astore_9, x_astore_10, x_astore_11, x_lstore_0, x_lstore_1, x_lstore_2, x_lstore_3, x_lstore_4, x_lstore_5, x_lstore_6, x_lstore_7, x_lstore_8, x_lstore_9, x_lstore_10, x_iinc_0, x_iinc_1, x_iinc_2, x_iinc_3, x_iinc_4, x_iinc_5, x_iinc_6, x_iinc_7, x_iinc_8, x_iinc_9, x_iinc_10, x_iinc_11, x_iconst, x_bipush, x_sipush, x_lconst, x_ldc_w, x_ldc2_w, x_iadd, x_isub, x_imul, x_iand, x_ior, x_ixor, x_ishl, x_ishr, x_iushr, x_ladd, x_lsub, x_lmul, x_ineg, x_lneg, x_lcmp, x_i2l, x_l2i, x_idiv, x_irem, x_ldiv, x_lrem, x_dup_int, x_pop_int, x_dup_ref, x_pop_ref, x_dup2, x_goto, x_nop, x_if_eq, x_if_ne, x_if_lt, x_if_ge, x_if_gt, x_if_le, x_icmp_eq, x_icmp_ne, x_icmp_lt, x_icmp_ge, x_icmp_gt, x_icmp_le, x_getfield, x_putfield, x_iaload, x_baload, x_laload, x_iastore, x_bastore, x_lastore, x_arraylength, x_virtual_0, x_virtual_1, x_virtual_2, x_virtual_3, x_virtual_4, x_virtual_5, x_static_0, x_static_1, x_static_2, x_static_3, x_static_4, x_static_5, x_static_6, x_min, x_max, x_abs, x_labs, x_tsw, oM_some, k_int, k_ref, k_long, k_null, vc_nil, vc_int, vc_ref, vc_long, tl_some, tl_none, x_ireturn (M := m_126) rfl]
    refine if_ne hi ⟨by omega, by omega⟩ (fun hne => ?_) (fun heq => ?_)
    · refine ru_at (b := k_126_98) (cl_mono _ _ _ _) rfl ?_
      simp only [k_126_98, x_iload_0, x_iload_1, x_iload_2, x_iload_3, x_iload_4, x_iload_5, x_iload_6, x_iload_7, x_iload_8, x_iload_9, x_iload_10, x_iload_11, x_lload_0, x_lload_1, x_lload_2, x_lload_3, x_lload_4, x_lload_5, x_lload_6, x_lload_7, x_lload_8, x_lload_9, x_lload_10, x_lload_11, x_aload_0, x_aload_1, x_aload_2, x_aload_3, x_aload_4, x_aload_5, x_aload_6, x_aload_7, x_aload_8, x_aload_9, x_aload_10, x_aload_11, x_istore_0, x_istore_1, x_istore_2, x_istore_3, x_istore_4, x_istore_5, x_istore_6, x_istore_7, x_istore_8, x_istore_9, x_istore_10, x_istore_11, x_astore_0, x_astore_1, x_astore_2, x_astore_3, x_astore_4, x_astore_5, x_astore_6, x_astore_7, x_astore_8, x_astore_9, x_astore_10, x_astore_11, x_lstore_0, x_lstore_1, x_lstore_2, x_lstore_3, x_lstore_4, x_lstore_5, x_lstore_6, x_lstore_7, x_lstore_8, x_lstore_9, x_lstore_10, x_iinc_0, x_iinc_1, x_iinc_2, x_iinc_3, x_iinc_4, x_iinc_5, x_iinc_6, x_iinc_7, x_iinc_8, x_iinc_9, x_iinc_10, x_iinc_11, x_iconst, x_bipush, x_sipush, x_lconst, x_ldc_w, x_ldc2_w, x_iadd, x_isub, x_imul, x_iand, x_ior, x_ixor, x_ishl, x_ishr, x_iushr, x_ladd, x_lsub, x_lmul, x_ineg, x_lneg, x_lcmp, x_i2l, x_l2i, x_idiv, x_irem, x_ldiv, x_lrem, x_dup_int, x_pop_int, x_dup_ref, x_pop_ref, x_dup2, x_goto, x_nop, x_if_eq, x_if_ne, x_if_lt, x_if_ge, x_if_gt, x_if_le, x_icmp_eq, x_icmp_ne, x_icmp_lt, x_icmp_ge, x_icmp_gt, x_icmp_le, x_getfield, x_putfield, x_iaload, x_baload, x_laload, x_iastore, x_bastore, x_lastore, x_arraylength, x_virtual_0, x_virtual_1, x_virtual_2, x_virtual_3, x_virtual_4, x_virtual_5, x_static_0, x_static_1, x_static_2, x_static_3, x_static_4, x_static_5, x_static_6, x_min, x_max, x_abs, x_labs, x_tsw, oM_some, k_int, k_ref, k_long, k_null, vc_nil, vc_int, vc_ref, vc_long, tl_some, tl_none, x_ireturn (M := m_126) rfl]
      refine ru_at (b := k_126_100) (cl_mono _ _ _ _) rfl ?_
      simp only [k_126_100, x_iload_0, x_iload_1, x_iload_2, x_iload_3, x_iload_4, x_iload_5, x_iload_6, x_iload_7, x_iload_8, x_iload_9, x_iload_10, x_iload_11, x_lload_0, x_lload_1, x_lload_2, x_lload_3, x_lload_4, x_lload_5, x_lload_6, x_lload_7, x_lload_8, x_lload_9, x_lload_10, x_lload_11, x_aload_0, x_aload_1, x_aload_2, x_aload_3, x_aload_4, x_aload_5, x_aload_6, x_aload_7, x_aload_8, x_aload_9, x_aload_10, x_aload_11, x_istore_0, x_istore_1, x_istore_2, x_istore_3, x_istore_4, x_istore_5, x_istore_6, x_istore_7, x_istore_8, x_istore_9, x_istore_10, x_istore_11, x_astore_0, x_astore_1, x_astore_2, x_astore_3, x_astore_4, x_astore_5, x_astore_6, x_astore_7, x_astore_8, x_astore_9, x_astore_10, x_astore_11, x_lstore_0, x_lstore_1, x_lstore_2, x_lstore_3, x_lstore_4, x_lstore_5, x_lstore_6, x_lstore_7, x_lstore_8, x_lstore_9, x_lstore_10, x_iinc_0, x_iinc_1, x_iinc_2, x_iinc_3, x_iinc_4, x_iinc_5, x_iinc_6, x_iinc_7, x_iinc_8, x_iinc_9, x_iinc_10, x_iinc_11, x_iconst, x_bipush, x_sipush, x_lconst, x_ldc_w, x_ldc2_w, x_iadd, x_isub, x_imul, x_iand, x_ior, x_ixor, x_ishl, x_ishr, x_iushr, x_ladd, x_lsub, x_lmul, x_ineg, x_lneg, x_lcmp, x_i2l, x_l2i, x_idiv, x_irem, x_ldiv, x_lrem, x_dup_int, x_pop_int, x_dup_ref, x_pop_ref, x_dup2, x_goto, x_nop, x_if_eq, x_if_ne, x_if_lt, x_if_ge, x_if_gt, x_if_le, x_icmp_eq, x_icmp_ne, x_icmp_lt, x_icmp_ge, x_icmp_gt, x_icmp_le, x_getfield, x_putfield, x_iaload, x_baload, x_laload, x_iastore, x_bastore, x_lastore, x_arraylength, x_virtual_0, x_virtual_1, x_virtual_2, x_virtual_3, x_virtual_4, x_virtual_5, x_static_0, x_static_1, x_static_2, x_static_3, x_static_4, x_static_5, x_static_6, x_min, x_max, x_abs, x_labs, x_tsw, oM_some, k_int, k_ref, k_long, k_null, vc_nil, vc_int, vc_ref, vc_long, tl_some, tl_none, x_ireturn (M := m_126) rfl]
      refine hQ _ _ ⟨_, rfl, Or.inr (Or.inr ⟨by omega, ?_, rfl⟩), rfl⟩
      rw [hn1]
      omega
    · refine ru_at (b := k_126_100) (cl_mono _ _ _ _) rfl ?_
      simp only [k_126_100, x_iload_0, x_iload_1, x_iload_2, x_iload_3, x_iload_4, x_iload_5, x_iload_6, x_iload_7, x_iload_8, x_iload_9, x_iload_10, x_iload_11, x_lload_0, x_lload_1, x_lload_2, x_lload_3, x_lload_4, x_lload_5, x_lload_6, x_lload_7, x_lload_8, x_lload_9, x_lload_10, x_lload_11, x_aload_0, x_aload_1, x_aload_2, x_aload_3, x_aload_4, x_aload_5, x_aload_6, x_aload_7, x_aload_8, x_aload_9, x_aload_10, x_aload_11, x_istore_0, x_istore_1, x_istore_2, x_istore_3, x_istore_4, x_istore_5, x_istore_6, x_istore_7, x_istore_8, x_istore_9, x_istore_10, x_istore_11, x_astore_0, x_astore_1, x_astore_2, x_astore_3, x_astore_4, x_astore_5, x_astore_6, x_astore_7, x_astore_8, x_astore_9, x_astore_10, x_astore_11, x_lstore_0, x_lstore_1, x_lstore_2, x_lstore_3, x_lstore_4, x_lstore_5, x_lstore_6, x_lstore_7, x_lstore_8, x_lstore_9, x_lstore_10, x_iinc_0, x_iinc_1, x_iinc_2, x_iinc_3, x_iinc_4, x_iinc_5, x_iinc_6, x_iinc_7, x_iinc_8, x_iinc_9, x_iinc_10, x_iinc_11, x_iconst, x_bipush, x_sipush, x_lconst, x_ldc_w, x_ldc2_w, x_iadd, x_isub, x_imul, x_iand, x_ior, x_ixor, x_ishl, x_ishr, x_iushr, x_ladd, x_lsub, x_lmul, x_ineg, x_lneg, x_lcmp, x_i2l, x_l2i, x_idiv, x_irem, x_ldiv, x_lrem, x_dup_int, x_pop_int, x_dup_ref, x_pop_ref, x_dup2, x_goto, x_nop, x_if_eq, x_if_ne, x_if_lt, x_if_ge, x_if_gt, x_if_le, x_icmp_eq, x_icmp_ne, x_icmp_lt, x_icmp_ge, x_icmp_gt, x_icmp_le, x_getfield, x_putfield, x_iaload, x_baload, x_laload, x_iastore, x_bastore, x_lastore, x_arraylength, x_virtual_0, x_virtual_1, x_virtual_2, x_virtual_3, x_virtual_4, x_virtual_5, x_static_0, x_static_1, x_static_2, x_static_3, x_static_4, x_static_5, x_static_6, x_min, x_max, x_abs, x_labs, x_tsw, oM_some, k_int, k_ref, k_long, k_null, vc_nil, vc_int, vc_ref, vc_long, tl_some, tl_none, x_ireturn (M := m_126) rfl]
      exact hQ _ _ ⟨_, rfl, Or.inl ⟨heq, by rw [hn1]⟩, rfl⟩
