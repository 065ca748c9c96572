/-! ===== PairSortsModel: laysShares, laysLine ===== -/
def cnt (A : Nat) : Nat → Nat
  | 0 => 0
  | i + 1 => cnt A i + (if bitp A (i + 1) then 1 else 0)
theorem cnt_le (A : Nat) : ∀ i, cnt A i ≤ i := by
  intro i
  induction i with
  | zero => exact Nat.le_refl _
  | succ i ih => unfold cnt; split <;> omega
theorem cnt_y {A i : Nat} (h : bitp A (i + 1)) : cnt A (i + 1) = cnt A i + 1 := by
  show cnt A i + (if bitp A (i + 1) then 1 else 0) = _
  rw [if_pos h]
theorem cnt_n {A i : Nat} (h : ¬ bitp A (i + 1)) : cnt A (i + 1) = cnt A i := by
  show cnt A i + (if bitp A (i + 1) then 1 else 0) = _
  rw [if_neg h]; omega
theorem cnt_mono {A i j : Nat} (h : i ≤ j) : cnt A i ≤ cnt A j := by
  induction j with
  | zero => rw [show i = 0 by omega]; exact Nat.le_refl _
  | succ j ih =>
    by_cases e : i = j + 1
    · rw [e]; exact Nat.le_refl _
    · have := ih (by omega)
      by_cases q : bitp A (j + 1)
      · rw [cnt_y q]; omega
      · rw [cnt_n q]; omega
theorem WE_0 {al : Nat → Prop} {we iw : Nat → Nat} : WE 0 0 al we iw := ⟨fun j hj => by omega, fun i h1 h2 => by omega⟩
theorem WE_y {L A : Nat} {we : Nat → Nat} (h : WE L (cnt A L) (bitp A) we (fun i => cnt A (i - 1))) (q : bitp A (L + 1)) : WE (L + 1) (cnt A (L + 1)) (bitp A) (fun j => if j = cnt A L then L + 1 else we j) (fun i => cnt A (i - 1)) := by
  refine ⟨fun j hj => ?_, fun i h1 h2 h3 => ?_⟩
  · rw [cnt_y q] at hj
    by_cases e : j = cnt A L
    · simp only [e, if_true]
      exact ⟨by omega, by omega, q, by rw [show L + 1 - 1 = L by omega]⟩
    · simp only [e, if_false]
      obtain ⟨a1, a2, a3, a4⟩ := h.1 j (by omega)
      exact ⟨a1, by omega, a3, a4⟩
  · by_cases e : i = L + 1
    · subst e
      simp only [show L + 1 - 1 = L by omega, if_true]
      rw [cnt_y q]
      exact ⟨by omega, trivial⟩
    · obtain ⟨a1, a2⟩ := h.2 i h1 (by omega) h3
      have hne : cnt A (i - 1) ≠ cnt A L := Nat.ne_of_lt a1
      simp only [hne, if_false]
      rw [cnt_y q]
      exact ⟨by have : cnt A (i - 1) < cnt A L := a1; omega, a2⟩
theorem WE_n {L A : Nat} {we : Nat → Nat} (h : WE L (cnt A L) (bitp A) we (fun i => cnt A (i - 1))) (q : ¬ bitp A (L + 1)) : WE (L + 1) (cnt A (L + 1)) (bitp A) we (fun i => cnt A (i - 1)) := by
  rw [cnt_n q]
  refine ⟨fun j hj => ?_, fun i h1 h2 h3 => ?_⟩
  · obtain ⟨a1, a2, a3, a4⟩ := h.1 j hj
    exact ⟨a1, by omega, a3, a4⟩
  · by_cases e : i = L + 1
    · rw [e] at h3; exact absurd h3 q
    · exact h.2 i h1 (by omega) h3
theorem lcm_step (a b : Nat) : a / Nat.gcd a b * b = Nat.lcm a b := by
  unfold Nat.lcm
  obtain ⟨k, hk⟩ := Nat.gcd_dvd_left a b
  by_cases h : Nat.gcd a b = 0
  · rw [h, Nat.div_zero, Nat.div_zero, Nat.zero_mul]
  · have e1 : a / Nat.gcd a b = k := by
      have := Nat.mul_div_cancel_left k (Nat.pos_of_ne_zero h)
      rw [← hk] at this; exact this
    have e2 : a * b / Nat.gcd a b = k * b := by
      have := Nat.mul_div_cancel_left (k * b) (Nat.pos_of_ne_zero h)
      rw [← Nat.mul_assoc, ← hk] at this; exact this
    rw [e1, e2]
/-- what stands in the reference before the corners: the sorts that are weighed, the shares -/
def rSh (s : Nat → Int32) (l : Nat → Int64) (A : Nat → Nat → Int32) (B : Nat → Nat → Int64) (L m : Nat) (v : Nat → Nat → Int) (cS : Nat → Int) (S : Int) (we : Nat → Nat) : Prop := s 1 = Int32.ofInt L ∧ s 3 = Int32.ofInt m ∧ l 2 = Int64.ofInt S ∧ (∀ j : Nat, j < m → A 80 j = Int32.ofInt (we j)) ∧ ∀ r i : Nat, r < L + 1 → i < L + 1 → B 81 (6 * r + i) = Int64.ofInt (v r i * cS i)
theorem gO62 {v w : aW} {s : Nat → Int32} {l : Nat → Int64} {A : Nat → Nat → Int32} {B : Nat → Nat → Int64} (h : RX v w s l A B) (f : List Value) : gO (sO w 62 11 f) 62 = some (11, f) := gO_sO_at _ _ _ _ (by have := h.1.2; omega)
theorem r_laysShares {v w : aW} {s : Nat → Int32} {l : Nat → Int64} {A : Nat → Nat → Int32} {B : Nat → Nat → Int64} (h : RX v w s l A B) {n : Nat} {R : Nat → Nat → Nat} (hW : wholeR n R) (hrw : rRw s A n R) {Al : Nat} (hA : Al < 64) : Ct 2 228 [.ref 62, .int (Int32.ofInt Al)] w (fun q w' => q = none ∧ ∃ s' l' A' B' we, RX v w' s' l' A' B' ∧ eqA 80 80 A A' ∧ (∀ k, k ≠ 3 → s' k = s k) ∧ WE (gry R n) (cnt Al (gry R n)) (bitp Al) we (fun i => cnt Al (i - 1)) ∧ rSh s' l' A' B' (gry R n) (cnt Al (gry R n)) (rowN n R) (fun i => ((lcf 1 (fun j => kv n R (j + 1)) (gry R n) / kv n R i : Nat) : Int)) ((lcf 1 (fun j => kv n R (j + 1)) (gry R n) : Nat) : Int) we) := by
  obtain ⟨hR, hsc, hlen⟩ := hW
  have hL := gr_le hR
  have kp : ∀ i : Nat, i ≤ gry R n → 1 ≤ kv n R i := fun i hi => kv_pos hR hsc hi
  have kb := kv_le hR
  have hsum : nsu (fun j => kv n R (j + 1)) (gry R n) ≤ 12 := by
    have h1 := kv_sum hR hsc
    have h2 := kv_0 hR hsc
    have h3 : ∀ m : Nat, sg (fun i => (kv n R i : Int)) (m + 1) = (kv n R 0 : Int) + (nsu (fun j => kv n R (j + 1)) m : Int) := by
      intro m
      induction m with
      | zero => show 0 + (kv n R 0 : Int) = (kv n R 0 : Int) + 0; omega
      | succ m ih => rw [sg_s, ih, show nsu (fun j => kv n R (j + 1)) (m + 1) = nsu (fun j => kv n R (j + 1)) m + kv n R (m + 1) from rfl]; omega
    rw [h3, h2] at h1
    have := hR.2.1
    omega
  -- how large the least common multiples are
  have nsm0 : ∀ i : Nat, i ≤ gry R n → nsu (fun j => kv n R (j + 1)) i ≤ 12 := by
    have mono : ∀ i k : Nat, nsu (fun j => kv n R (j + 1)) i ≤ nsu (fun j => kv n R (j + 1)) (i + k) := by
      intro i k
      induction k with
      | zero => exact Nat.le_refl _
      | succ k ih => exact Nat.le_trans ih (Nat.le_add_right _ _)
    intro i hi
    have := mono i (gry R n - i)
    rw [show i + (gry R n - i) = gry R n by omega] at this
    omega
  have lb : ∀ i : Nat, i ≤ gry R n → 1 ≤ lcf 1 (fun j => kv n R (j + 1)) i ∧ lcf 1 (fun j => kv n R (j + 1)) i ≤ 60 := by
    intro i hi
    have h1 := lc_bd (L := i) (by omega) (K := fun j => kv n R (j + 1)) (fun j hj => kp _ (by omega)) (nsm0 i hi) (m := 0) (Nat.zero_le _)
    have h2 := lcf_pos (l := 1) (K := fun j => kv n R (j + 1)) (by omega) (i := i) (fun j hj => kp _ (by omega))
    omega
  obtain ⟨hr1, hr2, hr3, hr4⟩ := hrw
  have hval : ∀ r i : Nat, r < gry R n + 1 → i < gry R n + 1 → A 75 (6 * r + i) = Int32.ofInt (rowN n R r i) ∧ -13 ≤ rowN n R r i ∧ rowN n R r i ≤ 13 := fun r i hr hi => ⟨(hr4 r _ (rowN_is (by omega))).1 i (by omega), RwL_sm hR (rowN_mem (show r < (RwL n R).length by omega)) i (by omega)⟩
  generalize gry R n = L at *
  generalize rowN n R = vv at *
  refine Ct.of (fun d hd Q hQ => cl_at (M := m_228) (L := [.ref 62, .int (Int32.ofInt Al), .null, .null]) rfl (Nat.le_of_ble_eq_true rfl) rfl (fun E hE => ?_))
  have hO := gO62 h
  refine ru_at (b := k_228_0) (cl_mono _ _ _ _) rfl ?_
  simp only [k_228_0, x_iload_0, x_iload_1, x_iload_2, x_iload_3, x_iload_4, x_iload_5, x_iload_6, x_iload_7, x_iload_8, x_iload_9, x_iload_10, x_iload_11, x_lload_0, x_lload_1, x_lload_2, x_lload_3, x_lload_4, x_lload_5, x_lload_6, x_lload_7, x_lload_8, x_lload_9, x_lload_10, x_lload_11, x_aload_0, x_aload_1, x_aload_2, x_aload_3, x_aload_4, x_aload_5, x_aload_6, x_aload_7, x_aload_8, x_aload_9, x_aload_10, x_aload_11, x_istore_0, x_istore_1, x_istore_2, x_istore_3, x_istore_4, x_istore_5, x_istore_6, x_istore_7, x_istore_8, x_istore_9, x_istore_10, x_istore_11, x_astore_0, x_astore_1, x_astore_2, x_astore_3, x_astore_4, x_astore_5, x_astore_6, x_astore_7, x_astore_8, x_astore_9, x_astore_10, x_astore_11, x_lstore_0, x_lstore_1, x_lstore_2, x_lstore_3, x_lstore_4, x_lstore_5, x_lstore_6, x_lstore_7, x_lstore_8, x_lstore_9, x_lstore_10, x_iinc_0, x_iinc_1, x_iinc_2, x_iinc_3, x_iinc_4, x_iinc_5, x_iinc_6, x_iinc_7, x_iinc_8, x_iinc_9, x_iinc_10, x_iinc_11, x_iconst, x_bipush, x_sipush, x_lconst, x_ldc_w, x_ldc2_w, x_iadd, x_isub, x_imul, x_iand, x_ior, x_ixor, x_ishl, x_ishr, x_iushr, x_ladd, x_lsub, x_lmul, x_ineg, x_lneg, x_lcmp, x_i2l, x_l2i, x_idiv, x_irem, x_ldiv, x_lrem, x_dup_int, x_pop_int, x_dup_ref, x_pop_ref, x_dup2, x_goto, x_nop, x_if_eq, x_if_ne, x_if_lt, x_if_ge, x_if_gt, x_if_le, x_icmp_eq, x_icmp_ne, x_icmp_lt, x_icmp_ge, x_icmp_gt, x_icmp_le, x_getfield, x_putfield, x_iaload, x_baload, x_laload, x_iastore, x_bastore, x_lastore, x_arraylength, x_virtual_0, x_virtual_1, x_virtual_2, x_virtual_3, x_virtual_4, x_virtual_5, x_static_0, x_static_1, x_static_2, x_static_3, x_static_4, x_static_5, x_static_6, x_min, x_max, x_abs, x_labs, x_tsw, oM_some, k_int, k_ref, k_long, k_null, vc_nil, vc_int, vc_ref, vc_long, tl_some, tl_none, h.o, hO, sO_sO, rF, List.getElem?_cons_succ, List.getElem?_cons_zero, List.length_cons, List.length_nil, List.set_cons_zero, List.set_cons_succ, true_and, and_true, jk_1, x_return (M := m_228) rfl rfl]
  refine ⟨⟨by decide, rfl⟩, ⟨by decide, rfl⟩, ?_⟩
  refine up_to (R := fun i => ∀ w5 s5 l5 g we, RX v w5 s5 l5 (upA A 80 g) B → (∀ k, k ≠ 3 → s5 k = s k) → s5 3 = Int32.ofInt ((cnt Al (i - 1) : Nat) : Int) → l5 2 = Int64.ofInt ((lcf 1 (fun j => kv n R (j + 1)) (i - 1) : Nat) : Int) → WE (i - 1) (cnt Al (i - 1)) (bitp Al) we (fun i => cnt Al (i - 1)) → (∀ j : Nat, j < cnt Al (i - 1) → g j = Int32.ofInt (we j)) → Ru pD pY E (cL d) m_228 Q 12 [.ref 62, .int (Int32.ofInt Al), .int (Int32.ofInt (i : Int)), .null] [] w5) (lo := 1) (hi := L + 1) (by omega) (fun i hi1 hi ih => ?_) ?_ _ (upd s 3 (Int32.ofInt ((0 : Nat) : Int))) (fun k => if k = 2 then Int64.ofInt 1 else l k) (A 80) (fun _ => 0) (by rw [upA_self]; exact h.setO (upd s 3 (Int32.ofInt ((0 : Nat) : Int))) (fun k => if k = 2 then Int64.ofInt 1 else l k)) (fun k hk => upd_ne _ _ hk) (upd_at _ _ _) rfl WE_0 (fun j hj => absurd hj (Nat.not_lt_zero _))
  · intro w5 s5 l5 g we hW5 hs5 h3 h2 hwe hg
    have hO5 := gO62 hW5
    have i73 := hW5.i (show rI 73 = some 6 from rfl)
    rw [upA_ne _ _ (by omega)] at i73
    have i80 := hW5.i (show rI 80 = some 5 from rfl)
    rw [upA_at] at i80
    have ti : tn (Int32.ofInt (i : Int)) = i := tn_of rfl (by omega)
    have hki := kp i (by omega)
    have hkb := kb i
    obtain ⟨lb1, lb2⟩ := lb (i - 1) (by omega)
    have hc := cnt_le Al (i - 1)
    have lS : lr ((lcf 1 (fun j => kv n R (j + 1)) (i - 1) : Nat) : Int) := ⟨by omega, by omega⟩
    have lK : lr (kv n R i : Int) := ⟨by omega, by omega⟩
    have hs51 : s5 1 = Int32.ofInt (L : Int) := by rw [hs5 1 (by omega), hr1]
    have estep : lcf 1 (fun j => kv n R (j + 1)) (i - 1) / Nat.gcd (lcf 1 (fun j => kv n R (j + 1)) (i - 1)) (kv n R i) * kv n R i = lcf 1 (fun j => kv n R (j + 1)) i := by
      rw [lcm_step]
      have := lcf_s 1 (fun j => kv n R (j + 1)) (i - 1)
      rw [show i - 1 + 1 = i by omega] at this
      exact this.symm
    have hgp : 0 < Nat.gcd (lcf 1 (fun j => kv n R (j + 1)) (i - 1)) (kv n R i) := Nat.gcd_pos_of_pos_right _ (by omega)
    have hgl : Nat.gcd (lcf 1 (fun j => kv n R (j + 1)) (i - 1)) (kv n R i) ≤ 60 := Nat.le_trans (Nat.gcd_le_left _ (by omega)) lb2
    have lG : lr ((Int.gcd ((lcf 1 (fun j => kv n R (j + 1)) (i - 1) : Nat) : Int) (kv n R i : Int) : Nat) : Int) := ⟨by rw [Int.gcd_natCast_natCast]; omega, by rw [Int.gcd_natCast_natCast]; omega⟩
    have ed : (((lcf 1 (fun j => kv n R (j + 1)) (i - 1) : Nat) : Int).tdiv ((Int.gcd ((lcf 1 (fun j => kv n R (j + 1)) (i - 1) : Nat) : Int) (kv n R i : Int) : Nat) : Int)) * (kv n R i : Int) = ((lcf 1 (fun j => kv n R (j + 1)) i : Nat) : Int) := by
      rw [Int.gcd_natCast_natCast, ← Int.ofNat_tdiv, ← Int.natCast_mul, estep]
    refine ru_at (b := k_228_12) (cl_mono _ _ _ _) rfl ?_
    simp only [k_228_12, x_iload_0, x_iload_1, x_iload_2, x_iload_3, x_iload_4, x_iload_5, x_iload_6, x_iload_7, x_iload_8, x_iload_9, x_iload_10, x_iload_11, x_lload_0, x_lload_1, x_lload_2, x_lload_3, x_lload_4, x_lload_5, x_lload_6, x_lload_7, x_lload_8, x_lload_9, x_lload_10, x_lload_11, x_aload_0, x_aload_1, x_aload_2, x_aload_3, x_aload_4, x_aload_5, x_aload_6, x_aload_7, x_aload_8, x_aload_9, x_aload_10, x_aload_11, x_istore_0, x_istore_1, x_istore_2, x_istore_3, x_istore_4, x_istore_5, x_istore_6, x_istore_7, x_istore_8, x_istore_9, x_istore_10, x_istore_11, x_astore_0, x_astore_1, x_astore_2, x_astore_3, x_astore_4, x_astore_5, x_astore_6, x_astore_7, x_astore_8, x_astore_9, x_astore_10, x_astore_11, x_lstore_0, x_lstore_1, x_lstore_2, x_lstore_3, x_lstore_4, x_lstore_5, x_lstore_6, x_lstore_7, x_lstore_8, x_lstore_9, x_lstore_10, x_iinc_0, x_iinc_1, x_iinc_2, x_iinc_3, x_iinc_4, x_iinc_5, x_iinc_6, x_iinc_7, x_iinc_8, x_iinc_9, x_iinc_10, x_iinc_11, x_iconst, x_bipush, x_sipush, x_lconst, x_ldc_w, x_ldc2_w, x_iadd, x_isub, x_imul, x_iand, x_ior, x_ixor, x_ishl, x_ishr, x_iushr, x_ladd, x_lsub, x_lmul, x_ineg, x_lneg, x_lcmp, x_i2l, x_l2i, x_idiv, x_irem, x_ldiv, x_lrem, x_dup_int, x_pop_int, x_dup_ref, x_pop_ref, x_dup2, x_goto, x_nop, x_if_eq, x_if_ne, x_if_lt, x_if_ge, x_if_gt, x_if_le, x_icmp_eq, x_icmp_ne, x_icmp_lt, x_icmp_ge, x_icmp_gt, x_icmp_le, x_getfield, x_putfield, x_iaload, x_baload, x_laload, x_iastore, x_bastore, x_lastore, x_arraylength, x_virtual_0, x_virtual_1, x_virtual_2, x_virtual_3, x_virtual_4, x_virtual_5, x_static_0, x_static_1, x_static_2, x_static_3, x_static_4, x_static_5, x_static_6, x_min, x_max, x_abs, x_labs, x_tsw, oM_some, k_int, k_ref, k_long, k_null, vc_nil, vc_int, vc_ref, vc_long, tl_some, tl_none, hW5.o, rF, List.getElem?_cons_succ, List.getElem?_cons_zero, List.length_cons, List.length_nil, List.set_cons_zero, List.set_cons_succ, true_and, and_true, hs51, h2, i73, ti, hr2 i (by omega), ia_j (ia_rgn (kv n R i) (by omega)), x_return (M := m_228) rfl rfl]
    refine if_lt ⟨by omega, by omega⟩ ⟨by omega, by omega⟩ (fun q => absurd q (by omega)) (fun _ => ?_)
    refine ⟨inb_of (by omega) (by omega) (by omega), ?_⟩
    refine ⟨by decide, (r_divisor lS lK).go (by omega) (fun r w_ hr => ?_)⟩
    obtain ⟨rfl, hw_⟩ := hr
    rw [hw_]
    clear hw_ w_
    simp only [x_iload_0, x_iload_1, x_iload_2, x_iload_3, x_iload_4, x_iload_5, x_iload_6, x_iload_7, x_iload_8, x_iload_9, x_iload_10, x_iload_11, x_lload_0, x_lload_1, x_lload_2, x_lload_3, x_lload_4, x_lload_5, x_lload_6, x_lload_7, x_lload_8, x_lload_9, x_lload_10, x_lload_11, x_aload_0, x_aload_1, x_aload_2, x_aload_3, x_aload_4, x_aload_5, x_aload_6, x_aload_7, x_aload_8, x_aload_9, x_aload_10, x_aload_11, x_istore_0, x_istore_1, x_istore_2, x_istore_3, x_istore_4, x_istore_5, x_istore_6, x_istore_7, x_istore_8, x_istore_9, x_istore_10, x_istore_11, x_astore_0, x_astore_1, x_astore_2, x_astore_3, x_astore_4, x_astore_5, x_astore_6, x_astore_7, x_astore_8, x_astore_9, x_astore_10, x_astore_11, x_lstore_0, x_lstore_1, x_lstore_2, x_lstore_3, x_lstore_4, x_lstore_5, x_lstore_6, x_lstore_7, x_lstore_8, x_lstore_9, x_lstore_10, x_iinc_0, x_iinc_1, x_iinc_2, x_iinc_3, x_iinc_4, x_iinc_5, x_iinc_6, x_iinc_7, x_iinc_8, x_iinc_9, x_iinc_10, x_iinc_11, x_iconst, x_bipush, x_sipush, x_lconst, x_ldc_w, x_ldc2_w, x_iadd, x_isub, x_imul, x_iand, x_ior, x_ixor, x_ishl, x_ishr, x_iushr, x_ladd, x_lsub, x_lmul, x_ineg, x_lneg, x_lcmp, x_i2l, x_l2i, x_idiv, x_irem, x_ldiv, x_lrem, x_dup_int, x_pop_int, x_dup_ref, x_pop_ref, x_dup2, x_goto, x_nop, x_if_eq, x_if_ne, x_if_lt, x_if_ge, x_if_gt, x_if_le, x_icmp_eq, x_icmp_ne, x_icmp_lt, x_icmp_ge, x_icmp_gt, x_icmp_le, x_getfield, x_putfield, x_iaload, x_baload, x_laload, x_iastore, x_bastore, x_lastore, x_arraylength, x_virtual_0, x_virtual_1, x_virtual_2, x_virtual_3, x_virtual_4, x_virtual_5, x_static_0, x_static_1, x_static_2, x_static_3, x_static_4, x_static_5, x_static_6, x_min, x_max, x_abs, x_labs, x_tsw, oM_some, k_int, k_ref, k_long, k_null, vc_nil, vc_int, vc_ref, vc_long, tl_some, tl_none, hW5.o, rF, List.getElem?_cons_succ, List.getElem?_cons_zero, List.length_cons, List.length_nil, List.set_cons_zero, List.set_cons_succ, true_and, and_true, i73, ti, hr2 i (by omega), ia_j (ia_rgn (kv n R i) (by omega)), ja_div lS lG, ja_mul, ed]
    refine ⟨ja_n0 lG (by rw [Int.gcd_natCast_natCast]; omega), inb_of (by omega) (by omega) (by omega), ⟨by decide, rfl⟩, ?_⟩
    refine ⟨by decide, (r_has (S := Al) (k := i) (by omega) (by omega)).go (by omega) (fun r w_ hr => ?_)⟩
    obtain ⟨hr, hw_⟩ := hr
    rw [hw_]
    clear hw_ w_
    rcases hr with ⟨rfl, hb⟩ | ⟨rfl, hb⟩
    · have hb' : bitp Al (i - 1 + 1) := by rw [show i - 1 + 1 = i by omega]; exact hb
      have hO6 : ∀ f g, gO (sI (sO w5 62 11 f) 80 5 g) 62 = some (11, f) := fun f g => by rw [gO_sI_ne _ _ _ _ _ (by omega)]; exact hO5 f
      have i80o : ∀ f, gI (sO w5 62 11 f) 80 = some (5, g) := fun f => by rw [gI_sO_ne _ _ _ _ _ (by omega)]; exact i80
      have tc : tn (Int32.ofInt ((cnt Al (i - 1) : Nat) : Int)) = cnt Al (i - 1) := tn_of rfl (by omega)
      simp only [x_iload_0, x_iload_1, x_iload_2, x_iload_3, x_iload_4, x_iload_5, x_iload_6, x_iload_7, x_iload_8, x_iload_9, x_iload_10, x_iload_11, x_lload_0, x_lload_1, x_lload_2, x_lload_3, x_lload_4, x_lload_5, x_lload_6, x_lload_7, x_lload_8, x_lload_9, x_lload_10, x_lload_11, x_aload_0, x_aload_1, x_aload_2, x_aload_3, x_aload_4, x_aload_5, x_aload_6, x_aload_7, x_aload_8, x_aload_9, x_aload_10, x_aload_11, x_istore_0, x_istore_1, x_istore_2, x_istore_3, x_istore_4, x_istore_5, x_istore_6, x_istore_7, x_istore_8, x_istore_9, x_istore_10, x_istore_11, x_astore_0, x_astore_1, x_astore_2, x_astore_3, x_astore_4, x_astore_5, x_astore_6, x_astore_7, x_astore_8, x_astore_9, x_astore_10, x_astore_11, x_lstore_0, x_lstore_1, x_lstore_2, x_lstore_3, x_lstore_4, x_lstore_5, x_lstore_6, x_lstore_7, x_lstore_8, x_lstore_9, x_lstore_10, x_iinc_0, x_iinc_1, x_iinc_2, x_iinc_3, x_iinc_4, x_iinc_5, x_iinc_6, x_iinc_7, x_iinc_8, x_iinc_9, x_iinc_10, x_iinc_11, x_iconst, x_bipush, x_sipush, x_lconst, x_ldc_w, x_ldc2_w, x_iadd, x_isub, x_imul, x_iand, x_ior, x_ixor, x_ishl, x_ishr, x_iushr, x_ladd, x_lsub, x_lmul, x_ineg, x_lneg, x_lcmp, x_i2l, x_l2i, x_idiv, x_irem, x_ldiv, x_lrem, x_dup_int, x_pop_int, x_dup_ref, x_pop_ref, x_dup2, x_goto, x_nop, x_if_eq, x_if_ne, x_if_lt, x_if_ge, x_if_gt, x_if_le, x_icmp_eq, x_icmp_ne, x_icmp_lt, x_icmp_ge, x_icmp_gt, x_icmp_le, x_getfield, x_putfield, x_iaload, x_baload, x_laload, x_iastore, x_bastore, x_lastore, x_arraylength, x_virtual_0, x_virtual_1, x_virtual_2, x_virtual_3, x_virtual_4, x_virtual_5, x_static_0, x_static_1, x_static_2, x_static_3, x_static_4, x_static_5, x_static_6, x_min, x_max, x_abs, x_labs, x_tsw, oM_some, k_int, k_ref, k_long, k_null, vc_nil, vc_int, vc_ref, vc_long, tl_some, tl_none, ia_10, ia_00, not_true, not_false_iff, if_true, if_false, hO5, i80o, hO6, List.getElem?_cons_succ, List.getElem?_cons_zero, List.length_cons, List.length_nil, List.set_cons_zero, List.set_cons_succ, true_and, and_true, h3, tc, ia_add]
      refine ⟨inb_of (by omega) (by omega) (by omega), ⟨by decide, rfl⟩, ?_⟩
      refine ru_at (b := k_228_79) (cl_mono _ _ _ _) rfl ?_
      simp only [k_228_79, x_iload_0, x_iload_1, x_iload_2, x_iload_3, x_iload_4, x_iload_5, x_iload_6, x_iload_7, x_iload_8, x_iload_9, x_iload_10, x_iload_11, x_lload_0, x_lload_1, x_lload_2, x_lload_3, x_lload_4, x_lload_5, x_lload_6, x_lload_7, x_lload_8, x_lload_9, x_lload_10, x_lload_11, x_aload_0, x_aload_1, x_aload_2, x_aload_3, x_aload_4, x_aload_5, x_aload_6, x_aload_7, x_aload_8, x_aload_9, x_aload_10, x_aload_11, x_istore_0, x_istore_1, x_istore_2, x_istore_3, x_istore_4, x_istore_5, x_istore_6, x_istore_7, x_istore_8, x_istore_9, x_istore_10, x_istore_11, x_astore_0, x_astore_1, x_astore_2, x_astore_3, x_astore_4, x_astore_5, x_astore_6, x_astore_7, x_astore_8, x_astore_9, x_astore_10, x_astore_11, x_lstore_0, x_lstore_1, x_lstore_2, x_lstore_3, x_lstore_4, x_lstore_5, x_lstore_6, x_lstore_7, x_lstore_8, x_lstore_9, x_lstore_10, x_iinc_0, x_iinc_1, x_iinc_2, x_iinc_3, x_iinc_4, x_iinc_5, x_iinc_6, x_iinc_7, x_iinc_8, x_iinc_9, x_iinc_10, x_iinc_11, x_iconst, x_bipush, x_sipush, x_lconst, x_ldc_w, x_ldc2_w, x_iadd, x_isub, x_imul, x_iand, x_ior, x_ixor, x_ishl, x_ishr, x_iushr, x_ladd, x_lsub, x_lmul, x_ineg, x_lneg, x_lcmp, x_i2l, x_l2i, x_idiv, x_irem, x_ldiv, x_lrem, x_dup_int, x_pop_int, x_dup_ref, x_pop_ref, x_dup2, x_goto, x_nop, x_if_eq, x_if_ne, x_if_lt, x_if_ge, x_if_gt, x_if_le, x_icmp_eq, x_icmp_ne, x_icmp_lt, x_icmp_ge, x_icmp_gt, x_icmp_le, x_getfield, x_putfield, x_iaload, x_baload, x_laload, x_iastore, x_bastore, x_lastore, x_arraylength, x_virtual_0, x_virtual_1, x_virtual_2, x_virtual_3, x_virtual_4, x_virtual_5, x_static_0, x_static_1, x_static_2, x_static_3, x_static_4, x_static_5, x_static_6, x_min, x_max, x_abs, x_labs, x_tsw, oM_some, k_int, k_ref, k_long, k_null, vc_nil, vc_int, vc_ref, vc_long, tl_some, tl_none, ia_add, x_return (M := m_228) rfl rfl]
      have hW6 := ((hW5.setO (upd s5 3 (Int32.ofInt ((cnt Al (i - 1) : Nat) : Int))) (fun k => if k = 2 then Int64.ofInt ((lcf 1 (fun j => kv n R (j + 1)) i : Nat) : Int) else l5 k)).setI (show rI 80 = some 5 from rfl) (upd g (cnt Al (i - 1)) (Int32.ofInt (i : Int)))).setO (upd s5 3 (Int32.ofInt ((cnt Al (i - 1) : Int) + 1))) (fun k => if k = 2 then Int64.ofInt ((lcf 1 (fun j => kv n R (j + 1)) i : Nat) : Int) else l5 k)
      rw [upA_upA] at hW6
      have e1 := cnt_y hb'
      rw [show i - 1 + 1 = i by omega] at e1
      have hwe2 := WE_y hwe hb'
      rw [show i - 1 + 1 = i by omega] at hwe2
      refine ih _ (upd s5 3 (Int32.ofInt ((cnt Al (i - 1) : Int) + 1))) (fun k => if k = 2 then Int64.ofInt ((lcf 1 (fun j => kv n R (j + 1)) i : Nat) : Int) else l5 k) (upd g (cnt Al (i - 1)) (Int32.ofInt (i : Int))) (fun j => if j = cnt Al (i - 1) then i else we j) hW6 (fun k hk => by rw [upd_ne _ _ hk]; exact hs5 k hk) ?_ rfl ?_ (fun j hj => ?_)
      · rw [upd_at, show i + 1 - 1 = i by omega, e1]; rfl
      · rw [show i + 1 - 1 = i by omega]; exact hwe2
      · rw [show i + 1 - 1 = i by omega, e1] at hj
        unfold upd
        by_cases e : j = cnt Al (i - 1)
        · simp only [e, if_true]
        · simp only [e, if_false]; exact hg j (by omega)
    · have hb' : ¬ bitp Al (i - 1 + 1) := by rw [show i - 1 + 1 = i by omega]; exact hb
      simp only [x_iload_0, x_iload_1, x_iload_2, x_iload_3, x_iload_4, x_iload_5, x_iload_6, x_iload_7, x_iload_8, x_iload_9, x_iload_10, x_iload_11, x_lload_0, x_lload_1, x_lload_2, x_lload_3, x_lload_4, x_lload_5, x_lload_6, x_lload_7, x_lload_8, x_lload_9, x_lload_10, x_lload_11, x_aload_0, x_aload_1, x_aload_2, x_aload_3, x_aload_4, x_aload_5, x_aload_6, x_aload_7, x_aload_8, x_aload_9, x_aload_10, x_aload_11, x_istore_0, x_istore_1, x_istore_2, x_istore_3, x_istore_4, x_istore_5, x_istore_6, x_istore_7, x_istore_8, x_istore_9, x_istore_10, x_istore_11, x_astore_0, x_astore_1, x_astore_2, x_astore_3, x_astore_4, x_astore_5, x_astore_6, x_astore_7, x_astore_8, x_astore_9, x_astore_10, x_astore_11, x_lstore_0, x_lstore_1, x_lstore_2, x_lstore_3, x_lstore_4, x_lstore_5, x_lstore_6, x_lstore_7, x_lstore_8, x_lstore_9, x_lstore_10, x_iinc_0, x_iinc_1, x_iinc_2, x_iinc_3, x_iinc_4, x_iinc_5, x_iinc_6, x_iinc_7, x_iinc_8, x_iinc_9, x_iinc_10, x_iinc_11, x_iconst, x_bipush, x_sipush, x_lconst, x_ldc_w, x_ldc2_w, x_iadd, x_isub, x_imul, x_iand, x_ior, x_ixor, x_ishl, x_ishr, x_iushr, x_ladd, x_lsub, x_lmul, x_ineg, x_lneg, x_lcmp, x_i2l, x_l2i, x_idiv, x_irem, x_ldiv, x_lrem, x_dup_int, x_pop_int, x_dup_ref, x_pop_ref, x_dup2, x_goto, x_nop, x_if_eq, x_if_ne, x_if_lt, x_if_ge, x_if_gt, x_if_le, x_icmp_eq, x_icmp_ne, x_icmp_lt, x_icmp_ge, x_icmp_gt, x_icmp_le, x_getfield, x_putfield, x_iaload, x_baload, x_laload, x_iastore, x_bastore, x_lastore, x_arraylength, x_virtual_0, x_virtual_1, x_virtual_2, x_virtual_3, x_virtual_4, x_virtual_5, x_static_0, x_static_1, x_static_2, x_static_3, x_static_4, x_static_5, x_static_6, x_min, x_max, x_abs, x_labs, x_tsw, oM_some, k_int, k_ref, k_long, k_null, vc_nil, vc_int, vc_ref, vc_long, tl_some, tl_none, ia_10, ia_00, not_true, not_false_iff, if_true, if_false]
      refine ru_at (b := k_228_79) (cl_mono _ _ _ _) rfl ?_
      simp only [k_228_79, x_iload_0, x_iload_1, x_iload_2, x_iload_3, x_iload_4, x_iload_5, x_iload_6, x_iload_7, x_iload_8, x_iload_9, x_iload_10, x_iload_11, x_lload_0, x_lload_1, x_lload_2, x_lload_3, x_lload_4, x_lload_5, x_lload_6, x_lload_7, x_lload_8, x_lload_9, x_lload_10, x_lload_11, x_aload_0, x_aload_1, x_aload_2, x_aload_3, x_aload_4, x_aload_5, x_aload_6, x_aload_7, x_aload_8, x_aload_9, x_aload_10, x_aload_11, x_istore_0, x_istore_1, x_istore_2, x_istore_3, x_istore_4, x_istore_5, x_istore_6, x_istore_7, x_istore_8, x_istore_9, x_istore_10, x_istore_11, x_astore_0, x_astore_1, x_astore_2, x_astore_3, x_astore_4, x_astore_5, x_astore_6, x_astore_7, x_astore_8, x_astore_9, x_astore_10, x_astore_11, x_lstore_0, x_lstore_1, x_lstore_2, x_lstore_3, x_lstore_4, x_lstore_5, x_lstore_6, x_lstore_7, x_lstore_8, x_lstore_9, x_lstore_10, x_iinc_0, x_iinc_1, x_iinc_2, x_iinc_3, x_iinc_4, x_iinc_5, x_iinc_6, x_iinc_7, x_iinc_8, x_iinc_9, x_iinc_10, x_iinc_11, x_iconst, x_bipush, x_sipush, x_lconst, x_ldc_w, x_ldc2_w, x_iadd, x_isub, x_imul, x_iand, x_ior, x_ixor, x_ishl, x_ishr, x_iushr, x_ladd, x_lsub, x_lmul, x_ineg, x_lneg, x_lcmp, x_i2l, x_l2i, x_idiv, x_irem, x_ldiv, x_lrem, x_dup_int, x_pop_int, x_dup_ref, x_pop_ref, x_dup2, x_goto, x_nop, x_if_eq, x_if_ne, x_if_lt, x_if_ge, x_if_gt, x_if_le, x_icmp_eq, x_icmp_ne, x_icmp_lt, x_icmp_ge, x_icmp_gt, x_icmp_le, x_getfield, x_putfield, x_iaload, x_baload, x_laload, x_iastore, x_bastore, x_lastore, x_arraylength, x_virtual_0, x_virtual_1, x_virtual_2, x_virtual_3, x_virtual_4, x_virtual_5, x_static_0, x_static_1, x_static_2, x_static_3, x_static_4, x_static_5, x_static_6, x_min, x_max, x_abs, x_labs, x_tsw, oM_some, k_int, k_ref, k_long, k_null, vc_nil, vc_int, vc_ref, vc_long, tl_some, tl_none, ia_add, x_return (M := m_228) rfl rfl]
      have hW6 := hW5.setO s5 (fun k => if k = 2 then Int64.ofInt ((lcf 1 (fun j => kv n R (j + 1)) i : Nat) : Int) else l5 k)
      have e1 := cnt_n hb'
      rw [show i - 1 + 1 = i by omega] at e1
      have hwe2 := WE_n hwe hb'
      rw [show i - 1 + 1 = i by omega] at hwe2
      refine ih _ _ _ g we hW6 hs5 ?_ rfl ?_ (fun j hj => ?_)
      · rw [show i + 1 - 1 = i by omega, e1]; exact h3
      · rw [show i + 1 - 1 = i by omega]; exact hwe2
      · rw [show i + 1 - 1 = i by omega, e1] at hj; exact hg j hj
  · intro w5 s5 l5 g we hW5 hs5 h3 h2 hwe hg
    rw [show L + 1 - 1 = L by omega] at h3 h2 hwe hg
    have hs51 : s5 1 = Int32.ofInt (L : Int) := by rw [hs5 1 (by omega), hr1]
    refine ru_at (b := k_228_12) (cl_mono _ _ _ _) rfl ?_
    simp only [k_228_12, x_iload_0, x_iload_1, x_iload_2, x_iload_3, x_iload_4, x_iload_5, x_iload_6, x_iload_7, x_iload_8, x_iload_9, x_iload_10, x_iload_11, x_lload_0, x_lload_1, x_lload_2, x_lload_3, x_lload_4, x_lload_5, x_lload_6, x_lload_7, x_lload_8, x_lload_9, x_lload_10, x_lload_11, x_aload_0, x_aload_1, x_aload_2, x_aload_3, x_aload_4, x_aload_5, x_aload_6, x_aload_7, x_aload_8, x_aload_9, x_aload_10, x_aload_11, x_istore_0, x_istore_1, x_istore_2, x_istore_3, x_istore_4, x_istore_5, x_istore_6, x_istore_7, x_istore_8, x_istore_9, x_istore_10, x_istore_11, x_astore_0, x_astore_1, x_astore_2, x_astore_3, x_astore_4, x_astore_5, x_astore_6, x_astore_7, x_astore_8, x_astore_9, x_astore_10, x_astore_11, x_lstore_0, x_lstore_1, x_lstore_2, x_lstore_3, x_lstore_4, x_lstore_5, x_lstore_6, x_lstore_7, x_lstore_8, x_lstore_9, x_lstore_10, x_iinc_0, x_iinc_1, x_iinc_2, x_iinc_3, x_iinc_4, x_iinc_5, x_iinc_6, x_iinc_7, x_iinc_8, x_iinc_9, x_iinc_10, x_iinc_11, x_iconst, x_bipush, x_sipush, x_lconst, x_ldc_w, x_ldc2_w, x_iadd, x_isub, x_imul, x_iand, x_ior, x_ixor, x_ishl, x_ishr, x_iushr, x_ladd, x_lsub, x_lmul, x_ineg, x_lneg, x_lcmp, x_i2l, x_l2i, x_idiv, x_irem, x_ldiv, x_lrem, x_dup_int, x_pop_int, x_dup_ref, x_pop_ref, x_dup2, x_goto, x_nop, x_if_eq, x_if_ne, x_if_lt, x_if_ge, x_if_gt, x_if_le, x_icmp_eq, x_icmp_ne, x_icmp_lt, x_icmp_ge, x_icmp_gt, x_icmp_le, x_getfield, x_putfield, x_iaload, x_baload, x_laload, x_iastore, x_bastore, x_lastore, x_arraylength, x_virtual_0, x_virtual_1, x_virtual_2, x_virtual_3, x_virtual_4, x_virtual_5, x_static_0, x_static_1, x_static_2, x_static_3, x_static_4, x_static_5, x_static_6, x_min, x_max, x_abs, x_labs, x_tsw, oM_some, k_int, k_ref, k_long, k_null, vc_nil, vc_int, vc_ref, vc_long, tl_some, tl_none, hW5.o, rF, List.getElem?_cons_succ, List.getElem?_cons_zero, List.length_cons, List.length_nil, List.set_cons_zero, List.set_cons_succ, true_and, and_true, hs51, x_return (M := m_228) rfl rfl]
    refine if_lt ⟨by omega, by omega⟩ ⟨by omega, by omega⟩ (fun _ => ?_) (fun q => absurd q (by omega))
    refine ru_at (b := k_228_85) (cl_mono _ _ _ _) rfl ?_
    simp only [k_228_85, x_iload_0, x_iload_1, x_iload_2, x_iload_3, x_iload_4, x_iload_5, x_iload_6, x_iload_7, x_iload_8, x_iload_9, x_iload_10, x_iload_11, x_lload_0, x_lload_1, x_lload_2, x_lload_3, x_lload_4, x_lload_5, x_lload_6, x_lload_7, x_lload_8, x_lload_9, x_lload_10, x_lload_11, x_aload_0, x_aload_1, x_aload_2, x_aload_3, x_aload_4, x_aload_5, x_aload_6, x_aload_7, x_aload_8, x_aload_9, x_aload_10, x_aload_11, x_istore_0, x_istore_1, x_istore_2, x_istore_3, x_istore_4, x_istore_5, x_istore_6, x_istore_7, x_istore_8, x_istore_9, x_istore_10, x_istore_11, x_astore_0, x_astore_1, x_astore_2, x_astore_3, x_astore_4, x_astore_5, x_astore_6, x_astore_7, x_astore_8, x_astore_9, x_astore_10, x_astore_11, x_lstore_0, x_lstore_1, x_lstore_2, x_lstore_3, x_lstore_4, x_lstore_5, x_lstore_6, x_lstore_7, x_lstore_8, x_lstore_9, x_lstore_10, x_iinc_0, x_iinc_1, x_iinc_2, x_iinc_3, x_iinc_4, x_iinc_5, x_iinc_6, x_iinc_7, x_iinc_8, x_iinc_9, x_iinc_10, x_iinc_11, x_iconst, x_bipush, x_sipush, x_lconst, x_ldc_w, x_ldc2_w, x_iadd, x_isub, x_imul, x_iand, x_ior, x_ixor, x_ishl, x_ishr, x_iushr, x_ladd, x_lsub, x_lmul, x_ineg, x_lneg, x_lcmp, x_i2l, x_l2i, x_idiv, x_irem, x_ldiv, x_lrem, x_dup_int, x_pop_int, x_dup_ref, x_pop_ref, x_dup2, x_goto, x_nop, x_if_eq, x_if_ne, x_if_lt, x_if_ge, x_if_gt, x_if_le, x_icmp_eq, x_icmp_ne, x_icmp_lt, x_icmp_ge, x_icmp_gt, x_icmp_le, x_getfield, x_putfield, x_iaload, x_baload, x_laload, x_iastore, x_bastore, x_lastore, x_arraylength, x_virtual_0, x_virtual_1, x_virtual_2, x_virtual_3, x_virtual_4, x_virtual_5, x_static_0, x_static_1, x_static_2, x_static_3, x_static_4, x_static_5, x_static_6, x_min, x_max, x_abs, x_labs, x_tsw, oM_some, k_int, k_ref, k_long, k_null, vc_nil, vc_int, vc_ref, vc_long, tl_some, tl_none, x_return (M := m_228) rfl rfl]
    obtain ⟨lb1, lb2⟩ := lb L (by omega)
    have lS : lr ((lcf 1 (fun j => kv n R (j + 1)) L : Nat) : Int) := ⟨by omega, by omega⟩
    refine up_to (R := fun k => ∀ w6 g2 l3, RX v w6 s5 l5 (upA A 80 g) (upA B 81 g2) → (∀ r i : Nat, r < L + 1 → i < L + 1 → 6 * r + i < k → g2 (6 * r + i) = Int64.ofInt (vv r i * ((lcf 1 (fun j => kv n R (j + 1)) L / kv n R i : Nat) : Int))) → Ru pD pY E (cL d) m_228 Q 87 [.ref 62, .int (Int32.ofInt Al), .int (Int32.ofInt (k : Int)), l3] [] w6) (lo := 0) (hi := 36) (by omega) (fun k _ hk ih => ?_) ?_ w5 (B 81) .null (by rw [upA_self]; exact hW5) (fun r i hr hi hj => by omega)
    · intro w6 g2 l3 hW6 hg2
      have i73 := hW6.i (show rI 73 = some 6 from rfl)
      rw [upA_ne _ _ (by omega)] at i73
      have i75 := hW6.i (show rI 75 = some 36 from rfl)
      rw [upA_ne _ _ (by omega)] at i75
      have l81 := hW6.l (show rL 81 = some 36 from rfl)
      rw [upA_at] at l81
      have tk : tn (Int32.ofInt (k : Int)) = k := tn_of rfl (by omega)
      have tm : tn (Int32.ofInt ((k % 6 : Nat) : Int)) = k % 6 := tn_of rfl (by omega)
      have hm6 := Nat.mod_lt k (show 0 < 6 by omega)
      have dm : 6 * (k / 6) + k % 6 = k := Nat.div_add_mod k 6
      have e6 : Int32.ofInt (k : Int) % Int32.ofInt 6 = Int32.ofInt ((k % 6 : Nat) : Int) := ia_mod (a := k) (b := 6) (by omega) (by omega)
      have e7 : Int32.ofInt (k : Int) / Int32.ofInt 6 = Int32.ofInt ((k / 6 : Nat) : Int) := ia_div (a := k) (b := 6) (by omega) (by omega)
      have n6 : ¬ Int32.ofInt 6 = 0 := by decide
      -- the number is put there
      have fin : ∀ z : Int, (∀ r i : Nat, r < L + 1 → i < L + 1 → 6 * r + i = k → z = vv r i * ((lcf 1 (fun j => kv n R (j + 1)) L / kv n R i : Nat) : Int)) → Ru pD pY E (cL d) m_228 Q 146 [.ref 62, .int (Int32.ofInt Al), .int (Int32.ofInt (k : Int)), .int (Int32.ofInt ((k % 6 : Nat) : Int))] [.long (Int64.ofInt z), .int (Int32.ofInt (k : Int)), .ref 81] w6 := by
        intro z hz
        refine ru_at (b := k_228_146) (cl_mono _ _ _ _) rfl ?_
        simp only [k_228_146, x_iload_0, x_iload_1, x_iload_2, x_iload_3, x_iload_4, x_iload_5, x_iload_6, x_iload_7, x_iload_8, x_iload_9, x_iload_10, x_iload_11, x_lload_0, x_lload_1, x_lload_2, x_lload_3, x_lload_4, x_lload_5, x_lload_6, x_lload_7, x_lload_8, x_lload_9, x_lload_10, x_lload_11, x_aload_0, x_aload_1, x_aload_2, x_aload_3, x_aload_4, x_aload_5, x_aload_6, x_aload_7, x_aload_8, x_aload_9, x_aload_10, x_aload_11, x_istore_0, x_istore_1, x_istore_2, x_istore_3, x_istore_4, x_istore_5, x_istore_6, x_istore_7, x_istore_8, x_istore_9, x_istore_10, x_istore_11, x_astore_0, x_astore_1, x_astore_2, x_astore_3, x_astore_4, x_astore_5, x_astore_6, x_astore_7, x_astore_8, x_astore_9, x_astore_10, x_astore_11, x_lstore_0, x_lstore_1, x_lstore_2, x_lstore_3, x_lstore_4, x_lstore_5, x_lstore_6, x_lstore_7, x_lstore_8, x_lstore_9, x_lstore_10, x_iinc_0, x_iinc_1, x_iinc_2, x_iinc_3, x_iinc_4, x_iinc_5, x_iinc_6, x_iinc_7, x_iinc_8, x_iinc_9, x_iinc_10, x_iinc_11, x_iconst, x_bipush, x_sipush, x_lconst, x_ldc_w, x_ldc2_w, x_iadd, x_isub, x_imul, x_iand, x_ior, x_ixor, x_ishl, x_ishr, x_iushr, x_ladd, x_lsub, x_lmul, x_ineg, x_lneg, x_lcmp, x_i2l, x_l2i, x_idiv, x_irem, x_ldiv, x_lrem, x_dup_int, x_pop_int, x_dup_ref, x_pop_ref, x_dup2, x_goto, x_nop, x_if_eq, x_if_ne, x_if_lt, x_if_ge, x_if_gt, x_if_le, x_icmp_eq, x_icmp_ne, x_icmp_lt, x_icmp_ge, x_icmp_gt, x_icmp_le, x_getfield, x_putfield, x_iaload, x_baload, x_laload, x_iastore, x_bastore, x_lastore, x_arraylength, x_virtual_0, x_virtual_1, x_virtual_2, x_virtual_3, x_virtual_4, x_virtual_5, x_static_0, x_static_1, x_static_2, x_static_3, x_static_4, x_static_5, x_static_6, x_min, x_max, x_abs, x_labs, x_tsw, oM_some, k_int, k_ref, k_long, k_null, vc_nil, vc_int, vc_ref, vc_long, tl_some, tl_none, l81, tk, ia_add, x_return (M := m_228) rfl rfl]
        refine ⟨inb_of (by omega) (by omega) (by omega), ?_⟩
        have hW7 := hW6.setL (show rL 81 = some 36 from rfl) (vp_updL g2 k (Int64.ofInt z))
        rw [upA_upA] at hW7
        refine ih _ _ _ hW7 (fun r i hr hi hj => ?_)
        by_cases e : 6 * r + i = k
        · rw [e, vpL_at, hz r i hr hi e]
        · rw [vpL_ne _ e]; exact hg2 r i hr hi (by omega)
      have zero : ¬ (k / 6 ≤ L ∧ k % 6 ≤ L) → Ru pD pY E (cL d) m_228 Q 145 [.ref 62, .int (Int32.ofInt Al), .int (Int32.ofInt (k : Int)), .int (Int32.ofInt ((k % 6 : Nat) : Int))] [.int (Int32.ofInt (k : Int)), .ref 81] w6 := by
        intro q
        refine ru_at (b := k_228_145) (cl_mono _ _ _ _) rfl ?_
        simp only [k_228_145, x_iload_0, x_iload_1, x_iload_2, x_iload_3, x_iload_4, x_iload_5, x_iload_6, x_iload_7, x_iload_8, x_iload_9, x_iload_10, x_iload_11, x_lload_0, x_lload_1, x_lload_2, x_lload_3, x_lload_4, x_lload_5, x_lload_6, x_lload_7, x_lload_8, x_lload_9, x_lload_10, x_lload_11, x_aload_0, x_aload_1, x_aload_2, x_aload_3, x_aload_4, x_aload_5, x_aload_6, x_aload_7, x_aload_8, x_aload_9, x_aload_10, x_aload_11, x_istore_0, x_istore_1, x_istore_2, x_istore_3, x_istore_4, x_istore_5, x_istore_6, x_istore_7, x_istore_8, x_istore_9, x_istore_10, x_istore_11, x_astore_0, x_astore_1, x_astore_2, x_astore_3, x_astore_4, x_astore_5, x_astore_6, x_astore_7, x_astore_8, x_astore_9, x_astore_10, x_astore_11, x_lstore_0, x_lstore_1, x_lstore_2, x_lstore_3, x_lstore_4, x_lstore_5, x_lstore_6, x_lstore_7, x_lstore_8, x_lstore_9, x_lstore_10, x_iinc_0, x_iinc_1, x_iinc_2, x_iinc_3, x_iinc_4, x_iinc_5, x_iinc_6, x_iinc_7, x_iinc_8, x_iinc_9, x_iinc_10, x_iinc_11, x_iconst, x_bipush, x_sipush, x_lconst, x_ldc_w, x_ldc2_w, x_iadd, x_isub, x_imul, x_iand, x_ior, x_ixor, x_ishl, x_ishr, x_iushr, x_ladd, x_lsub, x_lmul, x_ineg, x_lneg, x_lcmp, x_i2l, x_l2i, x_idiv, x_irem, x_ldiv, x_lrem, x_dup_int, x_pop_int, x_dup_ref, x_pop_ref, x_dup2, x_goto, x_nop, x_if_eq, x_if_ne, x_if_lt, x_if_ge, x_if_gt, x_if_le, x_icmp_eq, x_icmp_ne, x_icmp_lt, x_icmp_ge, x_icmp_gt, x_icmp_le, x_getfield, x_putfield, x_iaload, x_baload, x_laload, x_iastore, x_bastore, x_lastore, x_arraylength, x_virtual_0, x_virtual_1, x_virtual_2, x_virtual_3, x_virtual_4, x_virtual_5, x_static_0, x_static_1, x_static_2, x_static_3, x_static_4, x_static_5, x_static_6, x_min, x_max, x_abs, x_labs, x_tsw, oM_some, k_int, k_ref, k_long, k_null, vc_nil, vc_int, vc_ref, vc_long, tl_some, tl_none, jk_0, x_return (M := m_228) rfl rfl]
        exact fin 0 (fun r i hr hi e => absurd ⟨by omega, by omega⟩ q)
      refine ru_at (b := k_228_87) (cl_mono _ _ _ _) rfl ?_
      simp only [k_228_87, x_iload_0, x_iload_1, x_iload_2, x_iload_3, x_iload_4, x_iload_5, x_iload_6, x_iload_7, x_iload_8, x_iload_9, x_iload_10, x_iload_11, x_lload_0, x_lload_1, x_lload_2, x_lload_3, x_lload_4, x_lload_5, x_lload_6, x_lload_7, x_lload_8, x_lload_9, x_lload_10, x_lload_11, x_aload_0, x_aload_1, x_aload_2, x_aload_3, x_aload_4, x_aload_5, x_aload_6, x_aload_7, x_aload_8, x_aload_9, x_aload_10, x_aload_11, x_istore_0, x_istore_1, x_istore_2, x_istore_3, x_istore_4, x_istore_5, x_istore_6, x_istore_7, x_istore_8, x_istore_9, x_istore_10, x_istore_11, x_astore_0, x_astore_1, x_astore_2, x_astore_3, x_astore_4, x_astore_5, x_astore_6, x_astore_7, x_astore_8, x_astore_9, x_astore_10, x_astore_11, x_lstore_0, x_lstore_1, x_lstore_2, x_lstore_3, x_lstore_4, x_lstore_5, x_lstore_6, x_lstore_7, x_lstore_8, x_lstore_9, x_lstore_10, x_iinc_0, x_iinc_1, x_iinc_2, x_iinc_3, x_iinc_4, x_iinc_5, x_iinc_6, x_iinc_7, x_iinc_8, x_iinc_9, x_iinc_10, x_iinc_11, x_iconst, x_bipush, x_sipush, x_lconst, x_ldc_w, x_ldc2_w, x_iadd, x_isub, x_imul, x_iand, x_ior, x_ixor, x_ishl, x_ishr, x_iushr, x_ladd, x_lsub, x_lmul, x_ineg, x_lneg, x_lcmp, x_i2l, x_l2i, x_idiv, x_irem, x_ldiv, x_lrem, x_dup_int, x_pop_int, x_dup_ref, x_pop_ref, x_dup2, x_goto, x_nop, x_if_eq, x_if_ne, x_if_lt, x_if_ge, x_if_gt, x_if_le, x_icmp_eq, x_icmp_ne, x_icmp_lt, x_icmp_ge, x_icmp_gt, x_icmp_le, x_getfield, x_putfield, x_iaload, x_baload, x_laload, x_iastore, x_bastore, x_lastore, x_arraylength, x_virtual_0, x_virtual_1, x_virtual_2, x_virtual_3, x_virtual_4, x_virtual_5, x_static_0, x_static_1, x_static_2, x_static_3, x_static_4, x_static_5, x_static_6, x_min, x_max, x_abs, x_labs, x_tsw, oM_some, k_int, k_ref, k_long, k_null, vc_nil, vc_int, vc_ref, vc_long, tl_some, tl_none, hW6.o, rF, List.getElem?_cons_succ, List.getElem?_cons_zero, List.length_cons, List.length_nil, List.set_cons_zero, List.set_cons_succ, true_and, and_true, hs51, e6, e7, n6, i75, i73, tk, tm, h2, ne_eq, not_false_iff, x_return (M := m_228) rfl rfl]
      refine if_le ⟨by omega, by omega⟩ ⟨by omega, by omega⟩ (fun hcc => absurd hcc (by omega)) (fun hcc => ?_)
      refine if_lt ⟨by omega, by omega⟩ ⟨by omega, by omega⟩ (fun q => zero (fun p => by omega)) (fun q1 => ?_)
      refine if_lt ⟨by omega, by omega⟩ ⟨by omega, by omega⟩ (fun q => zero (fun p => by omega)) (fun q2 => ?_)
      have hv := hval (k / 6) (k % 6) (by omega) (by omega)
      rw [dm] at hv
      have hkm := kp (k % 6) (by omega)
      have hkb := kb (k % 6)
      have lK : lr (kv n R (k % 6) : Int) := ⟨by omega, by omega⟩
      refine ⟨inb_of (by omega) (by omega) (by omega), inb_of (by omega) (by omega) (by omega), ?_⟩
      rw [hr2 (k % 6) (by omega), hv.1, ia_j (ia_rgn (kv n R (k % 6)) (by omega)), ia_j (a := vv (k / 6) (k % 6)) ⟨by omega, by omega⟩]
      refine ⟨ja_n0 lK (by omega), ?_⟩
      rw [ja_div lS lK, ja_mul, ← Int.ofNat_tdiv]
      refine fin _ (fun r i hr hi e => ?_)
      have e1 : k / 6 = r := by omega
      have e2 : k % 6 = i := by omega
      rw [e1, e2]
    · intro w6 g2 l3 hW6 hg2
      refine ru_at (b := k_228_87) (cl_mono _ _ _ _) rfl ?_
      simp only [k_228_87, x_iload_0, x_iload_1, x_iload_2, x_iload_3, x_iload_4, x_iload_5, x_iload_6, x_iload_7, x_iload_8, x_iload_9, x_iload_10, x_iload_11, x_lload_0, x_lload_1, x_lload_2, x_lload_3, x_lload_4, x_lload_5, x_lload_6, x_lload_7, x_lload_8, x_lload_9, x_lload_10, x_lload_11, x_aload_0, x_aload_1, x_aload_2, x_aload_3, x_aload_4, x_aload_5, x_aload_6, x_aload_7, x_aload_8, x_aload_9, x_aload_10, x_aload_11, x_istore_0, x_istore_1, x_istore_2, x_istore_3, x_istore_4, x_istore_5, x_istore_6, x_istore_7, x_istore_8, x_istore_9, x_istore_10, x_istore_11, x_astore_0, x_astore_1, x_astore_2, x_astore_3, x_astore_4, x_astore_5, x_astore_6, x_astore_7, x_astore_8, x_astore_9, x_astore_10, x_astore_11, x_lstore_0, x_lstore_1, x_lstore_2, x_lstore_3, x_lstore_4, x_lstore_5, x_lstore_6, x_lstore_7, x_lstore_8, x_lstore_9, x_lstore_10, x_iinc_0, x_iinc_1, x_iinc_2, x_iinc_3, x_iinc_4, x_iinc_5, x_iinc_6, x_iinc_7, x_iinc_8, x_iinc_9, x_iinc_10, x_iinc_11, x_iconst, x_bipush, x_sipush, x_lconst, x_ldc_w, x_ldc2_w, x_iadd, x_isub, x_imul, x_iand, x_ior, x_ixor, x_ishl, x_ishr, x_iushr, x_ladd, x_lsub, x_lmul, x_ineg, x_lneg, x_lcmp, x_i2l, x_l2i, x_idiv, x_irem, x_ldiv, x_lrem, x_dup_int, x_pop_int, x_dup_ref, x_pop_ref, x_dup2, x_goto, x_nop, x_if_eq, x_if_ne, x_if_lt, x_if_ge, x_if_gt, x_if_le, x_icmp_eq, x_icmp_ne, x_icmp_lt, x_icmp_ge, x_icmp_gt, x_icmp_le, x_getfield, x_putfield, x_iaload, x_baload, x_laload, x_iastore, x_bastore, x_lastore, x_arraylength, x_virtual_0, x_virtual_1, x_virtual_2, x_virtual_3, x_virtual_4, x_virtual_5, x_static_0, x_static_1, x_static_2, x_static_3, x_static_4, x_static_5, x_static_6, x_min, x_max, x_abs, x_labs, x_tsw, oM_some, k_int, k_ref, k_long, k_null, vc_nil, vc_int, vc_ref, vc_long, tl_some, tl_none, x_return (M := m_228) rfl rfl]
      refine if_le ⟨by omega, by omega⟩ ⟨by omega, by omega⟩ (fun hcc => ?_) (fun hcc => absurd hcc (by omega))
      refine ru_at (b := k_228_153) (cl_mono _ _ _ _) rfl ?_
      simp only [k_228_153, x_iload_0, x_iload_1, x_iload_2, x_iload_3, x_iload_4, x_iload_5, x_iload_6, x_iload_7, x_iload_8, x_iload_9, x_iload_10, x_iload_11, x_lload_0, x_lload_1, x_lload_2, x_lload_3, x_lload_4, x_lload_5, x_lload_6, x_lload_7, x_lload_8, x_lload_9, x_lload_10, x_lload_11, x_aload_0, x_aload_1, x_aload_2, x_aload_3, x_aload_4, x_aload_5, x_aload_6, x_aload_7, x_aload_8, x_aload_9, x_aload_10, x_aload_11, x_istore_0, x_istore_1, x_istore_2, x_istore_3, x_istore_4, x_istore_5, x_istore_6, x_istore_7, x_istore_8, x_istore_9, x_istore_10, x_istore_11, x_astore_0, x_astore_1, x_astore_2, x_astore_3, x_astore_4, x_astore_5, x_astore_6, x_astore_7, x_astore_8, x_astore_9, x_astore_10, x_astore_11, x_lstore_0, x_lstore_1, x_lstore_2, x_lstore_3, x_lstore_4, x_lstore_5, x_lstore_6, x_lstore_7, x_lstore_8, x_lstore_9, x_lstore_10, x_iinc_0, x_iinc_1, x_iinc_2, x_iinc_3, x_iinc_4, x_iinc_5, x_iinc_6, x_iinc_7, x_iinc_8, x_iinc_9, x_iinc_10, x_iinc_11, x_iconst, x_bipush, x_sipush, x_lconst, x_ldc_w, x_ldc2_w, x_iadd, x_isub, x_imul, x_iand, x_ior, x_ixor, x_ishl, x_ishr, x_iushr, x_ladd, x_lsub, x_lmul, x_ineg, x_lneg, x_lcmp, x_i2l, x_l2i, x_idiv, x_irem, x_ldiv, x_lrem, x_dup_int, x_pop_int, x_dup_ref, x_pop_ref, x_dup2, x_goto, x_nop, x_if_eq, x_if_ne, x_if_lt, x_if_ge, x_if_gt, x_if_le, x_icmp_eq, x_icmp_ne, x_icmp_lt, x_icmp_ge, x_icmp_gt, x_icmp_le, x_getfield, x_putfield, x_iaload, x_baload, x_laload, x_iastore, x_bastore, x_lastore, x_arraylength, x_virtual_0, x_virtual_1, x_virtual_2, x_virtual_3, x_virtual_4, x_virtual_5, x_static_0, x_static_1, x_static_2, x_static_3, x_static_4, x_static_5, x_static_6, x_min, x_max, x_abs, x_labs, x_tsw, oM_some, k_int, k_ref, k_long, k_null, vc_nil, vc_int, vc_ref, vc_long, tl_some, tl_none, x_return (M := m_228) rfl rfl]
      refine hQ _ _ ⟨rfl, s5, l5, _, _, we, hW6, (eqA.rf _ _ _).up (by omega) (by omega) _, hs5, hwe, hs51, h3, h2, fun j hj => by rw [upA_at]; exact hg j hj, fun r i hr hi => ?_⟩
      rw [upA_at]
      exact hg2 r i hr hi (by omega)
