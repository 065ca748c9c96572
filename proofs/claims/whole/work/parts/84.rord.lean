/-! ===== PairSortsModel: readsOrder ===== -/
def pLn (st : pSt) (n : Nat) : Prop := 3 * st.1 ≤ n ∧ (st.2.1 ≠ 0 → 3 * st.1 + 1 + st.2.2.2.1 ≤ n ∧ 1 ≤ st.2.2.1)
theorem pTk_ln {st st' : pSt} {c n : Nat} (h : pLn st n) (hs : pTk st c = some st') : pLn st' (n + 1) := by
  obtain ⟨cm, op, wn, gt, dg, le, nu⟩ := st
  rw [pTk_eq] at hs
  unfold pLn at h
  simp only at h
  split at hs
  · cases hs; unfold pLn; simp only; omega
  · split at hs
    · split at hs
      · cases hs
      · cases hs; unfold pLn; simp only; omega
    · split at hs
      · split at hs
        · cases hs
        · split at hs
          · cases hs; unfold pLn; simp only; omega
          · cases hs; unfold pLn; simp only; omega
      · split at hs
        · cases hs
        · cases hs; unfold pLn; simp only; omega
theorem pFd_ln {st' : pSt} : ∀ (a : List Nat) {st : pSt} {n : Nat}, pLn st n → pFd st a = some st' → pLn st' (n + a.length) := by
  intro a
  induction a with
  | nil => intro st n h hs; cases hs; exact h
  | cons c r ih =>
    intro st n h hs
    unfold pFd at hs
    cases hc : pTk st c with
    | none => rw [hc] at hs; cases hs
    | some s1 =>
      rw [hc] at hs
      have := ih (pTk_ln h hc) hs
      rw [List.length_cons, show n + (r.length + 1) = n + 1 + r.length by omega]
      exact this
theorem pAt.cm {T pre suf : List Nat} {st : pSt} (h : pAt T pre suf st) (hT : T.length ≤ 100) : st.1 < 34 := by
  have h1 := pFd_ln pre (st := p00) (n := 0) ⟨by decide, fun q => absurd rfl q⟩ h.2
  have h2 : pre.length ≤ T.length := by rw [h.1]; simp
  have := h1.1
  omega
theorem pFd_ok {st' : pSt} : ∀ (a : List Nat) {st : pSt}, pOK st → pFd st a = some st' → pOK st' := by
  intro a
  induction a with
  | nil => intro st h hs; cases hs; exact h
  | cons c r ih =>
    intro st h hs
    unfold pFd at hs
    cases hc : pTk st c with
    | none => rw [hc] at hs; cases hs
    | some s1 => rw [hc] at hs; exact ih (pTk_ok h hc) hs
theorem p00_ok : pOK p00 := ⟨by decide, Or.inl rfl, fun _ => Nat.zero_le _⟩
/-- the commands that are read keep their letters and numbers -/
def pKp (s s' : pSt) : Prop := s.1 ≤ s'.1 ∧ ∀ j, j < s.1 → s'.2.2.2.2.2.1 j = s.2.2.2.2.2.1 j ∧ ∀ i, i < 3 → s'.2.2.2.2.2.2 (3 * j + i) = s.2.2.2.2.2.2 (3 * j + i)
theorem pTk_kp {st st' : pSt} {c : Nat} (h : pOK st) (hs : pTk st c = some st') : pKp st st' := by
  obtain ⟨cm, op, wn, gt, dg, le, nu⟩ := st
  rw [pTk_eq] at hs
  unfold pOK at h
  simp only at h
  unfold pKp
  split at hs
  · cases hs; exact ⟨Nat.le_refl _, fun j _ => ⟨rfl, fun i _ => rfl⟩⟩
  · split at hs
    · split at hs
      · cases hs
      · cases hs
        refine ⟨Nat.le_refl _, fun j hj => ⟨?_, fun i hi => ?_⟩⟩
        · show updN le cm c j = le j
          unfold updN; rw [if_neg (by simp only at hj; omega)]
        · show (if 3 * cm ≤ 3 * j + i ∧ 3 * j + i < 3 * cm + 3 then 0 else nu (3 * j + i)) = nu (3 * j + i)
          rw [if_neg (by simp only at hj; omega)]
    · split at hs
      · split at hs
        · cases hs
        · split at hs
          · cases hs
            refine ⟨Nat.le_refl _, fun j hj => ⟨rfl, fun i hi => ?_⟩⟩
            show updN nu _ _ (3 * j + i) = nu (3 * j + i)
            unfold updN; rw [if_neg (by simp only at hj; omega)]
          · cases hs
            refine ⟨Nat.le_refl _, fun j hj => ⟨rfl, fun i hi => ?_⟩⟩
            show updN nu _ _ (3 * j + i) = nu (3 * j + i)
            unfold updN; rw [if_neg (by simp only at hj; omega)]
      · split at hs
        · cases hs
        · cases hs
          exact ⟨by simp only; omega, fun j _ => ⟨rfl, fun i _ => rfl⟩⟩
theorem pFd_kp {st' : pSt} : ∀ (a : List Nat) {st : pSt}, pOK st → pFd st a = some st' → pKp st st' := by
  intro a
  induction a with
  | nil => intro st h hs; cases hs; exact ⟨Nat.le_refl _, fun j _ => ⟨rfl, fun i _ => rfl⟩⟩
  | cons c r ih =>
    intro st h hs
    unfold pFd at hs
    cases hc : pTk st c with
    | none => rw [hc] at hs; cases hs
    | some s1 =>
      rw [hc] at hs
      have k1 := pTk_kp h hc
      have k2 := ih (pTk_ok h hc) hs
      refine ⟨Nat.le_trans k1.1 k2.1, fun j hj => ?_⟩
      have q1 := k1.2 j hj
      have q2 := k2.2 j (by have := k1.1; omega)
      exact ⟨q2.1.trans q1.1, fun i hi => (q2.2 i hi).trans (q1.2 i hi)⟩
/-- where reading ends -/
theorem pRes_flt {T pre suf : List Nat} {st : pSt} (h : pAt T pre suf st) (hf : (suf = [] ∧ (st.2.1 = 1 ∨ st.1 = 0)) ∨ ∃ c t, suf = c :: t ∧ pTk st c = none) : (pRes T).1 = ((pre.length : Nat) : Int) := by
  have hg : pGo p00 0 T = pGo st pre.length suf := by rw [h.1, pGo_app h.2, Nat.zero_add]
  unfold pRes
  rw [hg]
  rcases hf with ⟨rfl, hq⟩ | ⟨c, t, rfl, hc⟩
  · have e : pGo st pre.length [] = .inr st := by unfold pGo; rfl
    rw [e]
    simp only
    rw [if_pos (by omega), h.1, List.append_nil]
  · have e : pGo st pre.length (c :: t) = .inl pre.length := by unfold pGo; rw [hc]
    rw [e]
theorem pRes_end {T pre : List Nat} {st : pSt} (h : pAt T pre [] st) (h0 : st.2.1 = 0) (h1 : 1 ≤ st.1) : pRes T = (-1, st) := by
  have hg : pGo p00 0 T = pGo st pre.length [] := by rw [h.1, pGo_app h.2, Nat.zero_add]
  have e : pGo st pre.length [] = .inr st := by unfold pGo; rfl
  unfold pRes
  rw [hg, e]
  simp only
  rw [if_neg (by omega)]
theorem pGo_fd : ∀ (a : List Nat) {s s1 : pSt} {p : Nat}, pGo s p a = .inr s1 → pFd s a = some s1 := by
  intro a
  induction a with
  | nil => intro s s1 p h; unfold pGo at h; cases h; rfl
  | cons c r ih =>
    intro s s1 p h
    unfold pGo at h
    unfold pFd
    cases hc : pTk s c with
    | none => rw [hc] at h; cases h
    | some s' => rw [hc] at h; exact ih h
/-- a text without fault is read to its end -/
theorem pRes_fd {T : List Nat} (h : (pRes T).1 = -1) : pFd p00 T = some (pRes T).2 := by
  unfold pRes at h ⊢
  cases hg : pGo p00 0 T with
  | inl p => rw [hg] at h; simp only at h; omega
  | inr s =>
    rw [hg] at h
    simp only at h ⊢
    split at h
    · simp only at h; omega
    · rename_i q
      rw [if_neg q]
      exact pGo_fd T hg
theorem pAt.rest {T pre suf : List Nat} {st : pSt} (h : pAt T pre suf st) (hT : (pRes T).1 = -1) : pFd st suf = some (pRes T).2 := by
  have h1 := pRes_fd hT
  rw [show pFd p00 T = pFd p00 (pre ++ suf) by rw [← h.1], pFd_app h.2] at h1
  exact h1
theorem RK.eq87 {s s' : Nat → Int32} {A A' : Nat → Nat → Int32} {σ : St} (h : RK s A σ) (e : eqA 87 88 A A') (e0 : s' 0 = s 0) (e4 : s' 4 = s 4) : RK s' A' σ := by
  obtain ⟨a1, a2, a3, a4, a5, a6, a7⟩ := h
  refine ⟨a1.eq e (by omega), a2, a3.eq (e 64 (by omega)) e0, by rw [e 68 (by omega)]; exact a4, by rw [e 66 (by omega)]; exact a5, by rw [e4]; exact a6, by rw [e 86 (by omega)]; exact a7⟩
theorem r_order0 {v w : aW} {s : Nat → Int32} {l : Nat → Int64} {A : Nat → Nat → Int32} {B : Nat → Nat → Int64} {T pre suf : List Nat} {cm wn gt dg : Nat} {le nu : Nat → Nat} (h : RX v w s l A B) (ha : rAt s A T pre) (hat : pAt T pre suf (cm, 0, wn, gt, dg, le, nu)) : Ct 5 245 [.ref 62, .int (Int32.ofInt 0)] w (fun r w' => ∃ pre' suf' st' f, RX v w' (sAt s pre'.length) l (upA A 87 f) B ∧ pAt T pre' suf' st' ∧ ((r = some (.int (Int32.ofInt 0)) ∧ ((suf' = [] ∧ (st'.2.1 = 1 ∨ (st'.2.1 = 0 ∧ st'.1 = cm ∧ ∀ c ∈ suf, c = 32))) ∨ ∃ c t, suf' = c :: t ∧ pTk st' c = none)) ∨ (r = some (.int (Int32.ofInt 1)) ∧ pre.length < pre'.length ∧ ∃ wn' gt' dg' le' nu', st' = (cm + 1, 0, wn', gt', dg', le', nu')))) := by
  have hcm := hat.cm ha.2.2.1
  refine Ct.of (fun d hd Q hQ => cl_at (M := m_245) (L := [.ref 62, .int (Int32.ofInt 0), .null, .null, .null]) rfl (Nat.le_of_ble_eq_true rfl) rfl (fun E hE => ?_))
  refine r_parse (by omega) h ha hat hcm (fun w' pre' suf' st' f hW hat' hf => hQ _ _ ⟨pre', suf', st', f, hW, hat', Or.inl ⟨rfl, hf⟩⟩) (fun w' pre' c suf' st' f hW hat' hpl hc hn hex => ?_)
  have s5 : sAt s pre'.length 5 = Int32.ofInt ((pre'.length : Nat) : Int) := upd_at _ _ _
  have hW2 := hW.place (pre' ++ [59]).length
  have ec : (((pre' ++ [59]).length : Nat) : Int) = ((pre'.length : Nat) : Int) + 1 := by simp
  rw [ec, sAt_sAt] at hW2
  refine ru_at (b := k_245_64) (cl_mono _ _ _ _) rfl ?_
  simp only [k_245_64, x_iload_0, x_iload_1, x_iload_2, x_iload_3, x_iload_4, x_iload_5, x_iload_6, x_iload_7, x_iload_8, x_iload_9, x_iload_10, x_iload_11, x_lload_0, x_lload_1, x_lload_2, x_lload_3, x_lload_4, x_lload_5, x_lload_6, x_lload_7, x_lload_8, x_lload_9, x_lload_10, x_lload_11, x_aload_0, x_aload_1, x_aload_2, x_aload_3, x_aload_4, x_aload_5, x_aload_6, x_aload_7, x_aload_8, x_aload_9, x_aload_10, x_aload_11, x_istore_0, x_istore_1, x_istore_2, x_istore_3, x_istore_4, x_istore_5, x_istore_6, x_istore_7, x_istore_8, x_istore_9, x_istore_10, x_istore_11, x_astore_0, x_astore_1, x_astore_2, x_astore_3, x_astore_4, x_astore_5, x_astore_6, x_astore_7, x_astore_8, x_astore_9, x_astore_10, x_astore_11, x_lstore_0, x_lstore_1, x_lstore_2, x_lstore_3, x_lstore_4, x_lstore_5, x_lstore_6, x_lstore_7, x_lstore_8, x_lstore_9, x_lstore_10, x_iinc_0, x_iinc_1, x_iinc_2, x_iinc_3, x_iinc_4, x_iinc_5, x_iinc_6, x_iinc_7, x_iinc_8, x_iinc_9, x_iinc_10, x_iinc_11, x_iconst, x_bipush, x_sipush, x_lconst, x_ldc_w, x_ldc2_w, x_iadd, x_isub, x_imul, x_iand, x_ior, x_ixor, x_ishl, x_ishr, x_iushr, x_ladd, x_lsub, x_lmul, x_ineg, x_lneg, x_lcmp, x_i2l, x_l2i, x_idiv, x_irem, x_ldiv, x_lrem, x_dup_int, x_pop_int, x_dup_ref, x_pop_ref, x_dup2, x_goto, x_nop, x_if_eq, x_if_ne, x_if_lt, x_if_ge, x_if_gt, x_if_le, x_icmp_eq, x_icmp_ne, x_icmp_lt, x_icmp_ge, x_icmp_gt, x_icmp_le, x_getfield, x_putfield, x_iaload, x_baload, x_laload, x_iastore, x_bastore, x_lastore, x_arraylength, x_virtual_0, x_virtual_1, x_virtual_2, x_virtual_3, x_virtual_4, x_virtual_5, x_static_0, x_static_1, x_static_2, x_static_3, x_static_4, x_static_5, x_static_6, x_min, x_max, x_abs, x_labs, x_tsw, oM_some, k_int, k_ref, k_long, k_null, vc_nil, vc_int, vc_ref, vc_long, tl_some, tl_none, hW.o, rF, List.getElem?_cons_succ, List.getElem?_cons_zero, List.length_cons, List.length_nil, List.set_cons_zero, List.set_cons_succ, true_and, and_true, s5, ia_add, x_zreturn (M := m_245) rfl]
  refine ⟨⟨by decide, rfl⟩, ?_⟩
  refine if_eq0 ⟨by omega, by omega⟩ (fun _ => ?_) (fun q => absurd rfl q)
  refine ru_at (b := k_245_107) (cl_mono _ _ _ _) rfl ?_
  simp only [k_245_107, x_iload_0, x_iload_1, x_iload_2, x_iload_3, x_iload_4, x_iload_5, x_iload_6, x_iload_7, x_iload_8, x_iload_9, x_iload_10, x_iload_11, x_lload_0, x_lload_1, x_lload_2, x_lload_3, x_lload_4, x_lload_5, x_lload_6, x_lload_7, x_lload_8, x_lload_9, x_lload_10, x_lload_11, x_aload_0, x_aload_1, x_aload_2, x_aload_3, x_aload_4, x_aload_5, x_aload_6, x_aload_7, x_aload_8, x_aload_9, x_aload_10, x_aload_11, x_istore_0, x_istore_1, x_istore_2, x_istore_3, x_istore_4, x_istore_5, x_istore_6, x_istore_7, x_istore_8, x_istore_9, x_istore_10, x_istore_11, x_astore_0, x_astore_1, x_astore_2, x_astore_3, x_astore_4, x_astore_5, x_astore_6, x_astore_7, x_astore_8, x_astore_9, x_astore_10, x_astore_11, x_lstore_0, x_lstore_1, x_lstore_2, x_lstore_3, x_lstore_4, x_lstore_5, x_lstore_6, x_lstore_7, x_lstore_8, x_lstore_9, x_lstore_10, x_iinc_0, x_iinc_1, x_iinc_2, x_iinc_3, x_iinc_4, x_iinc_5, x_iinc_6, x_iinc_7, x_iinc_8, x_iinc_9, x_iinc_10, x_iinc_11, x_iconst, x_bipush, x_sipush, x_lconst, x_ldc_w, x_ldc2_w, x_iadd, x_isub, x_imul, x_iand, x_ior, x_ixor, x_ishl, x_ishr, x_iushr, x_ladd, x_lsub, x_lmul, x_ineg, x_lneg, x_lcmp, x_i2l, x_l2i, x_idiv, x_irem, x_ldiv, x_lrem, x_dup_int, x_pop_int, x_dup_ref, x_pop_ref, x_dup2, x_goto, x_nop, x_if_eq, x_if_ne, x_if_lt, x_if_ge, x_if_gt, x_if_le, x_icmp_eq, x_icmp_ne, x_icmp_lt, x_icmp_ge, x_icmp_gt, x_icmp_le, x_getfield, x_putfield, x_iaload, x_baload, x_laload, x_iastore, x_bastore, x_lastore, x_arraylength, x_virtual_0, x_virtual_1, x_virtual_2, x_virtual_3, x_virtual_4, x_virtual_5, x_static_0, x_static_1, x_static_2, x_static_3, x_static_4, x_static_5, x_static_6, x_min, x_max, x_abs, x_labs, x_tsw, oM_some, k_int, k_ref, k_long, k_null, vc_nil, vc_int, vc_ref, vc_long, tl_some, tl_none, x_zreturn (M := m_245) rfl]
  obtain ⟨wn', gt', dg', le', nu', e1, -⟩ := hex
  exact ⟨Or.inr rfl, hQ _ _ ⟨pre' ++ [59], suf', st', f, hW2, hat', Or.inr ⟨rfl, by simp; omega, wn', gt', dg', le', nu', e1⟩⟩⟩
