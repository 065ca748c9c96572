/-! ===== ANSWERS, NEW CELLS, CALLS ===== -/
/-- what a method's own words are -/
def a_hd (M : aM) (n : Nat) : Prop := M.2.2.1 ≤ 21 ∧ Cond.code M.1 M.2.1 M.2.2.1 M.2.2.2.1 ∈ lw_gd ∧ Cond.initialized M.1.cls ∈ lw_gd ∧ M.1.cls ≠ "java/lang/invoke/MethodHandle" ∧ M.1.cls ≠ "java/lang/invoke/VarHandle" ∧ (parseMethodDescriptor M.1.desc).map (fun d => d.parameters.length) = some n
theorem gd_good {x : Cond} (h : x ∈ lw_gd) : (x.onTables && x.keeps) = true ∨ ∃ ty, x = .arrayClass ty := good_of_word (List.mem_filter.mp h).2
theorem aws_good {M M' : aM} (h : Cond.code M'.1 M'.2.1 M'.2.2.1 M'.2.2.2.1 ∈ lw_gd) : GoodIn (aws M) (aws M') := by
  intro x hx
  rcases List.mem_cons.mp hx with h1 | h1
  · subst h1; exact ⟨aws_in h, gd_good h⟩
  · exact ⟨aws_in h1, gd_good h1⟩
theorem aws_goodV {M M' : aM} {idx : Nat} (h : Cond.code M'.1 M'.2.1 M'.2.2.1 M'.2.2.2.1 ∈ lw_gd) (h1 : Cond.methodLink M.1.cls idx M'.1 ∈ lw_gd) (h2 : Cond.instanceMethod M'.1 ∈ lw_gd) (h3 : Cond.selects M'.1.cls M'.1 M'.1 ∈ lw_gd) (h4 : Cond.initialized M'.1.cls ∈ lw_gd) : GoodIn (aws M) (wsV M.1.cls idx M'.1.cls M'.1 (aws M')) := by
  intro x hx
  unfold wsV at hx
  rcases List.mem_append.mp hx with hx | hx
  · have hx : x ∈ lw_gd := by
      simp only [List.mem_cons, List.not_mem_nil, or_false] at hx
      rcases hx with rfl | rfl | rfl | rfl <;> assumption
    exact ⟨aws_in hx, gd_good hx⟩
  · exact aws_good h x hx
theorem aws_goodS {M M' : aM} {idx : Nat} (h : Cond.code M'.1 M'.2.1 M'.2.2.1 M'.2.2.2.1 ∈ lw_gd) (h1 : Cond.methodLink M.1.cls idx M'.1 ∈ lw_gd) (h2 : Cond.static M'.1 ∈ lw_gd) (h4 : Cond.initialized M'.1.cls ∈ lw_gd) : GoodIn (aws M) (va_wsS M.1.cls idx M'.1 (aws M')) := by
  intro x hx
  unfold va_wsS at hx
  rcases List.mem_append.mp hx with hx | hx
  · have hx : x ∈ lw_gd := by
      simp only [List.mem_cons, List.not_mem_nil, or_false] at hx
      rcases hx with rfl | rfl | rfl <;> assumption
    exact ⟨aws_in hx, gd_good hx⟩
  · exact aws_good h x hx
theorem take_snoc {α : Type} {st : List α} {n : Nat} {a : α} (h : st[n]? = some a) : (st.take (n + 1)).reverse = a :: (st.take n).reverse ∧ st = st.take n ++ a :: st.drop (n + 1) := by
  obtain ⟨hl, he⟩ := List.getElem?_eq_some_iff.mp h
  constructor
  · rw [List.take_succ, h]; simp
  · rw [← he, List.getElem_cons_drop, List.take_append_drop]
theorem a_pD (B ci : Nat) : (pD ci).map (a_v B) = pD ci := by
  unfold pD
  split <;> rfl
section SND
variable {p : Program} {l : Launch} {e : Env} {R : Room} {s : State} {m : MethodId} {args : Array Value} {below : List Frame} {meth : Method} {c : Code} {QQ : State → Prop} {d B N0 S0 : Nat} {g : FieldType → ClassId} {D : va_G} {M : aM} {E : Nat × Nat}
variable {pc : Nat} {L st : List Value} {w : aW} {as : List Nat} {z : Int} {RT : Option Value → aW → Prop} {CL : Nat → List Value → List Value → Prop}
theorem W_size {H : Heap} {locs : List Loc} {cells slots : Nat} {f : JFrame} (k : H.size ≤ s.heap.size + cells → W p l e R s m args below meth c H locs cells slots QQ f) : W p l e R s m args below meth c H locs cells slots QQ f := by
  intro T hT X
  have h := X.same.2.2.1
  exact k (by rw [← hT]; exact h) T hT X
theorem a_sz {H : Heap} {locs : List Loc} {cells slots : Nat} {f : JFrame} (hB : s.heap.size = B + N0) (hH : a_H D B g w H) (hS : va_S (fun q => B ≤ q) s.heap H locs) (hc : w.length = N0 + cells) (k : H.size = B + w.length → W p l e R s m args below meth c H locs cells slots QQ f) : W p l e R s m args below meth c H locs cells slots QQ f := by
  refine W_size (fun hz => k ?_)
  have h1 := hS.1
  rcases Nat.eq_zero_or_pos w.length with h0 | h0
  · omega
  · have h2 : w[w.length - 1]? = some (w[w.length - 1]'(by omega)) := by simp
    have h3 := (hH (w.length - 1) _ (a_W_at h2)).lt
    simp only at h3
    omega
theorem a_call {H : Heap} {locs : List Loc} {cells slots mc ms N1 S1 : Nat} {ls : Array Slot} {st0 rest : List Value} {a : Array Value} {Q : Option Value → aW → Prop} (hr : va_Run p l e R s m args below meth c H locs cells slots mc ms (F0 m pc ls st0) rest (a_Qc D B g Q N1 S1 a) (fun q => B ≤ q)) (hS : va_S (fun q => B ≤ q) s.heap H locs)
    (kk : ∀ (r : Option Value) (w' : aW) (H1 : Heap) (locs1 : List Loc), Q r w' → a_H D B g w' H1 → w'.length = N1 → aW_s w' = S1 → va_S (fun q => B ≤ q) s.heap H1 locs1 → W p l e R s m args below meth c H1 locs1 (cells + mc) (slots + ms) QQ (F0 m (pc + 3) ls ((r.map (a_v B)).toList ++ rest))) : W p l e R s m args below meth c H locs cells slots QQ (F0 m pc ls st0) := by
  intro T hT X
  obtain ⟨v, st₀, t, T', L2, h0, X', hL, e1, e2, ⟨r, w', hv, hq, hP, hn, hs, hz, hk⟩, st⟩ := hr T hT X
  cases hv
  rw [h0] at hz hk
  obtain ⟨t2, a1, b1⟩ := kk r w' T'.heap (locs ++ L2) hq (by rw [e1]; exact hP) hn hs
    ⟨Nat.le_trans hS.1 (by rw [e1]; exact hz), fun q h1 h2 => by rw [e1, hk q (Nat.lt_of_lt_of_le h1 hS.1) h2]; exact hS.2.1 q h1 h2, fun q hq => (List.mem_append.mp hq).elim (hS.2.2 q) (hL q)⟩ T' rfl X'
  exact ⟨t2, st t2 a1, b1⟩
theorem sd_ireturn (C : a_X p l e R s m args below meth c d M B N0 g D) {Q : Option Value → aW → Prop} (hQQ : QQ = MQ below (a_Qc D B g Q (N0 + M.2.2.2.2.1.1) (S0 + M.2.2.2.2.1.2)) args s M.2.2.2.2.1.1 M.2.2.2.2.1.2 (fun q => B ≤ q)) (hmc : M.2.2.2.2.1 = (0, 0)) (hd : decode M.2.1 pc = .ok (.ireturn, 1)) (h : aO_p (a_T p l e R s m args below meth c QQ M.2.2.1 B N0 S0 g D (pc + 1)) (a_T p l e R s m args below meth c QQ M.2.2.1 B N0 S0 g D) Q CL (nx pD pY E M (pc, .ireturn, 1, as, z) L st w)) : a_T p l e R s m args below meth c QQ M.2.2.1 B N0 S0 g D pc L st w := by
  obtain ⟨hx, hb, hml, hr, hown, hts, hlocks, hKK, hR, hnm, hB⟩ := C
  subst hQQ
  subst hR
  intro ls H locs cells slots hl hH hS hc hs hc2 hs2
  have h1 : cells = 0 := by have : cells ≤ M.2.2.2.2.1.1 := hc2; rw [hmc] at this; exact Nat.le_zero.mp this
  have h2 : slots = 0 := by have : slots ≤ M.2.2.2.2.1.2 := hs2; rw [hmc] at this; exact Nat.le_zero.mp this
  subst h1
  subst h2
  simp only [hmc]
  simp only [nx] at h
  split at h
  · rename_i v
    split at h
    · rename_i hret
      exact W.zret (ty := .int) hx hb (hr.trans hret) rfl (fun t ht hW => ⟨some (.int v), w, rfl, h, by rw [ht]; exact hH, hc, hs, hS.F ht⟩) hS.2.2 hd
    · rename_i hret
      split at h
      · rename_i hv
        exact W.zret (ty := .boolean) hx hb (hr.trans hret) (by rcases hv with hv | hv <;> subst hv <;> rfl) (fun t ht hW => ⟨some (.int v), w, rfl, h, by rw [ht]; exact hH, hc, hs, hS.F ht⟩) hS.2.2 hd
      · exact h.elim
    · exact h.elim
  · exact h.elim
theorem sd_lreturn (C : a_X p l e R s m args below meth c d M B N0 g D) {Q : Option Value → aW → Prop} (hQQ : QQ = MQ below (a_Qc D B g Q (N0 + M.2.2.2.2.1.1) (S0 + M.2.2.2.2.1.2)) args s M.2.2.2.2.1.1 M.2.2.2.2.1.2 (fun q => B ≤ q)) (hmc : M.2.2.2.2.1 = (0, 0)) (hd : decode M.2.1 pc = .ok (.lreturn, 1)) (h : aO_p (a_T p l e R s m args below meth c QQ M.2.2.1 B N0 S0 g D (pc + 1)) (a_T p l e R s m args below meth c QQ M.2.2.1 B N0 S0 g D) Q CL (nx pD pY E M (pc, .lreturn, 1, as, z) L st w)) : a_T p l e R s m args below meth c QQ M.2.2.1 B N0 S0 g D pc L st w := by
  obtain ⟨hx, hb, hml, hr, hown, hts, hlocks, hKK, hR, hnm, hB⟩ := C
  subst hQQ
  subst hR
  intro ls H locs cells slots hl hH hS hc hs hc2 hs2
  have h1 : cells = 0 := by have : cells ≤ M.2.2.2.2.1.1 := hc2; rw [hmc] at this; exact Nat.le_zero.mp this
  have h2 : slots = 0 := by have : slots ≤ M.2.2.2.2.1.2 := hs2; rw [hmc] at this; exact Nat.le_zero.mp this
  subst h1
  subst h2
  simp only [hmc]
  simp only [nx] at h
  split at h
  · rename_i v
    split at h
    · rename_i hret
      exact W.lret hx hb (hr.trans hret) (fun t ht hW => ⟨some (.long v), w, rfl, h, by rw [ht]; exact hH, hc, hs, hS.F ht⟩) hS.2.2 hd
    · exact h.elim
  · exact h.elim
theorem sd_areturn (C : a_X p l e R s m args below meth c d M B N0 g D) {Q : Option Value → aW → Prop} (hQQ : QQ = MQ below (a_Qc D B g Q (N0 + M.2.2.2.2.1.1) (S0 + M.2.2.2.2.1.2)) args s M.2.2.2.2.1.1 M.2.2.2.2.1.2 (fun q => B ≤ q)) (hmc : M.2.2.2.2.1 = (0, 0)) (hd : decode M.2.1 pc = .ok (.areturn, 1)) (h : aO_p (a_T p l e R s m args below meth c QQ M.2.2.1 B N0 S0 g D (pc + 1)) (a_T p l e R s m args below meth c QQ M.2.2.1 B N0 S0 g D) Q CL (nx pD pY E M (pc, .areturn, 1, as, z) L st w)) : a_T p l e R s m args below meth c QQ M.2.2.1 B N0 S0 g D pc L st w := by
  obtain ⟨hx, hb, hml, hr, hown, hts, hlocks, hKK, hR, hnm, hB⟩ := C
  subst hQQ
  subst hR
  intro ls H locs cells slots hl hH hS hc hs hc2 hs2
  have h1 : cells = 0 := by have : cells ≤ M.2.2.2.2.1.1 := hc2; rw [hmc] at this; exact Nat.le_zero.mp this
  have h2 : slots = 0 := by have : slots ≤ M.2.2.2.2.1.2 := hs2; rw [hmc] at this; exact Nat.le_zero.mp this
  subst h1
  subst h2
  simp only [hmc]
  simp only [nx] at h
  split at h
  · rename_i v
    split at h
    · rename_i ob hret
      exact W.aret hx hb (hr.trans hret) (Or.inl ⟨_, rfl⟩) (Or.inr ⟨_, rfl⟩) (fun t ht hW => ⟨some (.ref v), w, rfl, h, by rw [ht]; exact hH, hc, hs, hS.F ht⟩) hS.2.2 hd
    · exact h.elim
  · exact h.elim
theorem sd_return (C : a_X p l e R s m args below meth c d M B N0 g D) {Q : Option Value → aW → Prop} (hQQ : QQ = MQ below (a_Qc D B g Q (N0 + M.2.2.2.2.1.1) (S0 + M.2.2.2.2.1.2)) args s M.2.2.2.2.1.1 M.2.2.2.2.1.2 (fun q => B ≤ q)) (hE : E = (N0 + M.2.2.2.2.1.1, S0 + M.2.2.2.2.1.2)) (hd : decode M.2.1 pc = .ok (.return_, 1)) (h : aO_p (a_T p l e R s m args below meth c QQ M.2.2.1 B N0 S0 g D (pc + 1)) (a_T p l e R s m args below meth c QQ M.2.2.1 B N0 S0 g D) Q CL (nx pD pY E M (pc, .return_, 1, as, z) L st w)) : a_T p l e R s m args below meth c QQ M.2.2.1 B N0 S0 g D pc L st w := by
  obtain ⟨hx, hb, hml, hr, hown, hts, hlocks, hKK, hR, hnm, hB⟩ := C
  subst hQQ
  subst hR
  subst hE
  intro ls H locs cells slots hl hH hS hc hs hc2 hs2
  simp only [nx] at h
  split at h
  · split at h
    · rename_i hcnd
      obtain ⟨hret, hcnd⟩ := hcnd
      have h1 : cells = M.2.2.2.2.1.1 := by
        have : cells ≤ M.2.2.2.2.1.1 := hc2
        rcases hcnd with q | q
        · rw [q] at this ⊢; exact Nat.le_zero.mp this
        · have := q.1; omega
      have h2 : slots = M.2.2.2.2.1.2 := by
        have : slots ≤ M.2.2.2.2.1.2 := hs2
        rcases hcnd with q | q
        · rw [q] at this ⊢; exact Nat.le_zero.mp this
        · have := q.2; omega
      subst h1
      subst h2
      exact W.vret hx hb (hr.trans hret) (fun t ht hW => ⟨none, w, rfl, h, by rw [ht]; exact hH, hc, hs, hS.F ht⟩) hS.2.2 hd
    · exact h.elim
  · exact h.elim
theorem sd_newarray (C : a_X p l e R s m args below meth c d M B N0 g D) {t : ArrayType} (hE : E = (N0 + R.cells, S0 + R.slots)) (hi : (t = .int ∨ t = .long ∨ t = .boolean) ∧ Cond.arrayClass (aA_t t) ∈ lw_gd) (hd : decode M.2.1 pc = .ok (.newarray t, 2)) (h : aO_p (a_T p l e R s m args below meth c QQ M.2.2.1 B N0 S0 g D (pc + 2)) (a_T p l e R s m args below meth c QQ M.2.2.1 B N0 S0 g D) RT CL (nx pD pY E M (pc, .newarray t, 2, as, z) L st w)) : a_T p l e R s m args below meth c QQ M.2.2.1 B N0 S0 g D pc L st w := by
  obtain ⟨hx, hb, hml, hr, hown, hts, hlocks, hKK, hR, hnm, hB⟩ := C
  simp only [nx] at h
  split at h
  · rename_i n r
    split at h
    · exact h.elim
    · rename_i hcnd
      intro ls H locs cells slots hl hH hS hc hs hc2 hs2
      refine a_sz hB hH hS hc (fun hsz => ?_)
      have hn : ¬ n < 0 := fun q => hcnd (Or.inl q)
      have hE1 : cells + 1 ≤ R.cells := by
        have : ¬ E.1 < w.length + 1 := fun q => hcnd (Or.inr (Or.inl q))
        rw [hE] at this; simp only at this; omega
      have hE2 : slots + n.toNatClampNeg ≤ R.slots := by
        have : ¬ E.2 < aW_s w + n.toNatClampNeg := fun q => hcnd (Or.inr (Or.inr (Or.inl q)))
        rw [hE] at this; simp only at this; omega
      have hN : n.toNatClampNeg ≤ 100000 := Nat.not_lt.mp fun q => hcnd (Or.inr (Or.inr (Or.inr q)))
      have key : ∀ (H1 : Heap), H1[H.size]? = some (vp_cell (g (aA_t t)) (aA_0 (aA_t t) n.toNatClampNeg)) → H1.size = H.size + 1 → (∀ q, q < H.size → H1[q]? = H[q]?) → W p l e R s m args below meth c H1 locs (cells + 1) (slots + n.toNatClampNeg) QQ (F0 m (pc + 2) ls (.ref H.size :: r.map (a_v B))) := by
        intro H1 q1 q2 q3
        have hk : ∀ (k : Nat) (x : Nat × va_E), (a_W B g w)[k]? = some x → H1[x.1]? = H[x.1]? := fun k x hx1 => q3 x.1 ((hH k x hx1).lt)
        have hP1 : a_H D B g (w ++ [.inl (aA_t t, aA_0 (aA_t t) n.toNatClampNeg)]) H1 := by
          unfold a_H
          rw [a_W_push]
          refine (va_P.kept hH hk).app (fun k x hx1 => ?_)
          have hz : k < 1 := (List.getElem?_eq_some_iff.mp hx1).1
          rw [show k = 0 by omega] at hx1
          cases hx1
          show H1[B + w.length]? = some (vp_cell _ _)
          rw [← hsz, q1]
          rcases hi.1 with rfl | rfl | rfl <;> rfl
        have hS1 : va_S (fun q => B ≤ q) s.heap H1 locs := ⟨by have := hS.1; omega, fun x h1 h2 => (q3 x (Nat.lt_of_lt_of_le h1 hS.1)).trans (hS.2.1 x h1 h2), hS.2.2⟩
        have hn1 : aC_n (.inl (aA_t t, aA_0 (aA_t t) n.toNatClampNeg)) = n.toNatClampNeg := by rcases hi.1 with rfl | rfl | rfl <;> rfl
        have := h ls H1 locs (cells + 1) (slots + n.toNatClampNeg) hl hP1 hS1 (by simp; omega) (by show aW_s (w ++ _) = _; rw [a_s_push, hn1]; omega) hE1 hE2
        rw [hsz]
        exact this
      rcases hi with ⟨rfl | rfl | rfl, hiw⟩
      · refine va_newaK (atype := .int) hx hb (hts _ (aws_in hiw)) rfl hd rfl hn rfl (Nat.le_trans (Nat.mul_le_mul_right _ hN) (by decide)) hE1 hE2 rfl (fun H1 cA e1 z1 o1 hAr hNm => ?_)
        have hcA : cA = g .int := Option.some.inj (hNm.symm.trans (hKK.1.2 0 _ a_tys_int).2)
        subst hcA
        exact key H1 e1 z1 o1
      · refine va_newaK (atype := .long) hx hb (hts _ (aws_in hiw)) rfl hd rfl hn rfl (Nat.le_trans (Nat.mul_le_mul_right _ hN) (by decide)) hE1 hE2 rfl (fun H1 cA e1 z1 o1 hAr hNm => ?_)
        have hcA : cA = g .long := Option.some.inj (hNm.symm.trans (hKK.1.2 1 _ a_tys_long).2)
        subst hcA
        exact key H1 e1 z1 o1
      · refine va_newaK (atype := .boolean) hx hb (hts _ (aws_in hiw)) rfl hd rfl hn rfl (Nat.le_trans (Nat.mul_le_mul_right _ hN) (by decide)) hE1 hE2 rfl (fun H1 cA e1 z1 o1 hAr hNm => ?_)
        have hcA : cA = g .boolean := Option.some.inj (hNm.symm.trans (hKK.1.2 2 _ a_tys_bool).2)
        subst hcA
        exact key H1 e1 z1 o1
  · exact h.elim
theorem sd_anewarray (C : a_X p l e R s m args below meth c d M B N0 g D) {idx : Nat} (hE : E = (N0 + R.cells, S0 + R.slots)) (hi : Cond.classLink M.1.cls idx "PairSorts$Table" ∈ lw_gd) (hd : decode M.2.1 pc = .ok (.anewarray idx, 3)) (h : aO_p (a_T p l e R s m args below meth c QQ M.2.2.1 B N0 S0 g D (pc + 3)) (a_T p l e R s m args below meth c QQ M.2.2.1 B N0 S0 g D) RT CL (nx pD pY E M (pc, .anewarray idx, 3, as, z) L st w)) : a_T p l e R s m args below meth c QQ M.2.2.1 B N0 S0 g D pc L st w := by
  obtain ⟨hx, hb, hml, hr, hown, hts, hlocks, hKK, hR, hnm, hB⟩ := C
  simp only [nx] at h
  split at h
  · rename_i n r
    split at h
    · exact h.elim
    · rename_i hcnd
      intro ls H locs cells slots hl hH hS hc hs hc2 hs2
      refine a_sz hB hH hS hc (fun hsz => ?_)
      have hn : ¬ n < 0 := fun q => hcnd (Or.inl q)
      have hE1 : cells + 1 ≤ R.cells := by
        have : ¬ E.1 < w.length + 1 := fun q => hcnd (Or.inr (Or.inl q))
        rw [hE] at this; simp only at this; omega
      have hE2 : slots + n.toNatClampNeg ≤ R.slots := by
        have : ¬ E.2 < aW_s w + n.toNatClampNeg := fun q => hcnd (Or.inr (Or.inr (Or.inl q)))
        rw [hE] at this; simp only at this; omega
      have hN : n.toNatClampNeg ≤ 100000 := Nat.not_lt.mp fun q => hcnd (Or.inr (Or.inr (Or.inr q)))
      refine W.anew hx hb hown (hts _ (aws_in hi)) (va_AO.use hKK.2.1) rfl hd rfl hn (by omega) hE1 hE2 (fun cA kA comp f1 f2 f3 f4 => ?_)
      obtain ⟨kA2, comp2, k1, k2, k3, k4⟩ := (hKK.1.2 3 _ a_tys_tab).2
      have hcA : cA = g (.object "PairSorts$Table") := Option.some.inj (f1.symm.trans k4)
      subst hcA
      generalize hH1 : H.push ({ cls := g (.object "PairSorts$Table"), slots := Array.replicate n.toNatClampNeg .null, vm := .none } : Cell) = H1
      have q2 : H1.size = H.size + 1 := by rw [← hH1, Array.size_push]
      have q1 : H1[H.size]? = some (arrV (g (.object "PairSorts$Table")) n.toNatClampNeg (fun _ => .null)) := by rw [← hH1, Array.getElem?_push_size, ← arrV_new]
      have q3 : ∀ q : Nat, q < H.size → H1[q]? = H[q]? := fun q hq => by rw [← hH1, Array.getElem?_push, if_neg (Nat.ne_of_lt hq)]
      have hk : ∀ (k : Nat) (x : Nat × va_E), (a_W B g w)[k]? = some x → H1[x.1]? = H[x.1]? := fun k x hx1 => q3 x.1 ((hH k x hx1).lt)
      have hP1 : a_H D B g (w ++ [.inl (.object "PairSorts$Table", aA_0 (.object "PairSorts$Table") n.toNatClampNeg)]) H1 := by
        unfold a_H
        rw [a_W_push]
        refine (va_P.kept hH hk).app (fun k x hx1 => ?_)
        have hz : k < 1 := (List.getElem?_eq_some_iff.mp hx1).1
        rw [show k = 0 by omega] at hx1
        cases hx1
        show H1[B + w.length]? = some (vp_cell _ _)
        rw [← hsz, q1]
        rfl
      have hS1 : va_S (fun q => B ≤ q) s.heap H1 locs := ⟨by have := hS.1; omega, fun x h1 h2 => (q3 x (Nat.lt_of_lt_of_le h1 hS.1)).trans (hS.2.1 x h1 h2), hS.2.2⟩
      have := h ls H1 locs (cells + 1) (slots + n.toNatClampNeg) hl hP1 hS1 (by simp; omega) (by show aW_s (w ++ _) = _; rw [a_s_push, show aC_n (.inl (.object "PairSorts$Table", aA_0 (.object "PairSorts$Table") n.toNatClampNeg)) = n.toNatClampNeg from rfl]; omega) hE1 hE2
      have h9 : (F0 m (pc + 3) ls (.ref H.size :: r.map (a_v B))) = (F0 m (pc + 3) ls (.ref (B + w.length) :: r.map (a_v B))) := by rw [hsz]
      exact W.eq h9 this
  · exact h.elim
theorem sd_new (C : a_X p l e R s m args below meth c d M B N0 g D) {idx : Nat} (hE : E = (N0 + R.cells, S0 + R.slots)) (hi : ∀ ci q, as = ci :: q → ∃ C T N, pCl[ci]? = some (C, T, N) ∧ Cond.classLink M.1.cls idx C ∈ lw_gd) (hd : decode M.2.1 pc = .ok (.new idx, 3)) (h : aO_p (a_T p l e R s m args below meth c QQ M.2.2.1 B N0 S0 g D (pc + 3)) (a_T p l e R s m args below meth c QQ M.2.2.1 B N0 S0 g D) RT CL (nx pD pY E M (pc, .new idx, 3, as, z) L st w)) : a_T p l e R s m args below meth c QQ M.2.2.1 B N0 S0 g D pc L st w := by
  obtain ⟨hx, hb, hml, hr, hown, hts, hlocks, hKK, hR, hnm, hB⟩ := C
  simp only [nx] at h
  split at h
  · rename_i ci q
    obtain ⟨C, T, N, h1, h2⟩ := hi _ _ rfl
    obtain ⟨g1, g2, g3, g4, g5, g6, g7⟩ := cl_all _ _ _ _ h1
    split at h
    · exact h.elim
    · rename_i hcnd
      intro ls H locs cells slots hl hH hS hc hs hc2 hs2
      refine a_sz hB hH hS hc (fun hsz => ?_)
      have hE1 : cells + 1 ≤ R.cells := by
        have : ¬ E.1 < w.length + 1 := fun q => hcnd (Or.inl q)
        rw [hE] at this; simp only at this; omega
      have hE2 : slots + N ≤ R.slots := by
        have : ¬ E.2 < aW_s w + (pD ci).length := fun q => hcnd (Or.inr q)
        rw [hE, g5] at this; simp only at this; omega
      have hKn := hKK.1.1 ci _ h1
      refine W.newcK hx hb hown (hts _ (aws_in h2)) (hts _ (aws_in g6)) (hts _ (aws_in g7)) rfl hd hE1 hE2 hKn.2.1 rfl (fun H1 kC hkC q1 q2 q3 => ?_)
      have hk : ∀ (k : Nat) (x : Nat × va_E), (a_W B g w)[k]? = some x → H1[x.1]? = H[x.1]? := fun k x hx1 => q3 x.1 ((hH k x hx1).lt)
      have hdm : (pD ci).map (a_v B) = pD ci := a_pD B ci
      have hP1 : a_H D B g (w ++ [.inr (ci, pD ci)]) H1 := by
        unfold a_H
        rw [a_W_push]
        refine (va_P.kept hH hk).app (fun k x hx1 => ?_)
        have hz : k < 1 := (List.getElem?_eq_some_iff.mp hx1).1
        rw [show k = 0 by omega] at hx1
        cases hx1
        refine ⟨(C, T, N), h1, ?_⟩
        show t_OB (B + w.length) _ _ _ _ (vp_V ((pD ci).map (a_v B)))
        rw [hdm, ← hsz]
        exact (u_born (pY ci) hts (fun q hq => aws_in (g1 q hq)) hKn hkC q1 g2).to g4
      have hS1 : va_S (fun q => B ≤ q) s.heap H1 locs := ⟨by have := hS.1; omega, fun x h1 h2 => (q3 x (Nat.lt_of_lt_of_le h1 hS.1)).trans (hS.2.1 x h1 h2), hS.2.2⟩
      have := h ls H1 locs (cells + 1) (slots + N) hl hP1 hS1 (by simp; omega) (by show aW_s (w ++ _) = _; rw [a_s_push, show aC_n (.inr (ci, pD ci)) = (pD ci).length from rfl, g5]; omega) hE1 hE2
      have h9 : (F0 m (pc + 3) ls (.ref H.size :: st.map (a_v B))) = (F0 m (pc + 3) ls (.ref (B + w.length) :: st.map (a_v B))) := by rw [hsz]
      exact W.eq h9 this
  · exact h.elim
theorem sd_arraycopy (C : a_X p l e R s m args below meth c d M B N0 g D) {idx pl : Nat} (has : as = [pl]) (hi : Cond.methodLink M.1.cls idx arraycopyName ∈ lw_gd) (hi2 : Cond.native arraycopyName ∈ lw_gd ∧ Cond.static arraycopyName ∈ lw_gd ∧ Cond.initialized "java/lang/System" ∈ lw_gd) (hd : decode M.2.1 pc = .ok (.invokestatic idx, 3)) (h : aO_p (a_T p l e R s m args below meth c QQ M.2.2.1 B N0 S0 g D (pc + 3)) (a_T p l e R s m args below meth c QQ M.2.2.1 B N0 S0 g D) RT CL (nx pD pY E M (pc, .invokestatic idx, 3, as, z) L st w)) : a_T p l e R s m args below meth c QQ M.2.2.1 B N0 S0 g D pc L st w := by
  obtain ⟨hx, hb, hml, hr, hown, hts, hlocks, hKK, hR, hnm, hB⟩ := C
  simp only [nx] at h
  subst has
  simp only at h
  split at h
  · rename_i n dp a sp b r
    split at h
    · rename_i n0 f n1 g1 hw0 hw1
      split at h
      · exact h.elim
      · rename_i hcnd
        simp only [not_or, Nat.not_lt] at hcnd
        obtain ⟨c1, c2, c3, c4, c5, c6⟩ := hcnd
        intro ls H locs cells slots hl hH hS hc hs hc2 hs2
        have hlo : ((r.map (a_v B)).map fun v => v.category).sum + (nativeFrameWords "java/lang/System" "arraycopy" 5 + 11) ≤ R.locals := by
          rw [a_v_sum, hR]
          show aV_c r + (7 + 11) ≤ 40 * (d + 1)
          omega
        refine va_copyi (D := D) (cl := pCl) (tys := a_tys g) (ty := .int) hx hb (hml.trans hl.2.1.symm) hown (hts _ (aws_in hi)) (hts _ (aws_in hi2.1)) (hts _ (aws_in hi2.2.1)) (hts _ (aws_in hi2.2.2)) hKK.1 hH a_W_D hS b a 0 0 (a_W_at hw0) (a_W_at hw1) a_tys_int a_tys_int rfl c3 c2 c1 c4 c5 (fun _ _ => rfl) (by rw [hR]; show 1 ≤ d + 1; omega) hlo hd (fun H1 locs1 q1 q2 q3 => ?_)
        have q1 : va_P D pCl ((a_W B g w).set a (B + a, a_E B g (.inl (.int, n1, .inl (va_cpy f g1 sp.toNatClampNeg dp.toNatClampNeg n.toNatClampNeg))))) H1 := q1
        rw [a_W_set] at q1
        exact h ls H1 locs1 cells slots hl q1 q3 (by simp only [List.length_set]; exact hc) ((a_s_set hw1 (by rfl)).trans hs) hc2 hs2
    · exact h.elim
  · exact h.elim
theorem sd_objinit (C : a_X p l e R s m args below meth c d M B N0 g D) {idx pl : Nat} (has : as = [pl]) (hi : Cond.methodLink M.1.cls idx objectInit ∈ lw_gd) (hi2 : Cond.instanceMethod objectInit ∈ lw_gd ∧ Cond.code objectInit ⟨#[0xb1]⟩ 1 none ∈ lw_gd) (hd : decode M.2.1 pc = .ok (.invokespecial idx, 3)) (h : aO_p (a_T p l e R s m args below meth c QQ M.2.2.1 B N0 S0 g D (pc + 3)) (a_T p l e R s m args below meth c QQ M.2.2.1 B N0 S0 g D) RT CL (nx pD pY E M (pc, .invokespecial idx, 3, as, z) L st w)) : a_T p l e R s m args below meth c QQ M.2.2.1 B N0 S0 g D pc L st w := by
  obtain ⟨hx, hb, hml, hr, hown, hts, hlocks, hKK, hR, hnm, hB⟩ := C
  simp only [nx] at h
  subst has
  simp only at h
  split at h
  · rename_i a r
    split at h
    · rename_i hcr
      intro ls H locs cells slots hl hH hS hc hs hc2 hs2
      refine W.objInit hx hb hown (hts _ (aws_in hi)) (hts _ (aws_in hi2.1)) (hts _ (aws_in hi2.2)) rfl (hl.2.1.trans hml.symm) rfl hd (by rw [hR]; show 1 ≤ d + 1; omega) ?_ ?_
      · show 2 * 0 + ((r.map (a_v B)).map fun v => v.category).sum + 12 ≤ R.locals
        rw [a_v_sum, hR]
        show 2 * 0 + aV_c r + 12 ≤ 40 * (d + 1)
        omega
      · exact h ls H locs cells slots hl hH hS hc hs hc2 hs2
    · exact h.elim
  · exact h.elim
theorem sd_math (C : a_X p l e R s m args below meth c d M B N0 g D) {idx k pl : Nat} (has : as = [k, pl]) (hi : (k = 0 → Cond.methodLink M.1.cls idx Lib.Math.min.name ∈ lw_gd) ∧ (k = 1 → Cond.methodLink M.1.cls idx Lib.Math.max.name ∈ lw_gd) ∧ (k = 2 → Cond.methodLink M.1.cls idx Lib.Math.abs.name ∈ lw_gd) ∧ (k = 3 → Cond.methodLink M.1.cls idx Lib.MathLoose.abs_long.x ∈ lw_gd)) (hi0 : Cond.initialized "java/lang/Math" ∈ lw_gd) (hi1 : Cond.static Lib.Math.min.name ∈ lw_gd ∧ Cond.code Lib.Math.min.name Lib.Math.min.code 2 (some .int) ∈ lw_gd) (hi2 : Cond.static Lib.Math.max.name ∈ lw_gd ∧ Cond.code Lib.Math.max.name Lib.Math.max.code 2 (some .int) ∈ lw_gd) (hi3 : Cond.static Lib.Math.abs.name ∈ lw_gd ∧ Cond.code Lib.Math.abs.name Lib.Math.abs.code 1 (some .int) ∈ lw_gd) (hi4 : Cond.static Lib.MathLoose.abs_long.x ∈ lw_gd ∧ Cond.code Lib.MathLoose.abs_long.x Lib.MathLoose.abs_long.code 2 (some .long) ∈ lw_gd) (hd : decode M.2.1 pc = .ok (.invokestatic idx, 3)) (h : aO_p (a_T p l e R s m args below meth c QQ M.2.2.1 B N0 S0 g D (pc + 3)) (a_T p l e R s m args below meth c QQ M.2.2.1 B N0 S0 g D) RT CL (nx pD pY E M (pc, .invokestatic idx, 3, as, z) L st w)) : a_T p l e R s m args below meth c QQ M.2.2.1 B N0 S0 g D pc L st w := by
  obtain ⟨hx, hb, hml, hr, hown, hts, hlocks, hKK, hR, hnm, hB⟩ := C
  simp only [nx] at h
  subst has
  simp only at h
  have hlo : ∀ r : List Value, aV_c r ≤ 8 → ((r.map (a_v B)).map fun v => v.category).sum + 13 ≤ R.locals := by
    intro r hr8
    rw [a_v_sum, hR]
    show aV_c r + 13 ≤ 40 * (d + 1)
    omega
  have hfr : 1 ≤ R.frames := by rw [hR]; show 1 ≤ d + 1; omega
  split at h
  · split at h
    · rename_i hcr
      intro ls H locs cells slots hl hH hS hc hs hc2 hs2
      refine va_mmin hx hb (hml.trans hl.2.1.symm) hown (hts _ (aws_in (hi.1 rfl))) (hts _ (aws_in hi1.1)) (hts _ (aws_in hi0)) (hts _ (aws_in hi1.2)) hfr (hlo _ hcr) hc2 hs2 hd ?_
      exact h ls H locs cells slots hl hH hS hc hs hc2 hs2
    · exact h.elim
  · split at h
    · rename_i hcr
      intro ls H locs cells slots hl hH hS hc hs hc2 hs2
      refine va_mmax hx hb (hml.trans hl.2.1.symm) hown (hts _ (aws_in (hi.2.1 rfl))) (hts _ (aws_in hi2.1)) (hts _ (aws_in hi0)) (hts _ (aws_in hi2.2)) hfr (hlo _ hcr) hc2 hs2 hd ?_
      exact h ls H locs cells slots hl hH hS hc hs hc2 hs2
    · exact h.elim
  · split at h
    · rename_i hcr
      intro ls H locs cells slots hl hH hS hc hs hc2 hs2
      refine va_mabs hx hb (hml.trans hl.2.1.symm) hown (hts _ (aws_in (hi.2.2.1 rfl))) (hts _ (aws_in hi3.1)) (hts _ (aws_in hi0)) (hts _ (aws_in hi3.2)) hfr (hlo _ hcr) hc2 hs2 hd ?_
      exact h ls H locs cells slots hl hH hS hc hs hc2 hs2
    · exact h.elim
  · split at h
    · rename_i hcr
      intro ls H locs cells slots hl hH hS hc hs hc2 hs2
      refine va_mabs_long hx hb (hml.trans hl.2.1.symm) hown (hts _ (aws_in (hi.2.2.2 rfl))) (hts _ (aws_in hi4.1)) (hts _ (aws_in hi0)) (hts _ (aws_in hi4.2)) hfr (hlo _ hcr) hc2 hs2 hd ?_
      exact h ls H locs cells slots hl hH hS hc hs hc2 hs2
    · exact h.elim
  · exact h.elim
theorem sd_virtual (C : a_X p l e R s m args below meth c d M B N0 g D) {MT : Nat → aM} {K : Nat → List Value → aW → (Option Value → aW → Prop) → Prop} (hIH : ∀ mi as w Q, K mi as w Q → a_Met l D B g d (MT mi) as w Q) {idx mi n ci : Nat} {q : List Nat} {T : u_T} {N : Nat} (has : as = mi :: n :: ci :: q) (hc0 : pCl[ci]? = some ((MT mi).1.cls, T, N)) (hm0 : (MT mi).2.2.2.2.1 = (0, 0)) (hh : a_hd (MT mi) n) (hi : Cond.methodLink M.1.cls idx (MT mi).1 ∈ lw_gd) (hi2 : Cond.instanceMethod (MT mi).1 ∈ lw_gd ∧ Cond.selects (MT mi).1.cls (MT mi).1 (MT mi).1 ∈ lw_gd)
    (hd : decode M.2.1 pc = .ok (.invokevirtual idx, 3)) (h : aO_p (a_T p l e R s m args below meth c QQ M.2.2.1 B N0 S0 g D (pc + 3)) (a_T p l e R s m args below meth c QQ M.2.2.1 B N0 S0 g D) RT (fun mi as rest => K mi as w (fun r w' => a_T p l e R s m args below meth c QQ M.2.2.1 B N0 S0 g D (pc + 3) L (r.toList ++ rest) w')) (nx pD pY E M (pc, .invokevirtual idx, 3, as, z) L st w)) : a_T p l e R s m args below meth c QQ M.2.2.1 B N0 S0 g D pc L st w := by
  obtain ⟨hx, hb, hml, hr, hown, hts, hlocks, hKK, hR, hnm, hB⟩ := C
  subst has
  simp only [nx] at h
  split at h
  · exact h.elim
  · rename_i hcnd
    simp only [not_or, Nat.not_lt] at hcnd
    split at h
    · rename_i a hsn
      split at h
      · rename_i c1 fs hw
        split at h
        · rename_i hcc
          subst hcc
          obtain ⟨t1, t2⟩ := take_snoc hsn
          have hM := hIH _ _ _ _ h
          unfold a_Met at hM
          rw [hm0] at hM
          obtain ⟨k1, k2, k3, k4, k5, k6⟩ := hh
          intro ls H locs cells slots hl hH hS hc hs hc2 hs2
          refine a_sz hB hH hS hc (fun hsz => ?_)
          have hstk : st.map (a_v B) = (((st.take n).reverse.map (a_v B))).reverse ++ .ref (B + a) :: (st.drop (n + 1)).map (a_v B) := by
            conv => lhs; rw [t2]
            simp [List.map_append, a_v]
          refine a_call (va_runV (C := (MT mi).1.cls) (b := B + a) (As := (st.take n).reverse.map (a_v B)) (rest := (st.drop (n + 1)).map (a_v B)) ⟨hx, hb, hml, hown, hts⟩ hM (cwV n hts (aws_goodV k2 hi hi2.1 hi2.2 k3) rfl (by show (MT mi).2.2.2.2.1.1 = 0; rw [hm0]) (by show (MT mi).2.2.2.2.1.2 = 0; rw [hm0]) ⟨rfl, k4, k5, k6⟩ (by rw [hR]; exact ⟨Nat.le_refl _, by show 8 + ((MT mi).2.2.1 + 11) + 40 * d ≤ 40 * (d + 1); omega⟩)) ⟨a_blind D B g _ w, va_recv hKK.1 hH hc0 (a_W_at hw), fun U hU hW => ⟨by rw [t1]; rfl, by rw [hU]; exact hsz, by rw [hU]; exact hH, a_K.warm hKK hW⟩⟩ rfl (by simp; omega) hl.2.1 hstk (lv_room (by rw [a_v_sum]; exact hcnd.2)) hd ⟨by omega, by omega⟩) hS (fun r w' H1 locs1 hq hP1 hn1 hs1 hS1 => ?_)
          have := hq ls H1 locs1 cells slots hl hP1 hS1 (hn1.trans hc) (hs1.trans hs) hc2 hs2
          rw [List.map_append] at this
          cases r <;> exact this
        · exact h.elim
      · exact h.elim
    · exact h.elim
theorem sd_static (C : a_X p l e R s m args below meth c d M B N0 g D) {MT : Nat → aM} {K : Nat → List Value → aW → (Option Value → aW → Prop) → Prop} (hIH : ∀ mi as w Q, K mi as w Q → a_Met l D B g d (MT mi) as w Q) {idx mi n : Nat} {q0 : Nat} {q : List Nat} (has : as = mi :: n :: q0 :: q) (hm0 : (MT mi).2.2.2.2.1 = (0, 0)) (hh : a_hd (MT mi) n) (hi : Cond.methodLink M.1.cls idx (MT mi).1 ∈ lw_gd) (hi2 : Cond.static (MT mi).1 ∈ lw_gd)
    (hd : decode M.2.1 pc = .ok (.invokestatic idx, 3)) (h : aO_p (a_T p l e R s m args below meth c QQ M.2.2.1 B N0 S0 g D (pc + 3)) (a_T p l e R s m args below meth c QQ M.2.2.1 B N0 S0 g D) RT (fun mi as rest => K mi as w (fun r w' => a_T p l e R s m args below meth c QQ M.2.2.1 B N0 S0 g D (pc + 3) L (r.toList ++ rest) w')) (nx pD pY E M (pc, .invokestatic idx, 3, as, z) L st w)) : a_T p l e R s m args below meth c QQ M.2.2.1 B N0 S0 g D pc L st w := by
  obtain ⟨hx, hb, hml, hr, hown, hts, hlocks, hKK, hR, hnm, hB⟩ := C
  subst has
  simp only [nx] at h
  split at h
  · exact h.elim
  · rename_i hcnd
    simp only [not_or, Nat.not_lt] at hcnd
    have hM := hIH _ _ _ _ h
    unfold a_Met at hM
    rw [hm0] at hM
    obtain ⟨k1, k2, k3, k4, k5, k6⟩ := hh
    intro ls H locs cells slots hl hH hS hc hs hc2 hs2
    refine a_sz hB hH hS hc (fun hsz => ?_)
    have hstk : st.map (a_v B) = (((st.take n).reverse.map (a_v B))).reverse ++ (st.drop n).map (a_v B) := by
      conv => lhs; rw [← List.take_append_drop n st]
      simp [List.map_append]
    refine a_call (va_runS (As := (st.take n).reverse.map (a_v B)) (rest := (st.drop n).map (a_v B)) ⟨hx, hb, hml, hown, hts⟩ hM (va_cwS n hts (aws_goodS k2 hi hi2 k3) rfl (by show (MT mi).2.2.2.2.1.1 = 0; rw [hm0]) (by show (MT mi).2.2.2.2.1.2 = 0; rw [hm0]) ⟨k4, k5, k6⟩ (by rw [hR]; exact ⟨Nat.le_refl _, by show 8 + ((MT mi).2.2.1 + 11) + 40 * d ≤ 40 * (d + 1); omega⟩)) ⟨a_blind D B g _ w, fun U hU hW => ⟨rfl, by rw [hU]; exact hsz, by rw [hU]; exact hH, a_K.warm hKK hW⟩⟩ rfl (by simp; omega) hl.2.1 hstk (lv_room (by rw [a_v_sum]; exact hcnd.2)) hd ⟨by omega, by omega⟩) hS (fun r w' H1 locs1 hq hP1 hn1 hs1 hS1 => ?_)
    have := hq ls H1 locs1 cells slots hl hP1 hS1 (hn1.trans hc) (hs1.trans hs) hc2 hs2
    rw [List.map_append] at this
    cases r <;> exact this
theorem sd_special (C : a_X p l e R s m args below meth c d M B N0 g D) {MT : Nat → aM} {K : Nat → List Value → aW → (Option Value → aW → Prop) → Prop} (hIH : ∀ mi as w Q, K mi as w Q → a_Met l D B g d (MT mi) as w Q) (hE : E = (N0 + R.cells, S0 + R.slots)) {idx mi n mc ms : Nat} {q : List Nat} (has : as = mi :: n :: mc :: ms :: q) (hm0 : (MT mi).2.2.2.2.1 = (mc, ms)) (hret : (MT mi).2.2.2.1 = none) (hh : a_hd (MT mi) n) (hi : Cond.methodLink M.1.cls idx (MT mi).1 ∈ lw_gd ∨ ∃ host, (M.1.cls, idx, (MT mi).1, host) ∈ a_nest) (hi2 : Cond.instanceMethod (MT mi).1 ∈ lw_gd ∧ (MT mi).1.name = "<init>")
    (hd : decode M.2.1 pc = .ok (.invokespecial idx, 3)) (h : aO_p (a_T p l e R s m args below meth c QQ M.2.2.1 B N0 S0 g D (pc + 3)) (a_T p l e R s m args below meth c QQ M.2.2.1 B N0 S0 g D) RT (fun mi as rest => K mi as w (fun r w' => a_T p l e R s m args below meth c QQ M.2.2.1 B N0 S0 g D (pc + 3) L (r.toList ++ rest) w')) (nx pD pY E M (pc, .invokespecial idx, 3, as, z) L st w)) : a_T p l e R s m args below meth c QQ M.2.2.1 B N0 S0 g D pc L st w := by
  obtain ⟨hx, hb, hml, hr, hown, hts, hlocks, hKK, hR, hnm, hB⟩ := C
  subst has
  simp only [nx] at h
  split at h
  · exact h.elim
  · rename_i hcnd
    simp only [not_or, Nat.not_lt] at hcnd
    obtain ⟨e1, e2, e3, e4⟩ := hcnd
    rw [hE] at e1 e2
    simp only at e1 e2
    split at h
    · rename_i a hsn
      have hM := hIH _ _ _ _ h
      unfold a_Met at hM
      rw [hm0] at hM
      obtain ⟨k1, k2, k3, k4, k5, k6⟩ := hh
      intro ls H locs cells slots hl hH hS hc hs hc2 hs2
      refine a_sz hB hH hS hc (fun hsz => ?_)
      obtain ⟨t1, t2⟩ := take_snoc hsn
      have hstk : st.map (a_v B) = (((st.take n).reverse.map (a_v B))).reverse ++ .ref (B + a) :: (st.drop (n + 1)).map (a_v B) := by
        conv => lhs; rw [t2]
        simp [List.map_append, a_v]
      have hroom : (a_R d (MT mi)).frames + 1 ≤ R.frames ∧ 8 + ((MT mi).2.2.1 + 11) + (a_R d (MT mi)).locals ≤ R.locals := by rw [hR]; exact ⟨Nat.le_refl _, by show 8 + ((MT mi).2.2.1 + 11) + 40 * d ≤ 40 * (d + 1); omega⟩
      have hfin : ∀ (r : Option Value) (w' : aW) (H1 : Heap) (locs1 : List Loc), a_T p l e R s m args below meth c QQ M.2.2.1 B N0 S0 g D (pc + 3) L (r.toList ++ st.drop (n + 1)) w' → a_H D B g w' H1 → w'.length = w.length + mc → aW_s w' = aW_s w + ms → va_S (fun q => B ≤ q) s.heap H1 locs1 → W p l e R s m args below meth c H1 locs1 (cells + mc) (slots + ms) QQ (F0 m (pc + 3) ls ((r.map (a_v B)).toList ++ (st.drop (n + 1)).map (a_v B))) := by
        intro r w' H1 locs1 hq hP1 hn1 hs1 hS1
        have := hq ls H1 locs1 (cells + mc) (slots + ms) hl hP1 hS1 (by omega) (by omega) (by omega) (by omega)
        rw [List.map_append] at this
        cases r <;> exact this
      have hws : aws (MT mi) = Cond.code (MT mi).1 (MT mi).2.1 (MT mi).2.2.1 none :: lw_gd := by unfold aws; rw [hret]
      rcases hi with hi | ⟨host, hi⟩
      · exact a_call (va_runI (b := B + a) (As := (st.take n).reverse.map (a_v B)) (rest := (st.drop (n + 1)).map (a_v B)) ⟨hx, hb, hml, hown, hts⟩ hM (cwI n hts (aws_good k2) hws (by show (MT mi).2.2.2.2.1.1 = mc; rw [hm0]) (by show (MT mi).2.2.2.2.1.2 = ms; rw [hm0]) (hts _ (aws_in k3)) (hts _ (aws_in hi)) (hts _ (aws_in hi2.1)) hi2.2 ⟨k4, k5, k6⟩ hroom) ⟨a_blind D B g _ w, fun U hU hW => ⟨by rw [t1]; rfl, by rw [hU]; exact hsz, by rw [hU]; exact hH, a_K.warm hKK hW⟩⟩ rfl (by simp; omega) hl.2.1 hstk (lv_room (by rw [a_v_sum]; exact e4)) hd ⟨by omega, by omega⟩) hS hfin
      · exact a_call (va_runIN (host := host) (b := B + a) (As := (st.take n).reverse.map (a_v B)) (rest := (st.drop (n + 1)).map (a_v B)) ⟨hx, hb, hml, hown, hts⟩ hM ⟨va_cnB n hts (aws_good k2) hws (by show (MT mi).2.2.2.2.1.1 = mc; rw [hm0]) (by show (MT mi).2.2.2.2.1.2 = ms; rw [hm0]) (hKK.2.2 _ hi) (hts _ (aws_in k3)) ⟨k4, k5, k6⟩ hroom, hi2.2, hts _ (aws_in hi2.1)⟩ ⟨a_blind D B g _ w, fun U hU hW => ⟨by rw [t1]; rfl, by rw [hU]; exact hsz, by rw [hU]; exact hH, a_K.warm hKK hW⟩⟩ rfl (by simp; omega) hl.2.1 hstk (lv_room (by rw [a_v_sum]; exact e4)) hd ⟨by omega, by omega⟩) hS hfin
    · exact h.elim
end SND
