/-! ===== INSTRUCTIONS THAT TOUCH THE HEAP ===== -/
theorem aF_fit {B : Nat} {ty : FieldType} {v : Value} (h : aF_ok ty v = true) : narrow ty (a_v B v) = a_v B v ∧ fits ty (a_v B v) = true := by
  cases ty <;> cases v <;> simp_all [aF_ok, narrow, fits, a_v]
  rcases h with h | h <;> subst h <;> decide
theorem aF_map {B : Nat} {fs : List Value} {k : Nat} {v : Value} (h : fs[k]? = some v) : (fs.map (a_v B))[k]? = some (a_v B v) := by rw [List.getElem?_map, h]; rfl
theorem a_tys_int {g : FieldType → ClassId} : (a_tys g)[0]? = some (g .int, .int) := rfl
theorem a_tys_long {g : FieldType → ClassId} : (a_tys g)[1]? = some (g .long, .long) := rfl
theorem a_tys_bool {g : FieldType → ClassId} : (a_tys g)[2]? = some (g .boolean, .boolean) := rfl
theorem a_tys_tab {g : FieldType → ClassId} : (a_tys g)[3]? = some (g (.object "PairSorts$Table"), .object "PairSorts$Table") := rfl
theorem aws_in {M : aM} {x : Cond} (h : x ∈ lw_gd) : x ∈ aws M := List.mem_cons_of_mem _ h
section SND
variable {p : Program} {l : Launch} {e : Env} {R : Room} {s : State} {m : MethodId} {args : Array Value} {below : List Frame} {meth : Method} {c : Code} {QQ : State → Prop} {d B N0 S0 : Nat} {g : FieldType → ClassId} {D : va_G} {M : aM} {E : Nat × Nat}
variable {pc : Nat} {L st : List Value} {w : aW} {as : List Nat} {z : Int} {RT : Option Value → aW → Prop} {CL : Nat → List Value → List Value → Prop}
theorem sd_getfield (C : a_X p l e R s m args below meth c d M B N0 g D) {idx : Nat} (hi : ∀ ci k q, as = ci :: k :: q → ∃ C T N, pCl[ci]? = some (C, T, N) ∧ k < N ∧ (T k).1 = C ∧ Cond.fieldLink M.1.cls idx C (T k).2.1 (T k).2.2.1 ∈ lw_gd) (hd : decode M.2.1 pc = .ok (.getfield idx, 3)) (h : aO_p (a_T p l e R s m args below meth c QQ M.2.2.1 B N0 S0 g D (pc + 3)) (a_T p l e R s m args below meth c QQ M.2.2.1 B N0 S0 g D) RT CL (nx pD pY E M (pc, .getfield idx, 3, as, z) L st w)) : a_T p l e R s m args below meth c QQ M.2.2.1 B N0 S0 g D pc L st w := by
  obtain ⟨hx, hb, hml, hr, hown, hts, hlocks, hKK, hR, hnm, hB⟩ := C
  simp only [nx] at h
  split at h
  · rename_i ci k q a r
    obtain ⟨C, T, N, h1, h2, h3, h4⟩ := hi _ _ _ rfl
    split at h
    · rename_i c1 fs hw
      split at h
      · rename_i hcc
        subst hcc
        split at h
        · rename_i v hv
          intro ls H locs cells slots hl hH hS hc hs hc2 hs2
          refine va_get (D := D) (cl := pCl) (tys := a_tys g) (C := C) (T := T) (N := N) hx hb hts (fun q hq => aws_in ((cl_all _ _ _ _ h1).1 q hq)) hown hKK.1 hH a (a_W_at hw) h1 k h2 (hts _ (aws_in h4)) (fun x hx1 => by rw [h3] at hx1; exact hx1) (aF_map hv) hd ?_
          exact h ls H locs cells slots hl hH hS hc hs hc2 hs2
        · exact h.elim
      · exact h.elim
    · exact h.elim
  · exact h.elim
theorem sd_putfield (C : a_X p l e R s m args below meth c d M B N0 g D) {idx : Nat} (hi : ∀ ci k q, as = ci :: k :: q → ∃ C T N, pCl[ci]? = some (C, T, N) ∧ k < N ∧ (T k).1 = C ∧ Cond.fieldLink M.1.cls idx C (T k).2.1 (T k).2.2.1 ∈ lw_gd ∧ ((T k).2.2.2 = false ∨ ((T k).2.2.2 = true ∧ M.1.name = "<init>" ∧ C = M.1.cls))) (hd : decode M.2.1 pc = .ok (.putfield idx, 3)) (h : aO_p (a_T p l e R s m args below meth c QQ M.2.2.1 B N0 S0 g D (pc + 3)) (a_T p l e R s m args below meth c QQ M.2.2.1 B N0 S0 g D) RT CL (nx pD pY E M (pc, .putfield idx, 3, as, z) L st w)) : a_T p l e R s m args below meth c QQ M.2.2.1 B N0 S0 g D pc L st w := by
  obtain ⟨hx, hb, hml, hr, hown, hts, hlocks, hKK, hR, hnm, hB⟩ := C
  simp only [nx] at h
  split at h
  · rename_i ci k q v a r
    obtain ⟨C, T, N, h1, h2, h3, h4, h5⟩ := hi _ _ _ rfl
    split at h
    · rename_i c1 fs hw
      split at h
      · rename_i hcc
        obtain ⟨hcc, hkl, hok⟩ := hcc
        subst hcc
        obtain ⟨g1, g2, g3, g4, g5, g6, g7⟩ := cl_all _ _ _ _ h1
        have hf := aF_fit (B := B) hok
        intro ls H locs cells slots hl hH hS hc hs hc2 hs2
        have key : ∀ (H1 : Heap) (locs1 : List Loc), va_P D pCl ((a_W B g w).set a (B + a, .inr (c1, (fs.map (a_v B)).set k (a_v B v)))) H1 → va_S (fun q => B ≤ q) s.heap H1 locs1 → W p l e R s m args below meth c H1 locs1 cells slots QQ (F0 m (pc + 3) ls (r.map (a_v B))) := by
          intro H1 locs1 q1 q3
          have e1 : (.inr (c1, (fs.map (a_v B)).set k (a_v B v)) : va_E) = a_E B g (.inr (c1, fs.set k v)) := by simp [a_E, List.map_set]
          rw [e1, a_W_set] at q1
          refine h ls H1 locs1 cells slots hl q1 q3 ?_ ?_ hc2 hs2
          · simp only [List.length_set]; exact hc
          · rw [a_s_set hw (by simp [aC_n])]; exact hs
        rcases h5 with h5 | ⟨h5, h6, h7⟩
        · refine va_put (D := D) (cl := pCl) (tys := a_tys g) (C := C) (T := T) (N := N) (ty := pY c1 k) hx hb hts (fun q hq => aws_in (g1 q hq)) (pY c1) g2 g3 hown hKK.1 hH a_W_D hS a (a_W_at hw) h1 k h2 (hts _ (aws_in h4)) (fun x hx1 => by rw [h3] at hx1; exact hx1) h5 (g2 k h2) hf.1 hf.2 (by simpa using hkl) hd (fun H1 locs1 q1 q2 q3 => key H1 locs1 q1 q3)
        · refine va_putF (D := D) (cl := pCl) (tys := a_tys g) (C := C) (T := T) (N := N) (ty := pY c1 k) hx hb hts (fun q hq => aws_in (g1 q hq)) (pY c1) g2 g3 hown hKK.1 hH a_W_D hS a (a_W_at hw) h1 k h2 (hts _ (aws_in h4)) (fun x hx1 => by rw [h3] at hx1; exact hx1) h5 (hnm.trans h6) (h3.trans h7) (g2 k h2) hf.1 hf.2 (by simpa using hkl) hd (fun H1 locs1 q1 q2 q3 => key H1 locs1 q1 q3)
      · exact h.elim
    · exact h.elim
  · exact h.elim
theorem sd_iaload (C : a_X p l e R s m args below meth c d M B N0 g D) (hd : decode M.2.1 pc = .ok (.iaload, 1)) (h : aO_p (a_T p l e R s m args below meth c QQ M.2.2.1 B N0 S0 g D (pc + 1)) (a_T p l e R s m args below meth c QQ M.2.2.1 B N0 S0 g D) RT CL (nx pD pY E M (pc, .iaload, 1, as, z) L st w)) : a_T p l e R s m args below meth c QQ M.2.2.1 B N0 S0 g D pc L st w := by
  obtain ⟨hx, hb, hml, hr, hown, hts, hlocks, hKK, hR, hnm, hB⟩ := C
  simp only [nx] at h
  split at h
  · rename_i j a r
    split at h
    · rename_i n f hw
      split at h
      · exact h.elim
      · rename_i hin
        intro ls H locs cells slots hl hH hS hc hs hc2 hs2
        refine va_iald (D := D) (cl := pCl) (tys := a_tys g) (n := n) (f := f) hx hb hKK.1 hH a 0 (a_W_at hw) a_tys_int hin hd ?_
        exact h ls H locs cells slots hl hH hS hc hs hc2 hs2
    · exact h.elim
  · exact h.elim
theorem sd_baload (C : a_X p l e R s m args below meth c d M B N0 g D) (hd : decode M.2.1 pc = .ok (.baload, 1)) (h : aO_p (a_T p l e R s m args below meth c QQ M.2.2.1 B N0 S0 g D (pc + 1)) (a_T p l e R s m args below meth c QQ M.2.2.1 B N0 S0 g D) RT CL (nx pD pY E M (pc, .baload, 1, as, z) L st w)) : a_T p l e R s m args below meth c QQ M.2.2.1 B N0 S0 g D pc L st w := by
  obtain ⟨hx, hb, hml, hr, hown, hts, hlocks, hKK, hR, hnm, hB⟩ := C
  simp only [nx] at h
  split at h
  · rename_i j a r
    split at h
    · rename_i n f hw
      split at h
      · exact h.elim
      · rename_i hin
        intro ls H locs cells slots hl hH hS hc hs hc2 hs2
        refine va_zald (D := D) (cl := pCl) (tys := a_tys g) (n := n) (f := f) hx hb hKK.1 hH a 2 (a_W_at hw) a_tys_bool hin hd ?_
        exact h ls H locs cells slots hl hH hS hc hs hc2 hs2
    · exact h.elim
  · exact h.elim
theorem sd_laload (C : a_X p l e R s m args below meth c d M B N0 g D) (hd : decode M.2.1 pc = .ok (.laload, 1)) (h : aO_p (a_T p l e R s m args below meth c QQ M.2.2.1 B N0 S0 g D (pc + 1)) (a_T p l e R s m args below meth c QQ M.2.2.1 B N0 S0 g D) RT CL (nx pD pY E M (pc, .laload, 1, as, z) L st w)) : a_T p l e R s m args below meth c QQ M.2.2.1 B N0 S0 g D pc L st w := by
  obtain ⟨hx, hb, hml, hr, hown, hts, hlocks, hKK, hR, hnm, hB⟩ := C
  simp only [nx] at h
  split at h
  · rename_i j a r
    split at h
    · rename_i n f hw
      split at h
      · exact h.elim
      · rename_i hin
        intro ls H locs cells slots hl hH hS hc hs hc2 hs2
        refine va_lald (D := D) (cl := pCl) (tys := a_tys g) (n := n) (f := f) hx hb hKK.1 hH a 1 (a_W_at hw) a_tys_long hin hd ?_
        exact h ls H locs cells slots hl hH hS hc hs hc2 hs2
    · exact h.elim
  · exact h.elim
theorem sd_iastore (C : a_X p l e R s m args below meth c d M B N0 g D) (hd : decode M.2.1 pc = .ok (.iastore, 1)) (h : aO_p (a_T p l e R s m args below meth c QQ M.2.2.1 B N0 S0 g D (pc + 1)) (a_T p l e R s m args below meth c QQ M.2.2.1 B N0 S0 g D) RT CL (nx pD pY E M (pc, .iastore, 1, as, z) L st w)) : a_T p l e R s m args below meth c QQ M.2.2.1 B N0 S0 g D pc L st w := by
  obtain ⟨hx, hb, hml, hr, hown, hts, hlocks, hKK, hR, hnm, hB⟩ := C
  simp only [nx] at h
  split at h
  · rename_i x j a r
    split at h
    · rename_i n f hw
      split at h
      · exact h.elim
      · rename_i hin
        intro ls H locs cells slots hl hH hS hc hs hc2 hs2
        refine va_iast (D := D) (cl := pCl) (tys := a_tys g) (n := n) (f := f) hx hb hKK.1 hH a_W_D hS a 0 (a_W_at hw) a_tys_int hin hd (fun H1 locs1 q1 q2 q3 => ?_)
        have q1 : va_P D pCl ((a_W B g w).set a (B + a, a_E B g (.inl (.int, n, .inl (upd f j.toNatClampNeg x))))) H1 := q1
        rw [a_W_set] at q1
        exact h ls H1 locs1 cells slots hl q1 q3 (by simp only [List.length_set]; exact hc) ((a_s_set hw (by rfl)).trans hs) hc2 hs2
    · exact h.elim
  · exact h.elim
theorem sd_bastore (C : a_X p l e R s m args below meth c d M B N0 g D) (hd : decode M.2.1 pc = .ok (.bastore, 1)) (h : aO_p (a_T p l e R s m args below meth c QQ M.2.2.1 B N0 S0 g D (pc + 1)) (a_T p l e R s m args below meth c QQ M.2.2.1 B N0 S0 g D) RT CL (nx pD pY E M (pc, .bastore, 1, as, z) L st w)) : a_T p l e R s m args below meth c QQ M.2.2.1 B N0 S0 g D pc L st w := by
  obtain ⟨hx, hb, hml, hr, hown, hts, hlocks, hKK, hR, hnm, hB⟩ := C
  simp only [nx] at h
  split at h
  · rename_i x j a r
    split at h
    · rename_i n f hw
      split at h
      · exact h.elim
      · rename_i hin
        intro ls H locs cells slots hl hH hS hc hs hc2 hs2
        refine va_zast (D := D) (cl := pCl) (tys := a_tys g) (n := n) (f := f) hx hb hKK.1 hH a_W_D hS a 2 (a_W_at hw) a_tys_bool hin hd (fun H1 locs1 q1 q2 q3 => ?_)
        have q1 : va_P D pCl ((a_W B g w).set a (B + a, a_E B g (.inl (.boolean, n, .inl (upd f j.toNatClampNeg (aV_b x)))))) H1 := q1
        rw [a_W_set] at q1
        exact h ls H1 locs1 cells slots hl q1 q3 (by simp only [List.length_set]; exact hc) ((a_s_set hw (by rfl)).trans hs) hc2 hs2
    · exact h.elim
  · exact h.elim
theorem sd_lastore (C : a_X p l e R s m args below meth c d M B N0 g D) (hd : decode M.2.1 pc = .ok (.lastore, 1)) (h : aO_p (a_T p l e R s m args below meth c QQ M.2.2.1 B N0 S0 g D (pc + 1)) (a_T p l e R s m args below meth c QQ M.2.2.1 B N0 S0 g D) RT CL (nx pD pY E M (pc, .lastore, 1, as, z) L st w)) : a_T p l e R s m args below meth c QQ M.2.2.1 B N0 S0 g D pc L st w := by
  obtain ⟨hx, hb, hml, hr, hown, hts, hlocks, hKK, hR, hnm, hB⟩ := C
  simp only [nx] at h
  split at h
  · rename_i x j a r
    split at h
    · rename_i n f hw
      split at h
      · exact h.elim
      · rename_i hin
        intro ls H locs cells slots hl hH hS hc hs hc2 hs2
        refine va_last (D := D) (cl := pCl) (tys := a_tys g) (n := n) (f := f) hx hb hKK.1 hH a_W_D hS a 1 (a_W_at hw) a_tys_long hin hd (fun H1 locs1 q1 q2 q3 => ?_)
        have q1 : va_P D pCl ((a_W B g w).set a (B + a, a_E B g (.inl (.long, n, .inr (.inl (vp_updL f j.toNatClampNeg x)))))) H1 := q1
        rw [a_W_set] at q1
        exact h ls H1 locs1 cells slots hl q1 q3 (by simp only [List.length_set]; exact hc) ((a_s_set hw (by rfl)).trans hs) hc2 hs2
    · exact h.elim
  · exact h.elim
theorem sd_arraylength (C : a_X p l e R s m args below meth c d M B N0 g D) (hd : decode M.2.1 pc = .ok (.arraylength, 1)) (h : aO_p (a_T p l e R s m args below meth c QQ M.2.2.1 B N0 S0 g D (pc + 1)) (a_T p l e R s m args below meth c QQ M.2.2.1 B N0 S0 g D) RT CL (nx pD pY E M (pc, .arraylength, 1, as, z) L st w)) : a_T p l e R s m args below meth c QQ M.2.2.1 B N0 S0 g D pc L st w := by
  obtain ⟨hx, hb, hml, hr, hown, hts, hlocks, hKK, hR, hnm, hB⟩ := C
  simp only [nx] at h
  split at h
  · rename_i a r
    split at h
    · rename_i n x hw
      intro ls H locs cells slots hl hH hS hc hs hc2 hs2
      refine va_alen (D := D) (cl := pCl) (tys := a_tys g) hx hb hKK.1 hH a 0 (a_W_at hw) a_tys_int rfl hd ?_
      exact h ls H locs cells slots hl hH hS hc hs hc2 hs2
    · rename_i n x hw
      intro ls H locs cells slots hl hH hS hc hs hc2 hs2
      refine va_alen (D := D) (cl := pCl) (tys := a_tys g) hx hb hKK.1 hH a 1 (a_W_at hw) a_tys_long rfl hd ?_
      exact h ls H locs cells slots hl hH hS hc hs hc2 hs2
    · exact h.elim
  · exact h.elim
theorem sd_aaload (C : a_X p l e R s m args below meth c d M B N0 g D) (hd : decode M.2.1 pc = .ok (.aaload, 1)) (h : aO_p (a_T p l e R s m args below meth c QQ M.2.2.1 B N0 S0 g D (pc + 1)) (a_T p l e R s m args below meth c QQ M.2.2.1 B N0 S0 g D) RT CL (nx pD pY E M (pc, .aaload, 1, as, z) L st w)) : a_T p l e R s m args below meth c QQ M.2.2.1 B N0 S0 g D pc L st w := by
  obtain ⟨hx, hb, hml, hr, hown, hts, hlocks, hKK, hR, hnm, hB⟩ := C
  simp only [nx] at h
  split at h
  · rename_i j a r
    split at h
    · rename_i C n f hw
      split at h
      · exact h.elim
      · rename_i hin0
        have hin : vp_in j n := fun q => hin0 (q.elim Or.inl (fun q => Or.inr (Or.inl q)))
        have hC : C = "PairSorts$Table" := Decidable.byContradiction fun q => hin0 (Or.inr (Or.inr q))
        subst hC
        split at h
        · rename_i b hf
          intro ls H locs cells slots hl hH hS hc hs hc2 hs2
          have hA : (a_W B g w)[a]? = some (B + a, .inl (g (.object "PairSorts$Table"), n, .inr (.inr (.inr (.inr fun j => (f j).map (B + ·)))))) := a_W_at hw
          refine va_aldq (D := D) (cl := pCl) (tys := a_tys g) (C := "PairSorts$Table") (n := n) (f := fun j => (f j).map (B + ·)) hx hb hKK.1 hH a 3 hA a_tys_tab hin hd ?_
          rw [hf]
          exact h ls H locs cells slots hl hH hS hc hs hc2 hs2
        · exact h.elim
    · exact h.elim
  · exact h.elim
theorem sd_aastore (C : a_X p l e R s m args below meth c d M B N0 g D) (hi : ∀ ci, as = [ci] → ∃ T N, pCl[ci]? = some ("PairSorts$Table", T, N)) (hd : decode M.2.1 pc = .ok (.aastore, 1)) (h : aO_p (a_T p l e R s m args below meth c QQ M.2.2.1 B N0 S0 g D (pc + 1)) (a_T p l e R s m args below meth c QQ M.2.2.1 B N0 S0 g D) RT CL (nx pD pY E M (pc, .aastore, 1, as, z) L st w)) : a_T p l e R s m args below meth c QQ M.2.2.1 B N0 S0 g D pc L st w := by
  obtain ⟨hx, hb, hml, hr, hown, hts, hlocks, hKK, hR, hnm, hB⟩ := C
  simp only [nx] at h
  split at h
  · rename_i ci b j a r
    obtain ⟨T, N, h1⟩ := hi _ rfl
    split at h
    · rename_i C n f c1 fs hw hv
      split at h
      · exact h.elim
      · rename_i hin
        have hin1 : vp_in j n := fun q => hin (q.elim Or.inl (fun q => Or.inr (Or.inl q)))
        have hcc : c1 = ci := Decidable.byContradiction fun q => hin (Or.inr (Or.inr (Or.inl q)))
        have hC : C = "PairSorts$Table" := Decidable.byContradiction fun q => hin (Or.inr (Or.inr (Or.inr q)))
        subst hcc
        subst hC
        intro ls H locs cells slots hl hH hS hc hs hc2 hs2
        have hA : (a_W B g w)[a]? = some (B + a, .inl (g (.object "PairSorts$Table"), n, .inr (.inr (.inr (.inr fun j => (f j).map (B + ·)))))) := a_W_at hw
        have hV : (a_W B g w)[b]? = some (B + b, .inr (c1, fs.map (a_v B))) := a_W_at hv
        refine va_astq (D := D) (cl := pCl) (tys := a_tys g) (r := ("PairSorts$Table", T, N)) hx hb hKK.1 hH a_W_D hS a 3 b c1 hA a_tys_tab hV h1 hin1 hd (fun H1 locs1 q1 q2 q3 => ?_)
        have e1 : (va_up (fun j => (f j).map (B + ·)) j.toNatClampNeg (some (B + b))) = fun k => (va_up f j.toNatClampNeg (some b) k).map (B + ·) := by
          funext k
          unfold va_up
          split <;> rfl
        rw [e1] at q1
        have q1 : va_P D pCl ((a_W B g w).set a (B + a, a_E B g (.inl (.object "PairSorts$Table", n, .inr (.inr (.inr (.inr (va_up f j.toNatClampNeg (some b))))))))) H1 := q1
        rw [a_W_set] at q1
        exact h ls H1 locs1 cells slots hl q1 q3 (by simp only [List.length_set]; exact hc) ((a_s_set hw (by rfl)).trans hs) hc2 hs2
    · exact h.elim
  · exact h.elim
end SND
