/-! ===== WHAT HOLDS WHILE A METHOD RUNS, and each instruction (written by gen_sound.py) ===== -/
def aws (M : aM) : List Cond := Cond.code M.1 M.2.1 M.2.2.1 M.2.2.2.1 :: lw_gd
def a_ty : List FieldType := [.int, .long, .boolean, .object "PairSorts$Table"]
def a_tys (g : FieldType → ClassId) : List (ClassId × FieldType) := a_ty.map (fun t => (g t, t))
def a_nest : List (String × Nat × MethodName × String) := [("PairSorts", 9, ⟨"PairSorts$Scheme", "<init>", "()V"⟩, "PairSorts"), ("PairSorts", 36, ⟨"PairSorts$Maker", "<init>", "()V"⟩, "PairSorts"), ("PairSorts", 43, ⟨"PairSorts$Characters", "<init>", "()V"⟩, "PairSorts"), ("PairSorts", 50, ⟨"PairSorts$Orders", "<init>", "()V"⟩, "PairSorts"), ("PairSorts", 60, ⟨"PairSorts$Fusions", "<init>", "()V"⟩, "PairSorts"), ("PairSorts$Fusions", 20, ⟨"PairSorts$Scheme", "<init>", "()V"⟩, "PairSorts"), ("PairSorts", 67, ⟨"PairSorts$Codes", "<init>", "()V"⟩, "PairSorts"), ("PairSorts", 74, ⟨"PairSorts$Simplex", "<init>", "()V"⟩, "PairSorts"), ("PairSorts", 81, ⟨"PairSorts$Text", "<init>", "()V"⟩, "PairSorts")]
def a_K (g : FieldType → ClassId) (D : va_G) (U : State) : Prop := va_K D pCl (a_tys g) U ∧ va_AO "PairSorts$Table" U ∧ ∀ q ∈ a_nest, va_Nw (.methodLinkNest q.1 q.2.1 q.2.2.1 q.2.2.2) U
def a_R (d : Nat) (M : aM) : Room := { frames := d, cells := M.2.2.2.2.1.1, slots := M.2.2.2.2.1.2, locals := 40 * d }
def a_X (p : Program) (l : Launch) (e : Env) (R : Room) (s : State) (m : MethodId) (args : Array Value) (below : List Frame) (meth : Method) (c : Code) (d : Nat) (M : aM) (B N0 : Nat) (g : FieldType → ClassId) (D : va_G) : Prop :=
  p.tables.exec = Jvm.exec ∧ c.code = M.2.1 ∧ c.maxLocals = M.2.2.1 ∧ meth.sig.returnType = M.2.2.2.1 ∧ s.vm.findClass M.1.cls = some m.cls ∧ (∀ w ∈ aws M, w.before args s = true) ∧ meth.locks = false ∧ a_K g D s ∧ R = a_R (d + 1) M ∧ meth.name = M.1.name ∧ s.heap.size = B + N0
def a_T (p : Program) (l : Launch) (e : Env) (R : Room) (s : State) (m : MethodId) (args : Array Value) (below : List Frame) (meth : Method) (c : Code) (QQ : State → Prop) (nL B N0 S0 : Nat) (g : FieldType → ClassId) (D : va_G) (pc : Nat) (L st : List Value) (w : aW) : Prop :=
  ∀ (ls : Array Slot) (H : Heap) (locs : List Loc) (cells slots : Nat), a_LR B ls nL L → a_H D B g w H → va_S (fun q => B ≤ q) s.heap H locs → w.length = N0 + cells → aW_s w = S0 + slots → cells ≤ R.cells → slots ≤ R.slots → W p l e R s m args below meth c H locs cells slots QQ (F0 m pc ls (st.map (a_v B)))
def aO_p (T : List Value → List Value → aW → Prop) (go : Nat → List Value → List Value → aW → Prop) (RT : Option Value → aW → Prop) (CL : Nat → List Value → List Value → Prop) : Option aO → Prop
  | none => False
  | some (.inl q) => T q.1 q.2.1 q.2.2
  | some (.inr (.inl q)) => go q.1 q.2.1 q.2.2.1 q.2.2.2
  | some (.inr (.inr (.inl q))) => RT q.1 q.2
  | some (.inr (.inr (.inr q))) => CL q.1 q.2.1 q.2.2
def a_Qc (D : va_G) (B : Nat) (g : FieldType → ClassId) (Q : Option Value → aW → Prop) (N1 S1 : Nat) : Array Value → State → Outcome → State → Prop := fun _ st oc t => ∃ (r : Option Value) (w' : aW), oc = .returned (r.map (a_v B)) ∧ Q r w' ∧ a_H D B g w' t.heap ∧ w'.length = N1 ∧ aW_s w' = S1 ∧ va_F (fun q => B ≤ q) st t
def a_Pc (D : va_G) (B : Nat) (g : FieldType → ClassId) (as : List Value) (w : aW) : Array Value → State → Prop := va_Pc (as.map (a_v B)) (fun U => U.heap.size = B + w.length ∧ a_H D B g w U.heap ∧ a_K g D U)
def a_Met (l : Launch) (D : va_G) (B : Nat) (g : FieldType → ClassId) (d : Nat) (M : aM) (as : List Value) (w : aW) (Q : Option Value → aW → Prop) : Prop :=
  Met l M.1 (aws M) (a_R d M) (a_Pc D B g as w) (a_Qc D B g Q (w.length + M.2.2.2.2.1.1) (aW_s w + M.2.2.2.2.1.2)) M.2.2.2.2.1.1 M.2.2.2.2.1.2 (fun q => B ≤ q)
theorem a_K.warm {g : FieldType → ClassId} {D : va_G} {s U : State} (h : a_K g D s) (hW : s.WarmedH U.vm) : a_K g D U := ⟨va_K.moved hW.alike h.1, va_AO.moved hW.alike h.2.1, fun q hq => va_Nw.warmM hW (h.2.2 q hq)⟩
theorem a_K.same {g : FieldType → ClassId} {D : va_G} {s U : State} (h : a_K g D s) (hv : s.vm = U.vm) : a_K g D U := ⟨va_K.moved (by rw [hv]; exact Vm.Alike.refl U.vm) h.1, va_AO.moved (by rw [hv]; exact Vm.Alike.refl U.vm) h.2.1, fun q hq => va_Nw.same rfl hv (h.2.2 q hq)⟩
theorem a_blind (D : va_G) (B : Nat) (g : FieldType → ClassId) (as : List Value) (w : aW) : FrameBlind (a_Pc D B g as w) := fun a U gf mk h => ⟨h.1, h.2.1, h.2.2.1, a_K.same h.2.2.2 rfl⟩
theorem lrem_eq_mod (x y : Int64) : x - (x / y) * y = x % y := by
  apply Int64.toInt_inj.mp
  have h1 := Int64.le_toInt (x % y)
  have h2 := Int64.toInt_lt (x % y)
  rw [Int64.toInt_sub, Int64.toInt_mul, Int64.toInt_div, Int.bmod_mul_bmod, Int.sub_bmod_bmod, Int.mul_comm (x.toInt.tdiv y.toInt), ← Int.tmod_def, ← Int64.toInt_mod]
  exact Int.bmod_eq_of_le_mul_two (by omega) (by omega)
section SND
variable {p : Program} {l : Launch} {e : Env} {R : Room} {s : State} {m : MethodId} {args : Array Value} {below : List Frame} {meth : Method} {c : Code} {QQ : State → Prop} {d B N0 S0 : Nat} {g : FieldType → ClassId} {D : va_G} {M : aM} {E : Nat × Nat}
variable {pc : Nat} {L st : List Value} {w : aW} {as : List Nat} {z : Int} {RT : Option Value → aW → Prop} {CL : Nat → List Value → List Value → Prop}
theorem sd_iload (C : a_X p l e R s m args below meth c d M B N0 g D) {k : Nat} (hd : decode M.2.1 pc = .ok (.iload k, 2)) (h : aO_p (a_T p l e R s m args below meth c QQ M.2.2.1 B N0 S0 g D (pc + 2)) (a_T p l e R s m args below meth c QQ M.2.2.1 B N0 S0 g D) RT CL (nx pD pY E M (pc, .iload k, 2, as, z) L st w)) : a_T p l e R s m args below meth c QQ M.2.2.1 B N0 S0 g D pc L st w := by
  obtain ⟨hx, hb, hml, hr, hown, hts, hlocks, hKK, hR, hnm, hB⟩ := C
  simp only [nx] at h
  split at h
  · rename_i x hv
    intro ls H locs cells slots hl hH hS hc hs hc2 hs2
    have hq := hl.at hv (fun q => by cases q)
    refine lv_iload hx hb hd hq ?_
    exact h ls H locs cells slots hl hH hS hc hs hc2 hs2
  · exact h.elim
theorem sd_iload_n (C : a_X p l e R s m args below meth c d M B N0 g D) {k : Fin 4} (hd : decode M.2.1 pc = .ok (.iload_n k, 1)) (h : aO_p (a_T p l e R s m args below meth c QQ M.2.2.1 B N0 S0 g D (pc + 1)) (a_T p l e R s m args below meth c QQ M.2.2.1 B N0 S0 g D) RT CL (nx pD pY E M (pc, .iload_n k, 1, as, z) L st w)) : a_T p l e R s m args below meth c QQ M.2.2.1 B N0 S0 g D pc L st w := by
  obtain ⟨hx, hb, hml, hr, hown, hts, hlocks, hKK, hR, hnm, hB⟩ := C
  simp only [nx] at h
  split at h
  · rename_i x hv
    intro ls H locs cells slots hl hH hS hc hs hc2 hs2
    have hq := hl.at hv (fun q => by cases q)
    refine lv_iload_n hx hb hd rfl hq ?_
    exact h ls H locs cells slots hl hH hS hc hs hc2 hs2
  · exact h.elim
theorem sd_lload (C : a_X p l e R s m args below meth c d M B N0 g D) {k : Nat} (hd : decode M.2.1 pc = .ok (.lload k, 2)) (h : aO_p (a_T p l e R s m args below meth c QQ M.2.2.1 B N0 S0 g D (pc + 2)) (a_T p l e R s m args below meth c QQ M.2.2.1 B N0 S0 g D) RT CL (nx pD pY E M (pc, .lload k, 2, as, z) L st w)) : a_T p l e R s m args below meth c QQ M.2.2.1 B N0 S0 g D pc L st w := by
  obtain ⟨hx, hb, hml, hr, hown, hts, hlocks, hKK, hR, hnm, hB⟩ := C
  simp only [nx] at h
  split at h
  · rename_i x hv
    intro ls H locs cells slots hl hH hS hc hs hc2 hs2
    have hq := hl.at hv (fun q => by cases q)
    refine lv_lload hx hb hd hq ?_
    exact h ls H locs cells slots hl hH hS hc hs hc2 hs2
  · exact h.elim
theorem sd_lload_n (C : a_X p l e R s m args below meth c d M B N0 g D) {k : Fin 4} (hd : decode M.2.1 pc = .ok (.lload_n k, 1)) (h : aO_p (a_T p l e R s m args below meth c QQ M.2.2.1 B N0 S0 g D (pc + 1)) (a_T p l e R s m args below meth c QQ M.2.2.1 B N0 S0 g D) RT CL (nx pD pY E M (pc, .lload_n k, 1, as, z) L st w)) : a_T p l e R s m args below meth c QQ M.2.2.1 B N0 S0 g D pc L st w := by
  obtain ⟨hx, hb, hml, hr, hown, hts, hlocks, hKK, hR, hnm, hB⟩ := C
  simp only [nx] at h
  split at h
  · rename_i x hv
    intro ls H locs cells slots hl hH hS hc hs hc2 hs2
    have hq := hl.at hv (fun q => by cases q)
    refine lv_lload_n hx hb hd rfl hq ?_
    exact h ls H locs cells slots hl hH hS hc hs hc2 hs2
  · exact h.elim
theorem sd_aload (C : a_X p l e R s m args below meth c d M B N0 g D) {k : Nat} (hd : decode M.2.1 pc = .ok (.aload k, 2)) (h : aO_p (a_T p l e R s m args below meth c QQ M.2.2.1 B N0 S0 g D (pc + 2)) (a_T p l e R s m args below meth c QQ M.2.2.1 B N0 S0 g D) RT CL (nx pD pY E M (pc, .aload k, 2, as, z) L st w)) : a_T p l e R s m args below meth c QQ M.2.2.1 B N0 S0 g D pc L st w := by
  obtain ⟨hx, hb, hml, hr, hown, hts, hlocks, hKK, hR, hnm, hB⟩ := C
  simp only [nx] at h
  split at h
  · rename_i x hv
    intro ls H locs cells slots hl hH hS hc hs hc2 hs2
    have hq := hl.at hv (fun q => by cases q)
    refine lv_aload hx hb hd hq ?_
    exact h ls H locs cells slots hl hH hS hc hs hc2 hs2
  · exact h.elim
theorem sd_aload_n (C : a_X p l e R s m args below meth c d M B N0 g D) {k : Fin 4} (hd : decode M.2.1 pc = .ok (.aload_n k, 1)) (h : aO_p (a_T p l e R s m args below meth c QQ M.2.2.1 B N0 S0 g D (pc + 1)) (a_T p l e R s m args below meth c QQ M.2.2.1 B N0 S0 g D) RT CL (nx pD pY E M (pc, .aload_n k, 1, as, z) L st w)) : a_T p l e R s m args below meth c QQ M.2.2.1 B N0 S0 g D pc L st w := by
  obtain ⟨hx, hb, hml, hr, hown, hts, hlocks, hKK, hR, hnm, hB⟩ := C
  simp only [nx] at h
  split at h
  · rename_i x hv
    intro ls H locs cells slots hl hH hS hc hs hc2 hs2
    have hq := hl.at hv (fun q => by cases q)
    refine lv_aload_n hx hb hd rfl hq ?_
    exact h ls H locs cells slots hl hH hS hc hs hc2 hs2
  · exact h.elim
theorem sd_istore (C : a_X p l e R s m args below meth c d M B N0 g D) {k : Nat} (hk : k < M.2.2.1) (hd : decode M.2.1 pc = .ok (.istore k, 2)) (h : aO_p (a_T p l e R s m args below meth c QQ M.2.2.1 B N0 S0 g D (pc + 2)) (a_T p l e R s m args below meth c QQ M.2.2.1 B N0 S0 g D) RT CL (nx pD pY E M (pc, .istore k, 2, as, z) L st w)) : a_T p l e R s m args below meth c QQ M.2.2.1 B N0 S0 g D pc L st w := by
  obtain ⟨hx, hb, hml, hr, hown, hts, hlocks, hKK, hR, hnm, hB⟩ := C
  simp only [nx] at h
  split at h
  · rename_i x r
    intro ls H locs cells slots hl hH hS hc hs hc2 hs2
    refine lv_istore hx hb hd hl.has hk rfl (fun ls2 hl2 => ?_)
    exact h ls2 H locs cells slots (hl.st1 (v := .int x) hl2) hH hS hc hs hc2 hs2
  · exact h.elim
theorem sd_istore_n (C : a_X p l e R s m args below meth c d M B N0 g D) {k : Fin 4} (hk : k.val < M.2.2.1) (hd : decode M.2.1 pc = .ok (.istore_n k, 1)) (h : aO_p (a_T p l e R s m args below meth c QQ M.2.2.1 B N0 S0 g D (pc + 1)) (a_T p l e R s m args below meth c QQ M.2.2.1 B N0 S0 g D) RT CL (nx pD pY E M (pc, .istore_n k, 1, as, z) L st w)) : a_T p l e R s m args below meth c QQ M.2.2.1 B N0 S0 g D pc L st w := by
  obtain ⟨hx, hb, hml, hr, hown, hts, hlocks, hKK, hR, hnm, hB⟩ := C
  simp only [nx] at h
  split at h
  · rename_i x r
    intro ls H locs cells slots hl hH hS hc hs hc2 hs2
    refine lv_istore_n hx hb hd rfl hl.has hk rfl (fun ls2 hl2 => ?_)
    exact h ls2 H locs cells slots (hl.st1 (v := .int x) hl2) hH hS hc hs hc2 hs2
  · exact h.elim
theorem sd_lstore (C : a_X p l e R s m args below meth c d M B N0 g D) {k : Nat} (hk : k + 1 < M.2.2.1) (hd : decode M.2.1 pc = .ok (.lstore k, 2)) (h : aO_p (a_T p l e R s m args below meth c QQ M.2.2.1 B N0 S0 g D (pc + 2)) (a_T p l e R s m args below meth c QQ M.2.2.1 B N0 S0 g D) RT CL (nx pD pY E M (pc, .lstore k, 2, as, z) L st w)) : a_T p l e R s m args below meth c QQ M.2.2.1 B N0 S0 g D pc L st w := by
  obtain ⟨hx, hb, hml, hr, hown, hts, hlocks, hKK, hR, hnm, hB⟩ := C
  simp only [nx] at h
  split at h
  · rename_i x r
    intro ls H locs cells slots hl hH hS hc hs hc2 hs2
    refine lv_lstore hx hb hd hl.has hk rfl (fun ls2 hl2 => ?_)
    exact h ls2 H locs cells slots (hl.st2 (v := .long x) hl2) hH hS hc hs hc2 hs2
  · exact h.elim
theorem sd_lstore_n (C : a_X p l e R s m args below meth c d M B N0 g D) {k : Fin 4} (hk : k.val + 1 < M.2.2.1) (hd : decode M.2.1 pc = .ok (.lstore_n k, 1)) (h : aO_p (a_T p l e R s m args below meth c QQ M.2.2.1 B N0 S0 g D (pc + 1)) (a_T p l e R s m args below meth c QQ M.2.2.1 B N0 S0 g D) RT CL (nx pD pY E M (pc, .lstore_n k, 1, as, z) L st w)) : a_T p l e R s m args below meth c QQ M.2.2.1 B N0 S0 g D pc L st w := by
  obtain ⟨hx, hb, hml, hr, hown, hts, hlocks, hKK, hR, hnm, hB⟩ := C
  simp only [nx] at h
  split at h
  · rename_i x r
    intro ls H locs cells slots hl hH hS hc hs hc2 hs2
    refine lv_lstore_n hx hb hd rfl hl.has hk rfl (fun ls2 hl2 => ?_)
    exact h ls2 H locs cells slots (hl.st2 (v := .long x) hl2) hH hS hc hs hc2 hs2
  · exact h.elim
theorem sd_astore (C : a_X p l e R s m args below meth c d M B N0 g D) {k : Nat} (hk : k < M.2.2.1) (hd : decode M.2.1 pc = .ok (.astore k, 2)) (h : aO_p (a_T p l e R s m args below meth c QQ M.2.2.1 B N0 S0 g D (pc + 2)) (a_T p l e R s m args below meth c QQ M.2.2.1 B N0 S0 g D) RT CL (nx pD pY E M (pc, .astore k, 2, as, z) L st w)) : a_T p l e R s m args below meth c QQ M.2.2.1 B N0 S0 g D pc L st w := by
  obtain ⟨hx, hb, hml, hr, hown, hts, hlocks, hKK, hR, hnm, hB⟩ := C
  simp only [nx] at h
  split at h
  · rename_i x r
    intro ls H locs cells slots hl hH hS hc hs hc2 hs2
    refine lv_astore hx hb hd hl.has hk rfl (fun ls2 hl2 => ?_)
    exact h ls2 H locs cells slots (hl.st1 (v := .ref x) hl2) hH hS hc hs hc2 hs2
  · exact h.elim
theorem sd_astore_n (C : a_X p l e R s m args below meth c d M B N0 g D) {k : Fin 4} (hk : k.val < M.2.2.1) (hd : decode M.2.1 pc = .ok (.astore_n k, 1)) (h : aO_p (a_T p l e R s m args below meth c QQ M.2.2.1 B N0 S0 g D (pc + 1)) (a_T p l e R s m args below meth c QQ M.2.2.1 B N0 S0 g D) RT CL (nx pD pY E M (pc, .astore_n k, 1, as, z) L st w)) : a_T p l e R s m args below meth c QQ M.2.2.1 B N0 S0 g D pc L st w := by
  obtain ⟨hx, hb, hml, hr, hown, hts, hlocks, hKK, hR, hnm, hB⟩ := C
  simp only [nx] at h
  split at h
  · rename_i x r
    intro ls H locs cells slots hl hH hS hc hs hc2 hs2
    refine lv_astore_n hx hb hd rfl hl.has hk rfl (fun ls2 hl2 => ?_)
    exact h ls2 H locs cells slots (hl.st1 (v := .ref x) hl2) hH hS hc hs hc2 hs2
  · exact h.elim
theorem sd_iconst (C : a_X p l e R s m args below meth c d M B N0 g D) {n : Int} (hd : decode M.2.1 pc = .ok (.iconst n, 1)) (h : aO_p (a_T p l e R s m args below meth c QQ M.2.2.1 B N0 S0 g D (pc + 1)) (a_T p l e R s m args below meth c QQ M.2.2.1 B N0 S0 g D) RT CL (nx pD pY E M (pc, .iconst n, 1, as, z) L st w)) : a_T p l e R s m args below meth c QQ M.2.2.1 B N0 S0 g D pc L st w := by
  obtain ⟨hx, hb, hml, hr, hown, hts, hlocks, hKK, hR, hnm, hB⟩ := C
  simp only [nx] at h
  intro ls H locs cells slots hl hH hS hc hs hc2 hs2
  refine lv_iconst hx hb hd rfl ?_
  exact h ls H locs cells slots hl hH hS hc hs hc2 hs2
theorem sd_bipush (C : a_X p l e R s m args below meth c d M B N0 g D) {n : Int} (hn : (Int8.ofInt n).toInt32 = Int32.ofInt n) (hd : decode M.2.1 pc = .ok (.bipush n, 2)) (h : aO_p (a_T p l e R s m args below meth c QQ M.2.2.1 B N0 S0 g D (pc + 2)) (a_T p l e R s m args below meth c QQ M.2.2.1 B N0 S0 g D) RT CL (nx pD pY E M (pc, .bipush n, 2, as, z) L st w)) : a_T p l e R s m args below meth c QQ M.2.2.1 B N0 S0 g D pc L st w := by
  obtain ⟨hx, hb, hml, hr, hown, hts, hlocks, hKK, hR, hnm, hB⟩ := C
  simp only [nx] at h
  intro ls H locs cells slots hl hH hS hc hs hc2 hs2
  refine lv_bipush hx hb hd hn ?_
  exact h ls H locs cells slots hl hH hS hc hs hc2 hs2
theorem sd_sipush (C : a_X p l e R s m args below meth c d M B N0 g D) {n : Int} (hn : (Int16.ofInt n).toInt32 = Int32.ofInt n) (hd : decode M.2.1 pc = .ok (.sipush n, 3)) (h : aO_p (a_T p l e R s m args below meth c QQ M.2.2.1 B N0 S0 g D (pc + 3)) (a_T p l e R s m args below meth c QQ M.2.2.1 B N0 S0 g D) RT CL (nx pD pY E M (pc, .sipush n, 3, as, z) L st w)) : a_T p l e R s m args below meth c QQ M.2.2.1 B N0 S0 g D pc L st w := by
  obtain ⟨hx, hb, hml, hr, hown, hts, hlocks, hKK, hR, hnm, hB⟩ := C
  simp only [nx] at h
  intro ls H locs cells slots hl hH hS hc hs hc2 hs2
  refine lv_sipush hx hb hd hn ?_
  exact h ls H locs cells slots hl hH hS hc hs hc2 hs2
theorem sd_lconst (C : a_X p l e R s m args below meth c d M B N0 g D) {n : Fin 2} (hd : decode M.2.1 pc = .ok (.lconst n, 1)) (h : aO_p (a_T p l e R s m args below meth c QQ M.2.2.1 B N0 S0 g D (pc + 1)) (a_T p l e R s m args below meth c QQ M.2.2.1 B N0 S0 g D) RT CL (nx pD pY E M (pc, .lconst n, 1, as, z) L st w)) : a_T p l e R s m args below meth c QQ M.2.2.1 B N0 S0 g D pc L st w := by
  obtain ⟨hx, hb, hml, hr, hown, hts, hlocks, hKK, hR, hnm, hB⟩ := C
  simp only [nx] at h
  intro ls H locs cells slots hl hH hS hc hs hc2 hs2
  refine lv_lconst hx hb hd rfl ?_
  exact h ls H locs cells slots hl hH hS hc hs hc2 hs2
theorem sd_ldc_w (C : a_X p l e R s m args below meth c d M B N0 g D) {n : Nat} (hn : Cond.constant M.1.cls n (Int32.ofInt z) ∈ aws M) (hd : decode M.2.1 pc = .ok (.ldc_w n, 3)) (h : aO_p (a_T p l e R s m args below meth c QQ M.2.2.1 B N0 S0 g D (pc + 3)) (a_T p l e R s m args below meth c QQ M.2.2.1 B N0 S0 g D) RT CL (nx pD pY E M (pc, .ldc_w n, 3, as, z) L st w)) : a_T p l e R s m args below meth c QQ M.2.2.1 B N0 S0 g D pc L st w := by
  obtain ⟨hx, hb, hml, hr, hown, hts, hlocks, hKK, hR, hnm, hB⟩ := C
  simp only [nx] at h
  intro ls H locs cells slots hl hH hS hc hs hc2 hs2
  refine lv_ldcw hx hb hown (hts _ hn) hd ?_
  exact h ls H locs cells slots hl hH hS hc hs hc2 hs2
theorem sd_ldc2_w (C : a_X p l e R s m args below meth c d M B N0 g D) {n : Nat} (hn : Cond.constantLong M.1.cls n (Int64.ofInt z) ∈ aws M) (hd : decode M.2.1 pc = .ok (.ldc2_w n, 3)) (h : aO_p (a_T p l e R s m args below meth c QQ M.2.2.1 B N0 S0 g D (pc + 3)) (a_T p l e R s m args below meth c QQ M.2.2.1 B N0 S0 g D) RT CL (nx pD pY E M (pc, .ldc2_w n, 3, as, z) L st w)) : a_T p l e R s m args below meth c QQ M.2.2.1 B N0 S0 g D pc L st w := by
  obtain ⟨hx, hb, hml, hr, hown, hts, hlocks, hKK, hR, hnm, hB⟩ := C
  simp only [nx] at h
  intro ls H locs cells slots hl hH hS hc hs hc2 hs2
  refine lv_ldc2 hx hb hown (hts _ hn) hd ?_
  exact h ls H locs cells slots hl hH hS hc hs hc2 hs2
theorem sd_iadd (C : a_X p l e R s m args below meth c d M B N0 g D) (hd : decode M.2.1 pc = .ok (.iadd, 1)) (h : aO_p (a_T p l e R s m args below meth c QQ M.2.2.1 B N0 S0 g D (pc + 1)) (a_T p l e R s m args below meth c QQ M.2.2.1 B N0 S0 g D) RT CL (nx pD pY E M (pc, .iadd, 1, as, z) L st w)) : a_T p l e R s m args below meth c QQ M.2.2.1 B N0 S0 g D pc L st w := by
  obtain ⟨hx, hb, hml, hr, hown, hts, hlocks, hKK, hR, hnm, hB⟩ := C
  simp only [nx] at h
  split at h
  · intro ls H locs cells slots hl hH hS hc hs hc2 hs2
    refine lv_iadd hx hb hd ?_
    exact h ls H locs cells slots hl hH hS hc hs hc2 hs2
  · exact h.elim
theorem sd_isub (C : a_X p l e R s m args below meth c d M B N0 g D) (hd : decode M.2.1 pc = .ok (.isub, 1)) (h : aO_p (a_T p l e R s m args below meth c QQ M.2.2.1 B N0 S0 g D (pc + 1)) (a_T p l e R s m args below meth c QQ M.2.2.1 B N0 S0 g D) RT CL (nx pD pY E M (pc, .isub, 1, as, z) L st w)) : a_T p l e R s m args below meth c QQ M.2.2.1 B N0 S0 g D pc L st w := by
  obtain ⟨hx, hb, hml, hr, hown, hts, hlocks, hKK, hR, hnm, hB⟩ := C
  simp only [nx] at h
  split at h
  · intro ls H locs cells slots hl hH hS hc hs hc2 hs2
    refine lv_isub hx hb hd ?_
    exact h ls H locs cells slots hl hH hS hc hs hc2 hs2
  · exact h.elim
theorem sd_imul (C : a_X p l e R s m args below meth c d M B N0 g D) (hd : decode M.2.1 pc = .ok (.imul, 1)) (h : aO_p (a_T p l e R s m args below meth c QQ M.2.2.1 B N0 S0 g D (pc + 1)) (a_T p l e R s m args below meth c QQ M.2.2.1 B N0 S0 g D) RT CL (nx pD pY E M (pc, .imul, 1, as, z) L st w)) : a_T p l e R s m args below meth c QQ M.2.2.1 B N0 S0 g D pc L st w := by
  obtain ⟨hx, hb, hml, hr, hown, hts, hlocks, hKK, hR, hnm, hB⟩ := C
  simp only [nx] at h
  split at h
  · intro ls H locs cells slots hl hH hS hc hs hc2 hs2
    refine lv_imul hx hb hd ?_
    exact h ls H locs cells slots hl hH hS hc hs hc2 hs2
  · exact h.elim
theorem sd_iand (C : a_X p l e R s m args below meth c d M B N0 g D) (hd : decode M.2.1 pc = .ok (.iand, 1)) (h : aO_p (a_T p l e R s m args below meth c QQ M.2.2.1 B N0 S0 g D (pc + 1)) (a_T p l e R s m args below meth c QQ M.2.2.1 B N0 S0 g D) RT CL (nx pD pY E M (pc, .iand, 1, as, z) L st w)) : a_T p l e R s m args below meth c QQ M.2.2.1 B N0 S0 g D pc L st w := by
  obtain ⟨hx, hb, hml, hr, hown, hts, hlocks, hKK, hR, hnm, hB⟩ := C
  simp only [nx] at h
  split at h
  · intro ls H locs cells slots hl hH hS hc hs hc2 hs2
    refine lv_iand hx hb hd ?_
    exact h ls H locs cells slots hl hH hS hc hs hc2 hs2
  · exact h.elim
theorem sd_ior (C : a_X p l e R s m args below meth c d M B N0 g D) (hd : decode M.2.1 pc = .ok (.ior, 1)) (h : aO_p (a_T p l e R s m args below meth c QQ M.2.2.1 B N0 S0 g D (pc + 1)) (a_T p l e R s m args below meth c QQ M.2.2.1 B N0 S0 g D) RT CL (nx pD pY E M (pc, .ior, 1, as, z) L st w)) : a_T p l e R s m args below meth c QQ M.2.2.1 B N0 S0 g D pc L st w := by
  obtain ⟨hx, hb, hml, hr, hown, hts, hlocks, hKK, hR, hnm, hB⟩ := C
  simp only [nx] at h
  split at h
  · intro ls H locs cells slots hl hH hS hc hs hc2 hs2
    refine lv_ior hx hb hd ?_
    exact h ls H locs cells slots hl hH hS hc hs hc2 hs2
  · exact h.elim
theorem sd_ixor (C : a_X p l e R s m args below meth c d M B N0 g D) (hd : decode M.2.1 pc = .ok (.ixor, 1)) (h : aO_p (a_T p l e R s m args below meth c QQ M.2.2.1 B N0 S0 g D (pc + 1)) (a_T p l e R s m args below meth c QQ M.2.2.1 B N0 S0 g D) RT CL (nx pD pY E M (pc, .ixor, 1, as, z) L st w)) : a_T p l e R s m args below meth c QQ M.2.2.1 B N0 S0 g D pc L st w := by
  obtain ⟨hx, hb, hml, hr, hown, hts, hlocks, hKK, hR, hnm, hB⟩ := C
  simp only [nx] at h
  split at h
  · intro ls H locs cells slots hl hH hS hc hs hc2 hs2
    refine lv_ixor hx hb hd ?_
    exact h ls H locs cells slots hl hH hS hc hs hc2 hs2
  · exact h.elim
theorem sd_ishl (C : a_X p l e R s m args below meth c d M B N0 g D) (hd : decode M.2.1 pc = .ok (.ishl, 1)) (h : aO_p (a_T p l e R s m args below meth c QQ M.2.2.1 B N0 S0 g D (pc + 1)) (a_T p l e R s m args below meth c QQ M.2.2.1 B N0 S0 g D) RT CL (nx pD pY E M (pc, .ishl, 1, as, z) L st w)) : a_T p l e R s m args below meth c QQ M.2.2.1 B N0 S0 g D pc L st w := by
  obtain ⟨hx, hb, hml, hr, hown, hts, hlocks, hKK, hR, hnm, hB⟩ := C
  simp only [nx] at h
  split at h
  · intro ls H locs cells slots hl hH hS hc hs hc2 hs2
    refine lv_ishl hx hb hd ?_
    exact h ls H locs cells slots hl hH hS hc hs hc2 hs2
  · exact h.elim
theorem sd_ishr (C : a_X p l e R s m args below meth c d M B N0 g D) (hd : decode M.2.1 pc = .ok (.ishr, 1)) (h : aO_p (a_T p l e R s m args below meth c QQ M.2.2.1 B N0 S0 g D (pc + 1)) (a_T p l e R s m args below meth c QQ M.2.2.1 B N0 S0 g D) RT CL (nx pD pY E M (pc, .ishr, 1, as, z) L st w)) : a_T p l e R s m args below meth c QQ M.2.2.1 B N0 S0 g D pc L st w := by
  obtain ⟨hx, hb, hml, hr, hown, hts, hlocks, hKK, hR, hnm, hB⟩ := C
  simp only [nx] at h
  split at h
  · intro ls H locs cells slots hl hH hS hc hs hc2 hs2
    refine lv_ishr hx hb hd ?_
    exact h ls H locs cells slots hl hH hS hc hs hc2 hs2
  · exact h.elim
theorem sd_ladd (C : a_X p l e R s m args below meth c d M B N0 g D) (hd : decode M.2.1 pc = .ok (.ladd, 1)) (h : aO_p (a_T p l e R s m args below meth c QQ M.2.2.1 B N0 S0 g D (pc + 1)) (a_T p l e R s m args below meth c QQ M.2.2.1 B N0 S0 g D) RT CL (nx pD pY E M (pc, .ladd, 1, as, z) L st w)) : a_T p l e R s m args below meth c QQ M.2.2.1 B N0 S0 g D pc L st w := by
  obtain ⟨hx, hb, hml, hr, hown, hts, hlocks, hKK, hR, hnm, hB⟩ := C
  simp only [nx] at h
  split at h
  · intro ls H locs cells slots hl hH hS hc hs hc2 hs2
    refine lv_ladd hx hb hd ?_
    exact h ls H locs cells slots hl hH hS hc hs hc2 hs2
  · exact h.elim
theorem sd_lsub (C : a_X p l e R s m args below meth c d M B N0 g D) (hd : decode M.2.1 pc = .ok (.lsub, 1)) (h : aO_p (a_T p l e R s m args below meth c QQ M.2.2.1 B N0 S0 g D (pc + 1)) (a_T p l e R s m args below meth c QQ M.2.2.1 B N0 S0 g D) RT CL (nx pD pY E M (pc, .lsub, 1, as, z) L st w)) : a_T p l e R s m args below meth c QQ M.2.2.1 B N0 S0 g D pc L st w := by
  obtain ⟨hx, hb, hml, hr, hown, hts, hlocks, hKK, hR, hnm, hB⟩ := C
  simp only [nx] at h
  split at h
  · intro ls H locs cells slots hl hH hS hc hs hc2 hs2
    refine lv_lsub hx hb hd ?_
    exact h ls H locs cells slots hl hH hS hc hs hc2 hs2
  · exact h.elim
theorem sd_lmul (C : a_X p l e R s m args below meth c d M B N0 g D) (hd : decode M.2.1 pc = .ok (.lmul, 1)) (h : aO_p (a_T p l e R s m args below meth c QQ M.2.2.1 B N0 S0 g D (pc + 1)) (a_T p l e R s m args below meth c QQ M.2.2.1 B N0 S0 g D) RT CL (nx pD pY E M (pc, .lmul, 1, as, z) L st w)) : a_T p l e R s m args below meth c QQ M.2.2.1 B N0 S0 g D pc L st w := by
  obtain ⟨hx, hb, hml, hr, hown, hts, hlocks, hKK, hR, hnm, hB⟩ := C
  simp only [nx] at h
  split at h
  · intro ls H locs cells slots hl hH hS hc hs hc2 hs2
    refine lv_lmul hx hb hd ?_
    exact h ls H locs cells slots hl hH hS hc hs hc2 hs2
  · exact h.elim
theorem sd_iushr (C : a_X p l e R s m args below meth c d M B N0 g D) (hd : decode M.2.1 pc = .ok (.iushr, 1)) (h : aO_p (a_T p l e R s m args below meth c QQ M.2.2.1 B N0 S0 g D (pc + 1)) (a_T p l e R s m args below meth c QQ M.2.2.1 B N0 S0 g D) RT CL (nx pD pY E M (pc, .iushr, 1, as, z) L st w)) : a_T p l e R s m args below meth c QQ M.2.2.1 B N0 S0 g D pc L st w := by
  obtain ⟨hx, hb, hml, hr, hown, hts, hlocks, hKK, hR, hnm, hB⟩ := C
  simp only [nx] at h
  split at h
  · intro ls H locs cells slots hl hH hS hc hs hc2 hs2
    refine lv_iushr hx hb hd rfl ?_
    exact h ls H locs cells slots hl hH hS hc hs hc2 hs2
  · exact h.elim
theorem sd_ineg (C : a_X p l e R s m args below meth c d M B N0 g D) (hd : decode M.2.1 pc = .ok (.ineg, 1)) (h : aO_p (a_T p l e R s m args below meth c QQ M.2.2.1 B N0 S0 g D (pc + 1)) (a_T p l e R s m args below meth c QQ M.2.2.1 B N0 S0 g D) RT CL (nx pD pY E M (pc, .ineg, 1, as, z) L st w)) : a_T p l e R s m args below meth c QQ M.2.2.1 B N0 S0 g D pc L st w := by
  obtain ⟨hx, hb, hml, hr, hown, hts, hlocks, hKK, hR, hnm, hB⟩ := C
  simp only [nx] at h
  split at h
  · intro ls H locs cells slots hl hH hS hc hs hc2 hs2
    refine lv_ineg hx hb hd ?_
    exact h ls H locs cells slots hl hH hS hc hs hc2 hs2
  · exact h.elim
theorem sd_lneg (C : a_X p l e R s m args below meth c d M B N0 g D) (hd : decode M.2.1 pc = .ok (.lneg, 1)) (h : aO_p (a_T p l e R s m args below meth c QQ M.2.2.1 B N0 S0 g D (pc + 1)) (a_T p l e R s m args below meth c QQ M.2.2.1 B N0 S0 g D) RT CL (nx pD pY E M (pc, .lneg, 1, as, z) L st w)) : a_T p l e R s m args below meth c QQ M.2.2.1 B N0 S0 g D pc L st w := by
  obtain ⟨hx, hb, hml, hr, hown, hts, hlocks, hKK, hR, hnm, hB⟩ := C
  simp only [nx] at h
  split at h
  · intro ls H locs cells slots hl hH hS hc hs hc2 hs2
    refine lv_lneg hx hb hd ?_
    exact h ls H locs cells slots hl hH hS hc hs hc2 hs2
  · exact h.elim
theorem sd_i2l (C : a_X p l e R s m args below meth c d M B N0 g D) (hd : decode M.2.1 pc = .ok (.i2l, 1)) (h : aO_p (a_T p l e R s m args below meth c QQ M.2.2.1 B N0 S0 g D (pc + 1)) (a_T p l e R s m args below meth c QQ M.2.2.1 B N0 S0 g D) RT CL (nx pD pY E M (pc, .i2l, 1, as, z) L st w)) : a_T p l e R s m args below meth c QQ M.2.2.1 B N0 S0 g D pc L st w := by
  obtain ⟨hx, hb, hml, hr, hown, hts, hlocks, hKK, hR, hnm, hB⟩ := C
  simp only [nx] at h
  split at h
  · intro ls H locs cells slots hl hH hS hc hs hc2 hs2
    refine lv_i2l hx hb hd rfl ?_
    exact h ls H locs cells slots hl hH hS hc hs hc2 hs2
  · exact h.elim
theorem sd_l2i (C : a_X p l e R s m args below meth c d M B N0 g D) (hd : decode M.2.1 pc = .ok (.l2i, 1)) (h : aO_p (a_T p l e R s m args below meth c QQ M.2.2.1 B N0 S0 g D (pc + 1)) (a_T p l e R s m args below meth c QQ M.2.2.1 B N0 S0 g D) RT CL (nx pD pY E M (pc, .l2i, 1, as, z) L st w)) : a_T p l e R s m args below meth c QQ M.2.2.1 B N0 S0 g D pc L st w := by
  obtain ⟨hx, hb, hml, hr, hown, hts, hlocks, hKK, hR, hnm, hB⟩ := C
  simp only [nx] at h
  split at h
  · intro ls H locs cells slots hl hH hS hc hs hc2 hs2
    refine lv_l2i hx hb hd rfl ?_
    exact h ls H locs cells slots hl hH hS hc hs hc2 hs2
  · exact h.elim
theorem sd_lcmp (C : a_X p l e R s m args below meth c d M B N0 g D) (hd : decode M.2.1 pc = .ok (.lcmp, 1)) (h : aO_p (a_T p l e R s m args below meth c QQ M.2.2.1 B N0 S0 g D (pc + 1)) (a_T p l e R s m args below meth c QQ M.2.2.1 B N0 S0 g D) RT CL (nx pD pY E M (pc, .lcmp, 1, as, z) L st w)) : a_T p l e R s m args below meth c QQ M.2.2.1 B N0 S0 g D pc L st w := by
  obtain ⟨hx, hb, hml, hr, hown, hts, hlocks, hKK, hR, hnm, hB⟩ := C
  simp only [nx] at h
  split at h
  · intro ls H locs cells slots hl hH hS hc hs hc2 hs2
    refine W.lcmp hx hb hd ?_
    exact h ls H locs cells slots hl hH hS hc hs hc2 hs2
  · exact h.elim
theorem sd_idiv (C : a_X p l e R s m args below meth c d M B N0 g D) (hd : decode M.2.1 pc = .ok (.idiv, 1)) (h : aO_p (a_T p l e R s m args below meth c QQ M.2.2.1 B N0 S0 g D (pc + 1)) (a_T p l e R s m args below meth c QQ M.2.2.1 B N0 S0 g D) RT CL (nx pD pY E M (pc, .idiv, 1, as, z) L st w)) : a_T p l e R s m args below meth c QQ M.2.2.1 B N0 S0 g D pc L st w := by
  obtain ⟨hx, hb, hml, hr, hown, hts, hlocks, hKK, hR, hnm, hB⟩ := C
  simp only [nx] at h
  split at h
  · split at h
    · exact h.elim
    · rename_i hne
      intro ls H locs cells slots hl hH hS hc hs hc2 hs2
      refine lv_idiv hx hb hd hne ?_
      exact h ls H locs cells slots hl hH hS hc hs hc2 hs2
  · exact h.elim
theorem sd_irem (C : a_X p l e R s m args below meth c d M B N0 g D) (hd : decode M.2.1 pc = .ok (.irem, 1)) (h : aO_p (a_T p l e R s m args below meth c QQ M.2.2.1 B N0 S0 g D (pc + 1)) (a_T p l e R s m args below meth c QQ M.2.2.1 B N0 S0 g D) RT CL (nx pD pY E M (pc, .irem, 1, as, z) L st w)) : a_T p l e R s m args below meth c QQ M.2.2.1 B N0 S0 g D pc L st w := by
  obtain ⟨hx, hb, hml, hr, hown, hts, hlocks, hKK, hR, hnm, hB⟩ := C
  simp only [nx] at h
  split at h
  · split at h
    · exact h.elim
    · rename_i hne
      intro ls H locs cells slots hl hH hS hc hs hc2 hs2
      refine lv_irem hx hb hd hne ?_
      rw [irem_eq_mod]
      exact h ls H locs cells slots hl hH hS hc hs hc2 hs2
  · exact h.elim
theorem sd_ldiv (C : a_X p l e R s m args below meth c d M B N0 g D) (hd : decode M.2.1 pc = .ok (.ldiv, 1)) (h : aO_p (a_T p l e R s m args below meth c QQ M.2.2.1 B N0 S0 g D (pc + 1)) (a_T p l e R s m args below meth c QQ M.2.2.1 B N0 S0 g D) RT CL (nx pD pY E M (pc, .ldiv, 1, as, z) L st w)) : a_T p l e R s m args below meth c QQ M.2.2.1 B N0 S0 g D pc L st w := by
  obtain ⟨hx, hb, hml, hr, hown, hts, hlocks, hKK, hR, hnm, hB⟩ := C
  simp only [nx] at h
  split at h
  · split at h
    · exact h.elim
    · rename_i hne
      intro ls H locs cells slots hl hH hS hc hs hc2 hs2
      refine lv_ldiv hx hb hd hne ?_
      exact h ls H locs cells slots hl hH hS hc hs hc2 hs2
  · exact h.elim
theorem sd_lrem (C : a_X p l e R s m args below meth c d M B N0 g D) (hd : decode M.2.1 pc = .ok (.lrem, 1)) (h : aO_p (a_T p l e R s m args below meth c QQ M.2.2.1 B N0 S0 g D (pc + 1)) (a_T p l e R s m args below meth c QQ M.2.2.1 B N0 S0 g D) RT CL (nx pD pY E M (pc, .lrem, 1, as, z) L st w)) : a_T p l e R s m args below meth c QQ M.2.2.1 B N0 S0 g D pc L st w := by
  obtain ⟨hx, hb, hml, hr, hown, hts, hlocks, hKK, hR, hnm, hB⟩ := C
  simp only [nx] at h
  split at h
  · split at h
    · exact h.elim
    · rename_i hne
      intro ls H locs cells slots hl hH hS hc hs hc2 hs2
      refine lv_lrem hx hb hd hne ?_
      rw [lrem_eq_mod]
      exact h ls H locs cells slots hl hH hS hc hs hc2 hs2
  · exact h.elim
theorem sd_iinc (C : a_X p l e R s m args below meth c d M B N0 g D) {k : Nat} {n : Int} (hk : k < M.2.2.1) (hd : decode M.2.1 pc = .ok (.iinc k n, 3)) (h : aO_p (a_T p l e R s m args below meth c QQ M.2.2.1 B N0 S0 g D (pc + 3)) (a_T p l e R s m args below meth c QQ M.2.2.1 B N0 S0 g D) RT CL (nx pD pY E M (pc, .iinc k n, 3, as, z) L st w)) : a_T p l e R s m args below meth c QQ M.2.2.1 B N0 S0 g D pc L st w := by
  obtain ⟨hx, hb, hml, hr, hown, hts, hlocks, hKK, hR, hnm, hB⟩ := C
  simp only [nx] at h
  split at h
  · rename_i x hv
    intro ls H locs cells slots hl hH hS hc hs hc2 hs2
    obtain ⟨j, hj⟩ := hl.mem hv (fun q => by cases q)
    refine lv_iinc hx hb hd hl.has hj rfl hk rfl (fun ls2 hl2 => ?_)
    exact h ls2 H locs cells slots (hl.st1 (v := .int (x + Int32.ofInt n)) hl2) hH hS hc hs hc2 hs2
  · exact h.elim
theorem sd_dup (C : a_X p l e R s m args below meth c d M B N0 g D) (hd : decode M.2.1 pc = .ok (.dup, 1)) (h : aO_p (a_T p l e R s m args below meth c QQ M.2.2.1 B N0 S0 g D (pc + 1)) (a_T p l e R s m args below meth c QQ M.2.2.1 B N0 S0 g D) RT CL (nx pD pY E M (pc, .dup, 1, as, z) L st w)) : a_T p l e R s m args below meth c QQ M.2.2.1 B N0 S0 g D pc L st w := by
  obtain ⟨hx, hb, hml, hr, hown, hts, hlocks, hKK, hR, hnm, hB⟩ := C
  simp only [nx] at h
  split at h
  · split at h
    · rename_i hc1
      intro ls H locs cells slots hl hH hS hc hs hc2 hs2
      refine lv_dup hx hb hd (by rw [a_v_cat]; exact hc1) ?_
      exact h ls H locs cells slots hl hH hS hc hs hc2 hs2
    · exact h.elim
  · exact h.elim
theorem sd_dup2 (C : a_X p l e R s m args below meth c d M B N0 g D) (hd : decode M.2.1 pc = .ok (.dup2, 1)) (h : aO_p (a_T p l e R s m args below meth c QQ M.2.2.1 B N0 S0 g D (pc + 1)) (a_T p l e R s m args below meth c QQ M.2.2.1 B N0 S0 g D) RT CL (nx pD pY E M (pc, .dup2, 1, as, z) L st w)) : a_T p l e R s m args below meth c QQ M.2.2.1 B N0 S0 g D pc L st w := by
  obtain ⟨hx, hb, hml, hr, hown, hts, hlocks, hKK, hR, hnm, hB⟩ := C
  simp only [nx] at h
  split at h
  · split at h
    · rename_i hc1
      intro ls H locs cells slots hl hH hS hc hs hc2 hs2
      refine lv_dup2_11 hx hb hd (by rw [a_v_cat]; exact hc1.1) (by rw [a_v_cat]; exact hc1.2) ?_
      exact h ls H locs cells slots hl hH hS hc hs hc2 hs2
    · exact h.elim
  · exact h.elim
theorem sd_pop (C : a_X p l e R s m args below meth c d M B N0 g D) (hd : decode M.2.1 pc = .ok (.pop, 1)) (h : aO_p (a_T p l e R s m args below meth c QQ M.2.2.1 B N0 S0 g D (pc + 1)) (a_T p l e R s m args below meth c QQ M.2.2.1 B N0 S0 g D) RT CL (nx pD pY E M (pc, .pop, 1, as, z) L st w)) : a_T p l e R s m args below meth c QQ M.2.2.1 B N0 S0 g D pc L st w := by
  obtain ⟨hx, hb, hml, hr, hown, hts, hlocks, hKK, hR, hnm, hB⟩ := C
  simp only [nx] at h
  split at h
  · split at h
    · rename_i hc1
      intro ls H locs cells slots hl hH hS hc hs hc2 hs2
      refine lv_pop hx hb hd (by rw [a_v_cat]; exact hc1) ?_
      exact h ls H locs cells slots hl hH hS hc hs hc2 hs2
    · exact h.elim
  · exact h.elim
theorem sd_goto (C : a_X p l e R s m args below meth c d M B N0 g D) {off : Int} (ht : ∀ t, as = [t] → (pc : Int) + off = (t : Int)) (hd : decode M.2.1 pc = .ok (.goto off, 3)) (h : aO_p (a_T p l e R s m args below meth c QQ M.2.2.1 B N0 S0 g D (pc + 3)) (a_T p l e R s m args below meth c QQ M.2.2.1 B N0 S0 g D) RT CL (nx pD pY E M (pc, .goto off, 3, as, z) L st w)) : a_T p l e R s m args below meth c QQ M.2.2.1 B N0 S0 g D pc L st w := by
  obtain ⟨hx, hb, hml, hr, hown, hts, hlocks, hKK, hR, hnm, hB⟩ := C
  simp only [nx] at h
  split at h
  · rename_i t
    intro ls H locs cells slots hl hH hS hc hs hc2 hs2
    refine lv_goto hx hb hd (ht _ rfl) ?_
    exact h ls H locs cells slots hl hH hS hc hs hc2 hs2
  · exact h.elim
theorem sd_ifCond_eq (C : a_X p l e R s m args below meth c d M B N0 g D) {off : Int} (ht : ∀ t, as = [t] → (pc : Int) + off = (t : Int)) (hd : decode M.2.1 pc = .ok (.ifCond .eq off, 3)) (h : aO_p (a_T p l e R s m args below meth c QQ M.2.2.1 B N0 S0 g D (pc + 3)) (a_T p l e R s m args below meth c QQ M.2.2.1 B N0 S0 g D) RT CL (nx pD pY E M (pc, .ifCond .eq off, 3, as, z) L st w)) : a_T p l e R s m args below meth c QQ M.2.2.1 B N0 S0 g D pc L st w := by
  obtain ⟨hx, hb, hml, hr, hown, hts, hlocks, hKK, hR, hnm, hB⟩ := C
  simp only [nx] at h
  split at h
  · intro ls H locs cells slots hl hH hS hc hs hc2 hs2
    unfold an_if at h
    refine lv_if_eq hx hb hd (ht _ rfl) (fun q => ?_) (fun q => ?_)
    · rw [if_pos q] at h
      exact h ls H locs cells slots hl hH hS hc hs hc2 hs2
    · rw [if_neg q] at h
      exact h ls H locs cells slots hl hH hS hc hs hc2 hs2
  · exact h.elim
theorem sd_if_icmp_eq (C : a_X p l e R s m args below meth c d M B N0 g D) {off : Int} (ht : ∀ t, as = [t] → (pc : Int) + off = (t : Int)) (hd : decode M.2.1 pc = .ok (.if_icmp .eq off, 3)) (h : aO_p (a_T p l e R s m args below meth c QQ M.2.2.1 B N0 S0 g D (pc + 3)) (a_T p l e R s m args below meth c QQ M.2.2.1 B N0 S0 g D) RT CL (nx pD pY E M (pc, .if_icmp .eq off, 3, as, z) L st w)) : a_T p l e R s m args below meth c QQ M.2.2.1 B N0 S0 g D pc L st w := by
  obtain ⟨hx, hb, hml, hr, hown, hts, hlocks, hKK, hR, hnm, hB⟩ := C
  simp only [nx] at h
  split at h
  · intro ls H locs cells slots hl hH hS hc hs hc2 hs2
    unfold an_if at h
    refine lv_icmp_eq hx hb hd (ht _ rfl) (fun q => ?_) (fun q => ?_)
    · rw [if_pos q] at h
      exact h ls H locs cells slots hl hH hS hc hs hc2 hs2
    · rw [if_neg q] at h
      exact h ls H locs cells slots hl hH hS hc hs hc2 hs2
  · exact h.elim
theorem sd_ifCond_ne (C : a_X p l e R s m args below meth c d M B N0 g D) {off : Int} (ht : ∀ t, as = [t] → (pc : Int) + off = (t : Int)) (hd : decode M.2.1 pc = .ok (.ifCond .ne off, 3)) (h : aO_p (a_T p l e R s m args below meth c QQ M.2.2.1 B N0 S0 g D (pc + 3)) (a_T p l e R s m args below meth c QQ M.2.2.1 B N0 S0 g D) RT CL (nx pD pY E M (pc, .ifCond .ne off, 3, as, z) L st w)) : a_T p l e R s m args below meth c QQ M.2.2.1 B N0 S0 g D pc L st w := by
  obtain ⟨hx, hb, hml, hr, hown, hts, hlocks, hKK, hR, hnm, hB⟩ := C
  simp only [nx] at h
  split at h
  · intro ls H locs cells slots hl hH hS hc hs hc2 hs2
    unfold an_if at h
    refine lv_if_ne hx hb hd (ht _ rfl) (fun q => ?_) (fun q => ?_)
    · rw [if_pos q] at h
      exact h ls H locs cells slots hl hH hS hc hs hc2 hs2
    · rw [if_neg (fun q2 => q2 q)] at h
      exact h ls H locs cells slots hl hH hS hc hs hc2 hs2
  · exact h.elim
theorem sd_if_icmp_ne (C : a_X p l e R s m args below meth c d M B N0 g D) {off : Int} (ht : ∀ t, as = [t] → (pc : Int) + off = (t : Int)) (hd : decode M.2.1 pc = .ok (.if_icmp .ne off, 3)) (h : aO_p (a_T p l e R s m args below meth c QQ M.2.2.1 B N0 S0 g D (pc + 3)) (a_T p l e R s m args below meth c QQ M.2.2.1 B N0 S0 g D) RT CL (nx pD pY E M (pc, .if_icmp .ne off, 3, as, z) L st w)) : a_T p l e R s m args below meth c QQ M.2.2.1 B N0 S0 g D pc L st w := by
  obtain ⟨hx, hb, hml, hr, hown, hts, hlocks, hKK, hR, hnm, hB⟩ := C
  simp only [nx] at h
  split at h
  · intro ls H locs cells slots hl hH hS hc hs hc2 hs2
    unfold an_if at h
    refine lv_icmp_ne hx hb hd (ht _ rfl) (fun q => ?_) (fun q => ?_)
    · rw [if_pos q] at h
      exact h ls H locs cells slots hl hH hS hc hs hc2 hs2
    · rw [if_neg (fun q2 => q2 q)] at h
      exact h ls H locs cells slots hl hH hS hc hs hc2 hs2
  · exact h.elim
theorem sd_ifCond_lt (C : a_X p l e R s m args below meth c d M B N0 g D) {off : Int} (ht : ∀ t, as = [t] → (pc : Int) + off = (t : Int)) (hd : decode M.2.1 pc = .ok (.ifCond .lt off, 3)) (h : aO_p (a_T p l e R s m args below meth c QQ M.2.2.1 B N0 S0 g D (pc + 3)) (a_T p l e R s m args below meth c QQ M.2.2.1 B N0 S0 g D) RT CL (nx pD pY E M (pc, .ifCond .lt off, 3, as, z) L st w)) : a_T p l e R s m args below meth c QQ M.2.2.1 B N0 S0 g D pc L st w := by
  obtain ⟨hx, hb, hml, hr, hown, hts, hlocks, hKK, hR, hnm, hB⟩ := C
  simp only [nx] at h
  split at h
  · intro ls H locs cells slots hl hH hS hc hs hc2 hs2
    unfold an_if at h
    refine lv_if_lt hx hb hd (ht _ rfl) (fun q => ?_) (fun q => ?_)
    · rw [if_pos q] at h
      exact h ls H locs cells slots hl hH hS hc hs hc2 hs2
    · rw [if_neg q] at h
      exact h ls H locs cells slots hl hH hS hc hs hc2 hs2
  · exact h.elim
theorem sd_if_icmp_lt (C : a_X p l e R s m args below meth c d M B N0 g D) {off : Int} (ht : ∀ t, as = [t] → (pc : Int) + off = (t : Int)) (hd : decode M.2.1 pc = .ok (.if_icmp .lt off, 3)) (h : aO_p (a_T p l e R s m args below meth c QQ M.2.2.1 B N0 S0 g D (pc + 3)) (a_T p l e R s m args below meth c QQ M.2.2.1 B N0 S0 g D) RT CL (nx pD pY E M (pc, .if_icmp .lt off, 3, as, z) L st w)) : a_T p l e R s m args below meth c QQ M.2.2.1 B N0 S0 g D pc L st w := by
  obtain ⟨hx, hb, hml, hr, hown, hts, hlocks, hKK, hR, hnm, hB⟩ := C
  simp only [nx] at h
  split at h
  · intro ls H locs cells slots hl hH hS hc hs hc2 hs2
    unfold an_if at h
    refine lv_icmp_lt hx hb hd (ht _ rfl) (fun q => ?_) (fun q => ?_)
    · rw [if_pos q] at h
      exact h ls H locs cells slots hl hH hS hc hs hc2 hs2
    · rw [if_neg q] at h
      exact h ls H locs cells slots hl hH hS hc hs hc2 hs2
  · exact h.elim
theorem sd_ifCond_ge (C : a_X p l e R s m args below meth c d M B N0 g D) {off : Int} (ht : ∀ t, as = [t] → (pc : Int) + off = (t : Int)) (hd : decode M.2.1 pc = .ok (.ifCond .ge off, 3)) (h : aO_p (a_T p l e R s m args below meth c QQ M.2.2.1 B N0 S0 g D (pc + 3)) (a_T p l e R s m args below meth c QQ M.2.2.1 B N0 S0 g D) RT CL (nx pD pY E M (pc, .ifCond .ge off, 3, as, z) L st w)) : a_T p l e R s m args below meth c QQ M.2.2.1 B N0 S0 g D pc L st w := by
  obtain ⟨hx, hb, hml, hr, hown, hts, hlocks, hKK, hR, hnm, hB⟩ := C
  simp only [nx] at h
  split at h
  · intro ls H locs cells slots hl hH hS hc hs hc2 hs2
    unfold an_if at h
    refine lv_if_ge hx hb hd (ht _ rfl) (fun q => ?_) (fun q => ?_)
    · rw [if_pos q] at h
      exact h ls H locs cells slots hl hH hS hc hs hc2 hs2
    · rw [if_neg q] at h
      exact h ls H locs cells slots hl hH hS hc hs hc2 hs2
  · exact h.elim
theorem sd_if_icmp_ge (C : a_X p l e R s m args below meth c d M B N0 g D) {off : Int} (ht : ∀ t, as = [t] → (pc : Int) + off = (t : Int)) (hd : decode M.2.1 pc = .ok (.if_icmp .ge off, 3)) (h : aO_p (a_T p l e R s m args below meth c QQ M.2.2.1 B N0 S0 g D (pc + 3)) (a_T p l e R s m args below meth c QQ M.2.2.1 B N0 S0 g D) RT CL (nx pD pY E M (pc, .if_icmp .ge off, 3, as, z) L st w)) : a_T p l e R s m args below meth c QQ M.2.2.1 B N0 S0 g D pc L st w := by
  obtain ⟨hx, hb, hml, hr, hown, hts, hlocks, hKK, hR, hnm, hB⟩ := C
  simp only [nx] at h
  split at h
  · intro ls H locs cells slots hl hH hS hc hs hc2 hs2
    unfold an_if at h
    refine lv_icmp_ge hx hb hd (ht _ rfl) (fun q => ?_) (fun q => ?_)
    · rw [if_pos q] at h
      exact h ls H locs cells slots hl hH hS hc hs hc2 hs2
    · rw [if_neg q] at h
      exact h ls H locs cells slots hl hH hS hc hs hc2 hs2
  · exact h.elim
theorem sd_ifCond_gt (C : a_X p l e R s m args below meth c d M B N0 g D) {off : Int} (ht : ∀ t, as = [t] → (pc : Int) + off = (t : Int)) (hd : decode M.2.1 pc = .ok (.ifCond .gt off, 3)) (h : aO_p (a_T p l e R s m args below meth c QQ M.2.2.1 B N0 S0 g D (pc + 3)) (a_T p l e R s m args below meth c QQ M.2.2.1 B N0 S0 g D) RT CL (nx pD pY E M (pc, .ifCond .gt off, 3, as, z) L st w)) : a_T p l e R s m args below meth c QQ M.2.2.1 B N0 S0 g D pc L st w := by
  obtain ⟨hx, hb, hml, hr, hown, hts, hlocks, hKK, hR, hnm, hB⟩ := C
  simp only [nx] at h
  split at h
  · intro ls H locs cells slots hl hH hS hc hs hc2 hs2
    unfold an_if at h
    refine lv_if_gt hx hb hd (ht _ rfl) (fun q => ?_) (fun q => ?_)
    · rw [if_pos q] at h
      exact h ls H locs cells slots hl hH hS hc hs hc2 hs2
    · rw [if_neg q] at h
      exact h ls H locs cells slots hl hH hS hc hs hc2 hs2
  · exact h.elim
theorem sd_if_icmp_gt (C : a_X p l e R s m args below meth c d M B N0 g D) {off : Int} (ht : ∀ t, as = [t] → (pc : Int) + off = (t : Int)) (hd : decode M.2.1 pc = .ok (.if_icmp .gt off, 3)) (h : aO_p (a_T p l e R s m args below meth c QQ M.2.2.1 B N0 S0 g D (pc + 3)) (a_T p l e R s m args below meth c QQ M.2.2.1 B N0 S0 g D) RT CL (nx pD pY E M (pc, .if_icmp .gt off, 3, as, z) L st w)) : a_T p l e R s m args below meth c QQ M.2.2.1 B N0 S0 g D pc L st w := by
  obtain ⟨hx, hb, hml, hr, hown, hts, hlocks, hKK, hR, hnm, hB⟩ := C
  simp only [nx] at h
  split at h
  · intro ls H locs cells slots hl hH hS hc hs hc2 hs2
    unfold an_if at h
    refine lv_icmp_gt hx hb hd (ht _ rfl) (fun q => ?_) (fun q => ?_)
    · rw [if_pos q] at h
      exact h ls H locs cells slots hl hH hS hc hs hc2 hs2
    · rw [if_neg q] at h
      exact h ls H locs cells slots hl hH hS hc hs hc2 hs2
  · exact h.elim
theorem sd_ifCond_le (C : a_X p l e R s m args below meth c d M B N0 g D) {off : Int} (ht : ∀ t, as = [t] → (pc : Int) + off = (t : Int)) (hd : decode M.2.1 pc = .ok (.ifCond .le off, 3)) (h : aO_p (a_T p l e R s m args below meth c QQ M.2.2.1 B N0 S0 g D (pc + 3)) (a_T p l e R s m args below meth c QQ M.2.2.1 B N0 S0 g D) RT CL (nx pD pY E M (pc, .ifCond .le off, 3, as, z) L st w)) : a_T p l e R s m args below meth c QQ M.2.2.1 B N0 S0 g D pc L st w := by
  obtain ⟨hx, hb, hml, hr, hown, hts, hlocks, hKK, hR, hnm, hB⟩ := C
  simp only [nx] at h
  split at h
  · intro ls H locs cells slots hl hH hS hc hs hc2 hs2
    unfold an_if at h
    refine lv_if_le hx hb hd (ht _ rfl) (fun q => ?_) (fun q => ?_)
    · rw [if_pos q] at h
      exact h ls H locs cells slots hl hH hS hc hs hc2 hs2
    · rw [if_neg q] at h
      exact h ls H locs cells slots hl hH hS hc hs hc2 hs2
  · exact h.elim
theorem sd_if_icmp_le (C : a_X p l e R s m args below meth c d M B N0 g D) {off : Int} (ht : ∀ t, as = [t] → (pc : Int) + off = (t : Int)) (hd : decode M.2.1 pc = .ok (.if_icmp .le off, 3)) (h : aO_p (a_T p l e R s m args below meth c QQ M.2.2.1 B N0 S0 g D (pc + 3)) (a_T p l e R s m args below meth c QQ M.2.2.1 B N0 S0 g D) RT CL (nx pD pY E M (pc, .if_icmp .le off, 3, as, z) L st w)) : a_T p l e R s m args below meth c QQ M.2.2.1 B N0 S0 g D pc L st w := by
  obtain ⟨hx, hb, hml, hr, hown, hts, hlocks, hKK, hR, hnm, hB⟩ := C
  simp only [nx] at h
  split at h
  · intro ls H locs cells slots hl hH hS hc hs hc2 hs2
    unfold an_if at h
    refine lv_icmp_le hx hb hd (ht _ rfl) (fun q => ?_) (fun q => ?_)
    · rw [if_pos q] at h
      exact h ls H locs cells slots hl hH hS hc hs hc2 hs2
    · rw [if_neg q] at h
      exact h ls H locs cells slots hl hH hS hc hs hc2 hs2
  · exact h.elim
theorem sd_tsw {len : Nat} (C : a_X p l e R s m args below meth c d M B N0 g D) {df lo hi : Int} {offs : Array Int} (ht : ∀ t ts, as = t :: ts → (pc : Int) + df = (t : Int) ∧ ∀ (k : Nat) (u : Nat), ts[k]? = some u → ∃ o, offs[k]? = some o ∧ (pc : Int) + o = (u : Int)) (hd : decode M.2.1 pc = .ok (.tableswitch df lo hi offs, len)) (h : aO_p (a_T p l e R s m args below meth c QQ M.2.2.1 B N0 S0 g D (pc + len)) (a_T p l e R s m args below meth c QQ M.2.2.1 B N0 S0 g D) RT CL (nx pD pY E M (pc, .tableswitch df lo hi offs, len, as, z) L st w)) : a_T p l e R s m args below meth c QQ M.2.2.1 B N0 S0 g D pc L st w := by
  obtain ⟨hx, hb, hml, hr, hown, hts, hlocks, hKK, hR, hnm, hB⟩ := C
  simp only [nx] at h
  split at h
  · rename_i t ts x r
    obtain ⟨h1, h2⟩ := ht _ _ rfl
    split at h
    · rename_i ho
      intro ls H locs cells slots hl hH hS hc hs hc2 hs2
      refine lv_tableOut hx hb hd ho h1 ?_
      exact h ls H locs cells slots hl hH hS hc hs hc2 hs2
    · rename_i ho
      split at h
      · rename_i u hu
        obtain ⟨o1, h3, h4⟩ := h2 _ _ hu
        intro ls H locs cells slots hl hH hS hc hs hc2 hs2
        refine lv_tableIn hx hb hd (fun q => ho (Or.inl q)) (fun q => ho (Or.inr q)) h3 h4 ?_
        exact h ls H locs cells slots hl hH hS hc hs hc2 hs2
      · exact h.elim
  · exact h.elim
end SND
