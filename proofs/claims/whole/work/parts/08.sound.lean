/-! ===== THE CHECK OF A METHOD'S TEXT, and what it is worth (written by gen_disp.py) ===== -/
def a_len : Instr → Nat
  | .iload _ | .lload _ | .aload _ | .istore _ | .lstore _ | .astore _ | .bipush _ | .newarray _ => 2
  | .sipush _ | .ldc_w _ | .ldc2_w _ | .iinc _ _ | .goto _ | .ifCond _ _ | .if_icmp _ _ | .getfield _ | .putfield _ | .new _ | .anewarray _ | .invokevirtual _ | .invokespecial _ | .invokestatic _ => 3
  | _ => 1
theorem okP {a : Prop} [Decidable a] {b : Bool} (h : (decide a && b) = true) : a ∧ b = true := by
  rw [Bool.and_eq_true] at h
  exact ⟨of_decide_eq_true h.1, h.2⟩
def inGd (pl : Nat) (x : Cond) : Bool := decide (lw_tbl[pl]? = some x) && goodWord x
theorem inGd_in {pl : Nat} {x : Cond} (h : inGd pl x = true) : x ∈ lw_gd := by
  simp only [inGd, Bool.and_eq_true, decide_eq_true_eq] at h
  exact gd_at h.1 h.2
/-- the head of a method: its words -/
def okHd (M : aM) : Bool := decide (M.2.2.1 ≤ 21) && ((inGd (M.2.2.2.2.2.1.2.2.2.getD 1 0) (.initialized M.1.cls) && (decide (M.1.cls ≠ "java/lang/invoke/MethodHandle" ∧ M.1.cls ≠ "java/lang/invoke/VarHandle" ∧ (parseMethodDescriptor M.1.desc).map (fun d => d.parameters.length) = some M.2.2.2.2.2.1.2.1) && (plainName M.1.cls &&
  ((decide (M.2.2.2.2.2.1.1 = 0) && inGd (M.2.2.2.2.2.1.2.2.2.getD 2 0) (.static M.1)) || ((decide (M.2.2.2.2.2.1.1 = 1) && (inGd (M.2.2.2.2.2.1.2.2.2.getD 2 0) (.instanceMethod M.1) && (inGd (M.2.2.2.2.2.1.2.2.2.getD 3 0) (.selects M.1.cls M.1 M.1) && (match pCl[M.2.2.2.2.2.1.2.2.1]? with
    | some q => decide (q.1 = M.1.cls)
    | none => false)))) || (decide (M.2.2.2.2.2.1.1 = 2 ∧ M.1.name = "<init>" ∧ M.2.2.2.1 = none) && inGd (M.2.2.2.2.2.1.2.2.2.getD 2 0) (.instanceMethod M.1))))))))
theorem okHd_spec {M : aM} (hcd : Cond.code M.1 M.2.1 M.2.2.1 M.2.2.2.1 ∈ lw_gd) (h : okHd M = true) : a_hd M M.2.2.2.2.2.1.2.1 ∧ plainName M.1.cls = true ∧ (M.2.2.2.2.2.1.1 = 0 → Cond.static M.1 ∈ lw_gd) ∧ (M.2.2.2.2.2.1.1 = 1 → (Cond.instanceMethod M.1 ∈ lw_gd ∧ Cond.selects M.1.cls M.1 M.1 ∈ lw_gd) ∧ ∃ T N, pCl[M.2.2.2.2.2.1.2.2.1]? = some (M.1.cls, T, N)) ∧ (M.2.2.2.2.2.1.1 = 2 → (Cond.instanceMethod M.1 ∈ lw_gd ∧ M.1.name = "<init>") ∧ M.2.2.2.1 = none) := by
  simp only [okHd, Bool.and_eq_true, Bool.or_eq_true, decide_eq_true_eq] at h
  obtain ⟨h1, h3, h4, h5, h6⟩ := h
  refine ⟨⟨h1, hcd, inGd_in h3, h4⟩, h5, fun hk => ?_, fun hk => ?_, fun hk => ?_⟩
  · rcases h6 with h6 | h6 | h6
    · exact inGd_in h6.2
    · rw [hk] at h6; exact absurd h6.1 (by decide)
    · rw [hk] at h6; exact absurd h6.1.1 (by decide)
  · rcases h6 with h6 | h6 | h6
    · rw [hk] at h6; exact absurd h6.1 (by decide)
    · obtain ⟨-, k1, k2, k3⟩ := h6
      refine ⟨⟨inGd_in k1, inGd_in k2⟩, ?_⟩
      cases hp : pCl[M.2.2.2.2.2.1.2.2.1]? with
      | none => rw [hp] at k3; cases k3
      | some q =>
        rw [hp] at k3
        simp only [decide_eq_true_eq] at k3
        exact ⟨q.2.1, q.2.2, by rw [← k3]⟩
    · rw [hk] at h6; exact absurd h6.1.1 (by decide)
  · rcases h6 with h6 | h6 | h6
    · rw [hk] at h6; exact absurd h6.1 (by decide)
    · rw [hk] at h6; exact absurd h6.1 (by decide)
    · exact ⟨⟨inGd_in h6.2, h6.1.2.1⟩, h6.1.2.2⟩
def okF (M : aM) (idx : Nat) (wr : Bool) (as : List Nat) : Bool := match as with
  | [ci, k, pl] => (match pCl[ci]? with
    | some q => decide (k < q.2.2 ∧ (q.2.1 k).1 = q.1) && (inGd pl (.fieldLink M.1.cls idx q.1 (q.2.1 k).2.1 (q.2.1 k).2.2.1) && (!wr || (decide ((q.2.1 k).2.2.2 = false) || decide ((q.2.1 k).2.2.2 = true ∧ M.1.name = "<init>" ∧ q.1 = M.1.cls))))
    | none => false)
  | _ => false
def okJ (pc : Nat) (off : Int) (as : List Nat) : Bool := match as with
  | [t] => decide ((pc : Int) + off = (t : Int))
  | _ => false
def okS (pc : Nat) (offs : List Int) : List Nat → Bool
  | [] => offs.isEmpty
  | t :: ts => match offs with
    | [] => false
    | o :: os => decide ((pc : Int) + o = (t : Int)) && okS pc os ts
def okO (MT : Nat → aM) (M : aM) (pc : Nat) (op : Instr) (as : List Nat) (z : Int) : Bool := match op with
  | .istore k => decide (k < M.2.2.1)
  | .astore k => decide (k < M.2.2.1)
  | .istore_n k => decide (k.val < M.2.2.1)
  | .astore_n k => decide (k.val < M.2.2.1)
  | .lstore k => decide (k + 1 < M.2.2.1)
  | .lstore_n k => decide (k.val + 1 < M.2.2.1)
  | .iinc k _ => decide (k < M.2.2.1)
  | .bipush n => decide ((Int8.ofInt n).toInt32 = Int32.ofInt n)
  | .sipush n => decide ((Int16.ofInt n).toInt32 = Int32.ofInt n)
  | .ldc_w idx => inGd (as.getD 0 0) (.constant M.1.cls idx (Int32.ofInt z))
  | .ldc2_w idx => inGd (as.getD 0 0) (.constantLong M.1.cls idx (Int64.ofInt z))
  | .goto off => okJ pc off as
  | .ifCond _ off => okJ pc off as
  | .if_icmp _ off => okJ pc off as
  | .getfield idx => okF M idx false as
  | .putfield idx => okF M idx true as
  | .aastore => (match as with
    | [ci] => (match pCl[ci]? with
      | some q => decide (q.1 = "PairSorts$Table")
      | none => false)
    | _ => false)
  | .newarray t => decide (t = .int ∨ t = .long ∨ t = .boolean) && inGd (as.getD 0 0) (.arrayClass (aA_t t))
  | .anewarray idx => inGd (as.getD 0 0) (.classLink M.1.cls idx "PairSorts$Table")
  | .new idx => (match as with
    | [ci, pl] => (match pCl[ci]? with
      | some q => inGd pl (.classLink M.1.cls idx q.1)
      | none => false)
    | _ => false)
  | .invokespecial idx => (match as with
    | [pl] => inGd pl (.methodLink M.1.cls idx objectInit)
    | [mi, n, mc, ms, pl] => decide ((MT mi).2.2.2.2.2.1.1 = 2 ∧ (MT mi).2.2.2.2.2.1.2.1 = n ∧ (MT mi).2.2.2.2.1 = (mc, ms)) && inGd pl (.methodLink M.1.cls idx (MT mi).1)
    | [mi, n, mc, ms, _, _] => decide ((MT mi).2.2.2.2.2.1.1 = 2 ∧ (MT mi).2.2.2.2.2.1.2.1 = n ∧ (MT mi).2.2.2.2.1 = (mc, ms) ∧ (M.1.cls, idx, (MT mi).1, "PairSorts") ∈ a_nest)
    | _ => false)
  | .invokevirtual idx => (match as with
    | [mi, n, ci, pl] => decide ((MT mi).2.2.2.2.2.1.1 = 1 ∧ (MT mi).2.2.2.2.2.1.2.1 = n ∧ (MT mi).2.2.2.2.2.1.2.2.1 = ci ∧ (MT mi).2.2.2.2.1 = (0, 0)) && inGd pl (.methodLink M.1.cls idx (MT mi).1)
    | _ => false)
  | .invokestatic idx => (match as with
    | [pl] => inGd pl (.methodLink M.1.cls idx arraycopyName)
    | [k, pl] => decide (k < 4) && inGd pl (.methodLink M.1.cls idx (match k with
      | 0 => Lib.Math.min.name
      | 1 => Lib.Math.max.name
      | 2 => Lib.Math.abs.name
      | _ => Lib.MathLoose.abs_long.x))
    | [mi, n, pl] => decide ((MT mi).2.2.2.2.2.1.1 = 0 ∧ (MT mi).2.2.2.2.2.1.2.1 = n ∧ (MT mi).2.2.2.2.1 = (0, 0)) && inGd pl (.methodLink M.1.cls idx (MT mi).1)
    | _ => false)
  | .ireturn => decide (M.2.2.2.2.1 = (0, 0))
  | .lreturn => decide (M.2.2.2.2.1 = (0, 0))
  | .areturn => decide (M.2.2.2.2.1 = (0, 0))
  | _ => true
def okI (MT : Nat → aM) (M : aM) (i : aI) : Bool := match i.2.1 with
  | .nop => decide (i.2.2.2.1 = [i.1] ∧ i.2.2.1 = 0)
  | .tableswitch df lo hi offs => decide (decode M.2.1 i.1 = .ok (.tableswitch df lo hi offs, i.2.2.1)) && okS i.1 (df :: offs.toList) i.2.2.2.1
  | op => decide (decode M.2.1 i.1 = .ok (op, a_len op) ∧ i.2.2.1 = a_len op) && okO MT M i.1 op i.2.2.2.1 i.2.2.2.2
theorem okF_spec {M : aM} {idx : Nat} {wr : Bool} {as : List Nat} (h : okF M idx wr as = true) : ∀ ci k q, as = ci :: k :: q → ∃ C T N, pCl[ci]? = some (C, T, N) ∧ k < N ∧ (T k).1 = C ∧ Cond.fieldLink M.1.cls idx C (T k).2.1 (T k).2.2.1 ∈ lw_gd ∧ (wr = true → ((T k).2.2.2 = false ∨ ((T k).2.2.2 = true ∧ M.1.name = "<init>" ∧ C = M.1.cls))) := by
  intro ci k q e
  subst e
  unfold okF at h
  split at h
  · rename_i ci k pl hh
    cases hh
    split at h
    · rename_i r hr
      simp only [Bool.and_eq_true, decide_eq_true_eq, Bool.or_eq_true] at h
      refine ⟨r.1, r.2.1, r.2.2, hr, h.1.1, h.1.2, inGd_in h.2.1, fun hw => ?_⟩
      rcases h.2.2 with q | q
      · rw [hw] at q; cases q
      · exact q
    · cases h
  · cases h
theorem okJ_spec {pc : Nat} {off : Int} {as : List Nat} (h : okJ pc off as = true) : ∀ t, as = [t] → (pc : Int) + off = (t : Int) := by
  intro t e
  subst e
  exact of_decide_eq_true h
theorem okS_spec {pc : Nat} : ∀ (ts : List Nat) (offs : List Int), okS pc offs ts = true → ∀ (k u : Nat), ts[k]? = some u → ∃ o, offs[k]? = some o ∧ (pc : Int) + o = (u : Int) := by
  intro ts
  induction ts with
  | nil => intro offs _ k u h; simp at h
  | cons t ts ih =>
    intro offs h k u hk
    cases offs with
    | nil => cases h
    | cons o os =>
      simp only [okS, Bool.and_eq_true, decide_eq_true_eq] at h
      cases k with
      | zero => simp at hk; exact ⟨o, by simp, by rw [← hk]; exact h.1⟩
      | succ k => simp at hk; obtain ⟨x, h1, h2⟩ := ih os h.2 k u hk; exact ⟨x, by simpa using h1, h2⟩
theorem gd_native : Cond.native arraycopyName ∈ lw_gd ∧ Cond.static arraycopyName ∈ lw_gd ∧ Cond.initialized "java/lang/System" ∈ lw_gd := ⟨inGd_in (pl := 633) (by decide +kernel), inGd_in (pl := 632) (by decide +kernel), inGd_in (pl := 133) (by decide +kernel)⟩
theorem gd_object : Cond.instanceMethod objectInit ∈ lw_gd ∧ Cond.code objectInit ⟨#[0xb1]⟩ 1 none ∈ lw_gd := ⟨inGd_in (pl := 141) (by decide +kernel), inGd_in (pl := 142) (by decide +kernel)⟩
theorem gd_math : Cond.initialized "java/lang/Math" ∈ lw_gd ∧ (Cond.static Lib.Math.min.name ∈ lw_gd ∧ Cond.code Lib.Math.min.name Lib.Math.min.code 2 (some .int) ∈ lw_gd) ∧ (Cond.static Lib.Math.max.name ∈ lw_gd ∧ Cond.code Lib.Math.max.name Lib.Math.max.code 2 (some .int) ∈ lw_gd) ∧ (Cond.static Lib.Math.abs.name ∈ lw_gd ∧ Cond.code Lib.Math.abs.name Lib.Math.abs.code 1 (some .int) ∈ lw_gd) ∧ (Cond.static Lib.MathLoose.abs_long.x ∈ lw_gd ∧ Cond.code Lib.MathLoose.abs_long.x Lib.MathLoose.abs_long.code 2 (some .long) ∈ lw_gd) := ⟨inGd_in (pl := 132) (by decide +kernel), ⟨inGd_in (pl := 516) (by decide +kernel), inGd_in (pl := 517) (by decide +kernel)⟩, ⟨inGd_in (pl := 552) (by decide +kernel), inGd_in (pl := 553) (by decide +kernel)⟩, ⟨inGd_in (pl := 735) (by decide +kernel), inGd_in (pl := 736) (by decide +kernel)⟩, ⟨inGd_in (pl := 775) (by decide +kernel), inGd_in (pl := 776) (by decide +kernel)⟩⟩
section SND
variable {p : Program} {l : Launch} {e : Env} {R : Room} {s : State} {m : MethodId} {args : Array Value} {below : List Frame} {meth : Method} {c : Code} {QQ : State → Prop} {d B N0 S0 : Nat} {g : FieldType → ClassId} {D : va_G} {M : aM} {E : Nat × Nat}
variable {L st : List Value} {w : aW}
set_option maxHeartbeats 4000000 in
theorem sd_step (C : a_X p l e R s m args below meth c d M B N0 g D) {MT : Nat → aM} (hCD : ∀ mi, Cond.code (MT mi).1 (MT mi).2.1 (MT mi).2.2.1 (MT mi).2.2.2.1 ∈ lw_gd) (hMT : ∀ mi, okHd (MT mi) = true) {K : Nat → List Value → aW → (Option Value → aW → Prop) → Prop} (hIH : ∀ mi as w Q, K mi as w Q → a_Met l D B g d (MT mi) as w Q) {Q : Option Value → aW → Prop} (hQQ : QQ = MQ below (a_Qc D B g Q (N0 + M.2.2.2.2.1.1) (S0 + M.2.2.2.2.1.2)) args s M.2.2.2.2.1.1 M.2.2.2.2.1.2 (fun q => B ≤ q)) (hE : E = (N0 + R.cells, S0 + R.slots)) {i : aI} (hok : okI MT M i = true) (h : aO_p (a_T p l e R s m args below meth c QQ M.2.2.1 B N0 S0 g D (i.1 + i.2.2.1)) (a_T p l e R s m args below meth c QQ M.2.2.1 B N0 S0 g D) Q (fun mi as rest => K mi as w (fun r w' => a_T p l e R s m args below meth c QQ M.2.2.1 B N0 S0 g D (i.1 + i.2.2.1) L (r.toList ++ rest) w')) (nx pD pY E M i L st w)) : a_T p l e R s m args below meth c QQ M.2.2.1 B N0 S0 g D i.1 L st w := by
  obtain ⟨pc, op, len, as, z⟩ := i
  have hE9 : E = (N0 + M.2.2.2.2.1.1, S0 + M.2.2.2.2.1.2) := by have := C.2.2.2.2.2.2.2.2.1; rw [this] at hE; exact hE
  simp only at h ⊢
  cases op with
  | iload k =>
    obtain ⟨⟨hd, hlen⟩, hf⟩ := okP (show (decide (decode M.2.1 pc = .ok ((.iload k), 2) ∧ len = 2) && okO MT M pc (.iload k) as z) = true from hok)
    subst hlen
    exact sd_iload C hd h
  | iload_n k =>
    obtain ⟨⟨hd, hlen⟩, hf⟩ := okP (show (decide (decode M.2.1 pc = .ok ((.iload_n k), 1) ∧ len = 1) && okO MT M pc (.iload_n k) as z) = true from hok)
    subst hlen
    exact sd_iload_n C hd h
  | lload k =>
    obtain ⟨⟨hd, hlen⟩, hf⟩ := okP (show (decide (decode M.2.1 pc = .ok ((.lload k), 2) ∧ len = 2) && okO MT M pc (.lload k) as z) = true from hok)
    subst hlen
    exact sd_lload C hd h
  | lload_n k =>
    obtain ⟨⟨hd, hlen⟩, hf⟩ := okP (show (decide (decode M.2.1 pc = .ok ((.lload_n k), 1) ∧ len = 1) && okO MT M pc (.lload_n k) as z) = true from hok)
    subst hlen
    exact sd_lload_n C hd h
  | aload k =>
    obtain ⟨⟨hd, hlen⟩, hf⟩ := okP (show (decide (decode M.2.1 pc = .ok ((.aload k), 2) ∧ len = 2) && okO MT M pc (.aload k) as z) = true from hok)
    subst hlen
    exact sd_aload C hd h
  | aload_n k =>
    obtain ⟨⟨hd, hlen⟩, hf⟩ := okP (show (decide (decode M.2.1 pc = .ok ((.aload_n k), 1) ∧ len = 1) && okO MT M pc (.aload_n k) as z) = true from hok)
    subst hlen
    exact sd_aload_n C hd h
  | istore k =>
    obtain ⟨⟨hd, hlen⟩, hf⟩ := okP (show (decide (decode M.2.1 pc = .ok ((.istore k), 2) ∧ len = 2) && okO MT M pc (.istore k) as z) = true from hok)
    subst hlen
    have hk := of_decide_eq_true hf
    exact sd_istore C hk hd h
  | istore_n k =>
    obtain ⟨⟨hd, hlen⟩, hf⟩ := okP (show (decide (decode M.2.1 pc = .ok ((.istore_n k), 1) ∧ len = 1) && okO MT M pc (.istore_n k) as z) = true from hok)
    subst hlen
    have hk := of_decide_eq_true hf
    exact sd_istore_n C hk hd h
  | astore k =>
    obtain ⟨⟨hd, hlen⟩, hf⟩ := okP (show (decide (decode M.2.1 pc = .ok ((.astore k), 2) ∧ len = 2) && okO MT M pc (.astore k) as z) = true from hok)
    subst hlen
    have hk := of_decide_eq_true hf
    exact sd_astore C hk hd h
  | astore_n k =>
    obtain ⟨⟨hd, hlen⟩, hf⟩ := okP (show (decide (decode M.2.1 pc = .ok ((.astore_n k), 1) ∧ len = 1) && okO MT M pc (.astore_n k) as z) = true from hok)
    subst hlen
    have hk := of_decide_eq_true hf
    exact sd_astore_n C hk hd h
  | lstore k =>
    obtain ⟨⟨hd, hlen⟩, hf⟩ := okP (show (decide (decode M.2.1 pc = .ok ((.lstore k), 2) ∧ len = 2) && okO MT M pc (.lstore k) as z) = true from hok)
    subst hlen
    have hk := of_decide_eq_true hf
    exact sd_lstore C hk hd h
  | lstore_n k =>
    obtain ⟨⟨hd, hlen⟩, hf⟩ := okP (show (decide (decode M.2.1 pc = .ok ((.lstore_n k), 1) ∧ len = 1) && okO MT M pc (.lstore_n k) as z) = true from hok)
    subst hlen
    have hk := of_decide_eq_true hf
    exact sd_lstore_n C hk hd h
  | iadd =>
    obtain ⟨⟨hd, hlen⟩, hf⟩ := okP (show (decide (decode M.2.1 pc = .ok ((.iadd), 1) ∧ len = 1) && okO MT M pc (.iadd) as z) = true from hok)
    subst hlen
    exact sd_iadd C hd h
  | isub =>
    obtain ⟨⟨hd, hlen⟩, hf⟩ := okP (show (decide (decode M.2.1 pc = .ok ((.isub), 1) ∧ len = 1) && okO MT M pc (.isub) as z) = true from hok)
    subst hlen
    exact sd_isub C hd h
  | imul =>
    obtain ⟨⟨hd, hlen⟩, hf⟩ := okP (show (decide (decode M.2.1 pc = .ok ((.imul), 1) ∧ len = 1) && okO MT M pc (.imul) as z) = true from hok)
    subst hlen
    exact sd_imul C hd h
  | iand =>
    obtain ⟨⟨hd, hlen⟩, hf⟩ := okP (show (decide (decode M.2.1 pc = .ok ((.iand), 1) ∧ len = 1) && okO MT M pc (.iand) as z) = true from hok)
    subst hlen
    exact sd_iand C hd h
  | ior =>
    obtain ⟨⟨hd, hlen⟩, hf⟩ := okP (show (decide (decode M.2.1 pc = .ok ((.ior), 1) ∧ len = 1) && okO MT M pc (.ior) as z) = true from hok)
    subst hlen
    exact sd_ior C hd h
  | ixor =>
    obtain ⟨⟨hd, hlen⟩, hf⟩ := okP (show (decide (decode M.2.1 pc = .ok ((.ixor), 1) ∧ len = 1) && okO MT M pc (.ixor) as z) = true from hok)
    subst hlen
    exact sd_ixor C hd h
  | ishl =>
    obtain ⟨⟨hd, hlen⟩, hf⟩ := okP (show (decide (decode M.2.1 pc = .ok ((.ishl), 1) ∧ len = 1) && okO MT M pc (.ishl) as z) = true from hok)
    subst hlen
    exact sd_ishl C hd h
  | ishr =>
    obtain ⟨⟨hd, hlen⟩, hf⟩ := okP (show (decide (decode M.2.1 pc = .ok ((.ishr), 1) ∧ len = 1) && okO MT M pc (.ishr) as z) = true from hok)
    subst hlen
    exact sd_ishr C hd h
  | iushr =>
    obtain ⟨⟨hd, hlen⟩, hf⟩ := okP (show (decide (decode M.2.1 pc = .ok ((.iushr), 1) ∧ len = 1) && okO MT M pc (.iushr) as z) = true from hok)
    subst hlen
    exact sd_iushr C hd h
  | ineg =>
    obtain ⟨⟨hd, hlen⟩, hf⟩ := okP (show (decide (decode M.2.1 pc = .ok ((.ineg), 1) ∧ len = 1) && okO MT M pc (.ineg) as z) = true from hok)
    subst hlen
    exact sd_ineg C hd h
  | idiv =>
    obtain ⟨⟨hd, hlen⟩, hf⟩ := okP (show (decide (decode M.2.1 pc = .ok ((.idiv), 1) ∧ len = 1) && okO MT M pc (.idiv) as z) = true from hok)
    subst hlen
    exact sd_idiv C hd h
  | irem =>
    obtain ⟨⟨hd, hlen⟩, hf⟩ := okP (show (decide (decode M.2.1 pc = .ok ((.irem), 1) ∧ len = 1) && okO MT M pc (.irem) as z) = true from hok)
    subst hlen
    exact sd_irem C hd h
  | ladd =>
    obtain ⟨⟨hd, hlen⟩, hf⟩ := okP (show (decide (decode M.2.1 pc = .ok ((.ladd), 1) ∧ len = 1) && okO MT M pc (.ladd) as z) = true from hok)
    subst hlen
    exact sd_ladd C hd h
  | lsub =>
    obtain ⟨⟨hd, hlen⟩, hf⟩ := okP (show (decide (decode M.2.1 pc = .ok ((.lsub), 1) ∧ len = 1) && okO MT M pc (.lsub) as z) = true from hok)
    subst hlen
    exact sd_lsub C hd h
  | lmul =>
    obtain ⟨⟨hd, hlen⟩, hf⟩ := okP (show (decide (decode M.2.1 pc = .ok ((.lmul), 1) ∧ len = 1) && okO MT M pc (.lmul) as z) = true from hok)
    subst hlen
    exact sd_lmul C hd h
  | ldiv =>
    obtain ⟨⟨hd, hlen⟩, hf⟩ := okP (show (decide (decode M.2.1 pc = .ok ((.ldiv), 1) ∧ len = 1) && okO MT M pc (.ldiv) as z) = true from hok)
    subst hlen
    exact sd_ldiv C hd h
  | lrem =>
    obtain ⟨⟨hd, hlen⟩, hf⟩ := okP (show (decide (decode M.2.1 pc = .ok ((.lrem), 1) ∧ len = 1) && okO MT M pc (.lrem) as z) = true from hok)
    subst hlen
    exact sd_lrem C hd h
  | lneg =>
    obtain ⟨⟨hd, hlen⟩, hf⟩ := okP (show (decide (decode M.2.1 pc = .ok ((.lneg), 1) ∧ len = 1) && okO MT M pc (.lneg) as z) = true from hok)
    subst hlen
    exact sd_lneg C hd h
  | lcmp =>
    obtain ⟨⟨hd, hlen⟩, hf⟩ := okP (show (decide (decode M.2.1 pc = .ok ((.lcmp), 1) ∧ len = 1) && okO MT M pc (.lcmp) as z) = true from hok)
    subst hlen
    exact sd_lcmp C hd h
  | i2l =>
    obtain ⟨⟨hd, hlen⟩, hf⟩ := okP (show (decide (decode M.2.1 pc = .ok ((.i2l), 1) ∧ len = 1) && okO MT M pc (.i2l) as z) = true from hok)
    subst hlen
    exact sd_i2l C hd h
  | l2i =>
    obtain ⟨⟨hd, hlen⟩, hf⟩ := okP (show (decide (decode M.2.1 pc = .ok ((.l2i), 1) ∧ len = 1) && okO MT M pc (.l2i) as z) = true from hok)
    subst hlen
    exact sd_l2i C hd h
  | dup =>
    obtain ⟨⟨hd, hlen⟩, hf⟩ := okP (show (decide (decode M.2.1 pc = .ok ((.dup), 1) ∧ len = 1) && okO MT M pc (.dup) as z) = true from hok)
    subst hlen
    exact sd_dup C hd h
  | dup2 =>
    obtain ⟨⟨hd, hlen⟩, hf⟩ := okP (show (decide (decode M.2.1 pc = .ok ((.dup2), 1) ∧ len = 1) && okO MT M pc (.dup2) as z) = true from hok)
    subst hlen
    exact sd_dup2 C hd h
  | pop =>
    obtain ⟨⟨hd, hlen⟩, hf⟩ := okP (show (decide (decode M.2.1 pc = .ok ((.pop), 1) ∧ len = 1) && okO MT M pc (.pop) as z) = true from hok)
    subst hlen
    exact sd_pop C hd h
  | iaload =>
    obtain ⟨⟨hd, hlen⟩, hf⟩ := okP (show (decide (decode M.2.1 pc = .ok ((.iaload), 1) ∧ len = 1) && okO MT M pc (.iaload) as z) = true from hok)
    subst hlen
    exact sd_iaload C hd h
  | baload =>
    obtain ⟨⟨hd, hlen⟩, hf⟩ := okP (show (decide (decode M.2.1 pc = .ok ((.baload), 1) ∧ len = 1) && okO MT M pc (.baload) as z) = true from hok)
    subst hlen
    exact sd_baload C hd h
  | laload =>
    obtain ⟨⟨hd, hlen⟩, hf⟩ := okP (show (decide (decode M.2.1 pc = .ok ((.laload), 1) ∧ len = 1) && okO MT M pc (.laload) as z) = true from hok)
    subst hlen
    exact sd_laload C hd h
  | iastore =>
    obtain ⟨⟨hd, hlen⟩, hf⟩ := okP (show (decide (decode M.2.1 pc = .ok ((.iastore), 1) ∧ len = 1) && okO MT M pc (.iastore) as z) = true from hok)
    subst hlen
    exact sd_iastore C hd h
  | bastore =>
    obtain ⟨⟨hd, hlen⟩, hf⟩ := okP (show (decide (decode M.2.1 pc = .ok ((.bastore), 1) ∧ len = 1) && okO MT M pc (.bastore) as z) = true from hok)
    subst hlen
    exact sd_bastore C hd h
  | lastore =>
    obtain ⟨⟨hd, hlen⟩, hf⟩ := okP (show (decide (decode M.2.1 pc = .ok ((.lastore), 1) ∧ len = 1) && okO MT M pc (.lastore) as z) = true from hok)
    subst hlen
    exact sd_lastore C hd h
  | arraylength =>
    obtain ⟨⟨hd, hlen⟩, hf⟩ := okP (show (decide (decode M.2.1 pc = .ok ((.arraylength), 1) ∧ len = 1) && okO MT M pc (.arraylength) as z) = true from hok)
    subst hlen
    exact sd_arraylength C hd h
  | aaload =>
    obtain ⟨⟨hd, hlen⟩, hf⟩ := okP (show (decide (decode M.2.1 pc = .ok ((.aaload), 1) ∧ len = 1) && okO MT M pc (.aaload) as z) = true from hok)
    subst hlen
    exact sd_aaload C hd h
  | iconst n =>
    obtain ⟨⟨hd, hlen⟩, hf⟩ := okP (show (decide (decode M.2.1 pc = .ok ((.iconst n), 1) ∧ len = 1) && okO MT M pc (.iconst n) as z) = true from hok)
    subst hlen
    exact sd_iconst C hd h
  | lconst n =>
    obtain ⟨⟨hd, hlen⟩, hf⟩ := okP (show (decide (decode M.2.1 pc = .ok ((.lconst n), 1) ∧ len = 1) && okO MT M pc (.lconst n) as z) = true from hok)
    subst hlen
    exact sd_lconst C hd h
  | bipush n =>
    obtain ⟨⟨hd, hlen⟩, hf⟩ := okP (show (decide (decode M.2.1 pc = .ok ((.bipush n), 2) ∧ len = 2) && okO MT M pc (.bipush n) as z) = true from hok)
    subst hlen
    have hn := of_decide_eq_true hf
    exact sd_bipush C hn hd h
  | sipush n =>
    obtain ⟨⟨hd, hlen⟩, hf⟩ := okP (show (decide (decode M.2.1 pc = .ok ((.sipush n), 3) ∧ len = 3) && okO MT M pc (.sipush n) as z) = true from hok)
    subst hlen
    have hn := of_decide_eq_true hf
    exact sd_sipush C hn hd h
  | ldc_w n =>
    obtain ⟨⟨hd, hlen⟩, hf⟩ := okP (show (decide (decode M.2.1 pc = .ok ((.ldc_w n), 3) ∧ len = 3) && okO MT M pc (.ldc_w n) as z) = true from hok)
    subst hlen
    have hn := hf
    exact sd_ldc_w C (aws_in (inGd_in hn)) hd h
  | ldc2_w n =>
    obtain ⟨⟨hd, hlen⟩, hf⟩ := okP (show (decide (decode M.2.1 pc = .ok ((.ldc2_w n), 3) ∧ len = 3) && okO MT M pc (.ldc2_w n) as z) = true from hok)
    subst hlen
    have hn := hf
    exact sd_ldc2_w C (aws_in (inGd_in hn)) hd h
  | iinc k n =>
    obtain ⟨⟨hd, hlen⟩, hf⟩ := okP (show (decide (decode M.2.1 pc = .ok ((.iinc k n), 3) ∧ len = 3) && okO MT M pc (.iinc k n) as z) = true from hok)
    subst hlen
    have hk := of_decide_eq_true hf
    exact sd_iinc C hk hd h
  | goto off =>
    obtain ⟨⟨hd, hlen⟩, hf⟩ := okP (show (decide (decode M.2.1 pc = .ok ((.goto off), 3) ∧ len = 3) && okO MT M pc (.goto off) as z) = true from hok)
    subst hlen
    have hj := hf
    exact sd_goto C (okJ_spec hj) hd h
  | ifCond cn off =>
    obtain ⟨⟨hd, hlen⟩, hf⟩ := okP (show (decide (decode M.2.1 pc = .ok ((.ifCond cn off), 3) ∧ len = 3) && okO MT M pc (.ifCond cn off) as z) = true from hok)
    subst hlen
    have hj := hf
    cases cn with
    | eq => exact sd_ifCond_eq C (okJ_spec hj) hd h
    | ne => exact sd_ifCond_ne C (okJ_spec hj) hd h
    | lt => exact sd_ifCond_lt C (okJ_spec hj) hd h
    | ge => exact sd_ifCond_ge C (okJ_spec hj) hd h
    | gt => exact sd_ifCond_gt C (okJ_spec hj) hd h
    | le => exact sd_ifCond_le C (okJ_spec hj) hd h
  | if_icmp cn off =>
    obtain ⟨⟨hd, hlen⟩, hf⟩ := okP (show (decide (decode M.2.1 pc = .ok ((.if_icmp cn off), 3) ∧ len = 3) && okO MT M pc (.if_icmp cn off) as z) = true from hok)
    subst hlen
    have hj := hf
    cases cn with
    | eq => exact sd_if_icmp_eq C (okJ_spec hj) hd h
    | ne => exact sd_if_icmp_ne C (okJ_spec hj) hd h
    | lt => exact sd_if_icmp_lt C (okJ_spec hj) hd h
    | ge => exact sd_if_icmp_ge C (okJ_spec hj) hd h
    | gt => exact sd_if_icmp_gt C (okJ_spec hj) hd h
    | le => exact sd_if_icmp_le C (okJ_spec hj) hd h
  | tableswitch df lo hi offs =>
    simp only [okI, Bool.and_eq_true, decide_eq_true_eq] at hok
    refine sd_tsw C (fun t ts e => ?_) hok.1 h
    have h2 := hok.2
    rw [e] at h2
    have h3 := okS_spec _ _ h2
    refine ⟨?_, fun k u hu => ?_⟩
    · obtain ⟨o1, q1, q2⟩ := h3 0 t (by simp)
      simp at q1
      rw [q1]; exact q2
    · obtain ⟨o1, q1, q2⟩ := h3 (k + 1) u (by simpa using hu)
      exact ⟨o1, by simpa using q1, q2⟩
  | getfield idx =>
    obtain ⟨⟨hd, hlen⟩, hf⟩ := okP (show (decide (decode M.2.1 pc = .ok ((.getfield idx), 3) ∧ len = 3) && okO MT M pc (.getfield idx) as z) = true from hok)
    subst hlen
    exact sd_getfield C (fun ci k q e => by obtain ⟨C1, T, N, h1, h2, h3, h4, -⟩ := okF_spec hf ci k q e; exact ⟨C1, T, N, h1, h2, h3, h4⟩) hd h
  | putfield idx =>
    obtain ⟨⟨hd, hlen⟩, hf⟩ := okP (show (decide (decode M.2.1 pc = .ok ((.putfield idx), 3) ∧ len = 3) && okO MT M pc (.putfield idx) as z) = true from hok)
    subst hlen
    exact sd_putfield C (fun ci k q e => by obtain ⟨C1, T, N, h1, h2, h3, h4, h5⟩ := okF_spec hf ci k q e; exact ⟨C1, T, N, h1, h2, h3, h4, h5 rfl⟩) hd h
  | aastore =>
    obtain ⟨⟨hd, hlen⟩, hf⟩ := okP (show (decide (decode M.2.1 pc = .ok ((.aastore), 1) ∧ len = 1) && okO MT M pc (.aastore) as z) = true from hok)
    subst hlen
    simp only [okO] at hf
    refine sd_aastore C (fun ci e => ?_) hd h
    subst e
    simp only at hf
    split at hf
    · rename_i q hq
      simp only [decide_eq_true_eq] at hf
      exact ⟨q.2.1, q.2.2, by rw [← hf]; exact hq⟩
    · cases hf
  | newarray t =>
    obtain ⟨⟨hd, hlen⟩, hf⟩ := okP (show (decide (decode M.2.1 pc = .ok ((.newarray t), 2) ∧ len = 2) && okO MT M pc (.newarray t) as z) = true from hok)
    subst hlen
    obtain ⟨ht, hw⟩ := okP hf
    exact sd_newarray C hE ⟨ht, inGd_in hw⟩ hd h
  | anewarray idx =>
    obtain ⟨⟨hd, hlen⟩, hf⟩ := okP (show (decide (decode M.2.1 pc = .ok ((.anewarray idx), 3) ∧ len = 3) && okO MT M pc (.anewarray idx) as z) = true from hok)
    subst hlen
    have hw := hf
    exact sd_anewarray C hE (inGd_in hw) hd h
  | new idx =>
    obtain ⟨⟨hd, hlen⟩, hf⟩ := okP (show (decide (decode M.2.1 pc = .ok ((.new idx), 3) ∧ len = 3) && okO MT M pc (.new idx) as z) = true from hok)
    subst hlen
    simp only [okO] at hf
    refine sd_new C hE (fun ci q e => ?_) hd h
    subst e
    split at hf
    · rename_i ci2 pl hh
      cases hh
      split at hf
      · rename_i r hr
        exact ⟨r.1, r.2.1, r.2.2, hr, inGd_in hf⟩
      · cases hf
    · cases hf
  | invokespecial idx =>
    obtain ⟨⟨hd, hlen⟩, hf⟩ := okP (show (decide (decode M.2.1 pc = .ok ((.invokespecial idx), 3) ∧ len = 3) && okO MT M pc (.invokespecial idx) as z) = true from hok)
    subst hlen
    simp only [okO] at hf
    split at hf
    · rename_i pl
      exact sd_objinit C rfl (inGd_in hf) gd_object hd h
    · rename_i mi n mc ms pl
      simp only [Bool.and_eq_true, decide_eq_true_eq] at hf
      obtain ⟨⟨h1, h2, h3⟩, h4⟩ := hf
      have hs := okHd_spec (hCD mi) (hMT mi)
      obtain ⟨k1, k2⟩ := hs.2.2.2.2 h1
      exact sd_special C hIH hE rfl h3 k2 (by rw [← h2]; exact hs.1) (Or.inl (inGd_in h4)) k1 hd h
    · rename_i mi n mc ms pl x
      simp only [decide_eq_true_eq] at hf
      obtain ⟨h1, h2, h3, h4⟩ := hf
      have hs := okHd_spec (hCD mi) (hMT mi)
      obtain ⟨k1, k2⟩ := hs.2.2.2.2 h1
      exact sd_special C hIH hE rfl h3 k2 (by rw [← h2]; exact hs.1) (Or.inr ⟨_, h4⟩) k1 hd h
    · cases hf
  | invokevirtual idx =>
    obtain ⟨⟨hd, hlen⟩, hf⟩ := okP (show (decide (decode M.2.1 pc = .ok ((.invokevirtual idx), 3) ∧ len = 3) && okO MT M pc (.invokevirtual idx) as z) = true from hok)
    subst hlen
    simp only [okO] at hf
    split at hf
    · rename_i mi n ci pl
      simp only [Bool.and_eq_true, decide_eq_true_eq] at hf
      obtain ⟨⟨h1, h2, h3, h5⟩, h4⟩ := hf
      have hs := okHd_spec (hCD mi) (hMT mi)
      obtain ⟨k1, T, N, k2⟩ := hs.2.2.2.1 h1
      rw [h3] at k2
      exact sd_virtual C hIH rfl k2 h5 (by rw [← h2]; exact hs.1) (inGd_in h4) k1 hd h
    · cases hf
  | invokestatic idx =>
    obtain ⟨⟨hd, hlen⟩, hf⟩ := okP (show (decide (decode M.2.1 pc = .ok ((.invokestatic idx), 3) ∧ len = 3) && okO MT M pc (.invokestatic idx) as z) = true from hok)
    subst hlen
    simp only [okO] at hf
    split at hf
    · rename_i pl
      exact sd_arraycopy C rfl (inGd_in hf) gd_native hd h
    · rename_i k pl
      obtain ⟨h1, h2⟩ := okP hf
      have h3 := inGd_in h2
      exact sd_math C rfl ⟨fun e => by subst e; exact h3, fun e => by subst e; exact h3, fun e => by subst e; exact h3, fun e => by subst e; exact h3⟩ gd_math.1 gd_math.2.1 gd_math.2.2.1 gd_math.2.2.2.1 gd_math.2.2.2.2 hd h
    · rename_i mi n pl
      simp only [Bool.and_eq_true, decide_eq_true_eq] at hf
      obtain ⟨⟨h1, h2, h5⟩, h4⟩ := hf
      have hs := okHd_spec (hCD mi) (hMT mi)
      exact sd_static C hIH rfl h5 (by rw [← h2]; exact hs.1) (inGd_in h4) (hs.2.2.1 h1) hd h
    · cases hf
  | ireturn =>
    obtain ⟨⟨hd, hlen⟩, hf⟩ := okP (show (decide (decode M.2.1 pc = .ok ((.ireturn), 1) ∧ len = 1) && okO MT M pc (.ireturn) as z) = true from hok)
    subst hlen
    have hm := of_decide_eq_true hf
    exact sd_ireturn C hQQ hm hd h
  | lreturn =>
    obtain ⟨⟨hd, hlen⟩, hf⟩ := okP (show (decide (decode M.2.1 pc = .ok ((.lreturn), 1) ∧ len = 1) && okO MT M pc (.lreturn) as z) = true from hok)
    subst hlen
    have hm := of_decide_eq_true hf
    exact sd_lreturn C hQQ hm hd h
  | areturn =>
    obtain ⟨⟨hd, hlen⟩, hf⟩ := okP (show (decide (decode M.2.1 pc = .ok ((.areturn), 1) ∧ len = 1) && okO MT M pc (.areturn) as z) = true from hok)
    subst hlen
    have hm := of_decide_eq_true hf
    exact sd_areturn C hQQ hm hd h
  | return_ =>
    obtain ⟨⟨hd, hlen⟩, hf⟩ := okP (show (decide (decode M.2.1 pc = .ok ((.return_), 1) ∧ len = 1) && okO MT M pc (.return_) as z) = true from hok)
    subst hlen
    exact sd_return C hQQ hE9 hd h
  | nop =>
    simp only [okI, decide_eq_true_eq] at hok
    obtain ⟨h1, h2⟩ := hok
    subst h1
    exact h
  | _ => exact False.elim h
end SND
def a_chain : Nat → List aI → Bool
  | _, [] => true
  | pc, i :: is => decide (i.1 = pc) && a_chain (pc + i.2.2.1) is
def okB (MT : Nat → aM) (M : aM) : Bool := M.2.2.2.2.2.2.all (fun q => a_chain q.1 q.2 && q.2.all (okI MT M))
theorem aO_p_mono {T T' : List Value → List Value → aW → Prop} {go go' : Nat → List Value → List Value → aW → Prop} {RT RT' : Option Value → aW → Prop} {CL CL' : Nat → List Value → List Value → Prop} (h1 : ∀ L st w, T L st w → T' L st w) (h2 : ∀ t L st w, go t L st w → go' t L st w) (h3 : ∀ r w, RT r w → RT' r w) (h4 : ∀ m as r, CL m as r → CL' m as r) {o : Option aO} (h : aO_p T go RT CL o) : aO_p T' go' RT' CL' o := by
  rcases o with _ | q | q | q | q
  · exact h
  · exact h1 _ _ _ h
  · exact h2 _ _ _ _ h
  · exact h3 _ _ h
  · exact h4 _ _ _ h
theorem ex_cons {Df : Nat → List Value} {Y : Nat → Nat → FieldType} {E : Nat × Nat} {K : Nat → List Value → aW → (Option Value → aW → Prop) → Prop} {M : aM} {go : Nat → List Value → List Value → aW → Prop} {Q : Option Value → aW → Prop} {i : aI} {is : List aI} {L st : List Value} {w : aW} (h : ex Df Y E K M go Q (i :: is) L st w) : aO_p (ex Df Y E K M go Q is) go Q (fun mi as rest => K mi as w (fun r w' => ex Df Y E K M go Q is L (r.toList ++ rest) w')) (nx Df Y E M i L st w) := by
  unfold ex at h
  cases hn : nx Df Y E M i L st w with
  | none => rw [hn] at h; exact h
  | some q => rw [hn] at h; rcases q with q | q | q | q <;> exact h
section SND
variable {p : Program} {l : Launch} {e : Env} {R : Room} {s : State} {m : MethodId} {args : Array Value} {below : List Frame} {meth : Method} {c : Code} {QQ : State → Prop} {d B N0 S0 : Nat} {g : FieldType → ClassId} {D : va_G} {M : aM} {E : Nat × Nat}
theorem sd_block (C : a_X p l e R s m args below meth c d M B N0 g D) {MT : Nat → aM} (hCD : ∀ mi, Cond.code (MT mi).1 (MT mi).2.1 (MT mi).2.2.1 (MT mi).2.2.2.1 ∈ lw_gd) (hMT : ∀ mi, okHd (MT mi) = true) {K : Nat → List Value → aW → (Option Value → aW → Prop) → Prop} (hKm : aK_mono K) (hIH : ∀ mi as w Q, K mi as w Q → a_Met l D B g d (MT mi) as w Q) {Q : Option Value → aW → Prop} (hQQ : QQ = MQ below (a_Qc D B g Q (N0 + M.2.2.2.2.1.1) (S0 + M.2.2.2.2.1.2)) args s M.2.2.2.2.1.1 M.2.2.2.2.1.2 (fun q => B ≤ q)) (hE : E = (N0 + R.cells, S0 + R.slots)) :
    ∀ (is : List aI) (pc : Nat) (L st : List Value) (w : aW), a_chain pc is = true → is.all (okI MT M) = true → ex pD pY E K M (a_T p l e R s m args below meth c QQ M.2.2.1 B N0 S0 g D) Q is L st w → a_T p l e R s m args below meth c QQ M.2.2.1 B N0 S0 g D pc L st w := by
  intro is
  induction is with
  | nil => intro pc L st w _ _ h; exact h.elim
  | cons i is ih =>
    intro pc L st w hch hok h
    simp only [a_chain, Bool.and_eq_true, decide_eq_true_eq] at hch
    simp only [List.all_cons, Bool.and_eq_true] at hok
    obtain ⟨hpc, hch⟩ := hch
    subst hpc
    refine sd_step C hCD hMT hIH hQQ hE hok.1 (aO_p_mono (fun L st w h => ih _ L st w hch hok.2 h) (fun _ _ _ _ h => h) (fun _ _ h => h) (fun mi as r h => hKm _ _ _ _ _ (fun r w h => ih _ _ _ _ hch hok.2 h) h) (ex_cons h))
end SND
theorem a_in_len (B : Nat) (as : List Value) : (lg_sl (as.map (a_v B))).length = (aL_in as).length := by
  induction as with
  | nil => rfl
  | cons v r ih => cases v <;> simp_all [lg_sl, aL_in, a_v, Value.category]
theorem a_in_args (B : Nat) : ∀ (as : List Value) (i k : Nat) (v : Value), (aL_in as)[k]? = some v → v ≠ .null → (i + k, a_v B v) ∈ lv_args i (as.map (a_v B)) := by
  intro as
  induction as with
  | nil => intro i k v h _; simp [aL_in] at h
  | cons u r ih =>
    intro i k v h hn
    have two : ∀ x : Value, x.category = 2 → (x :: .null :: aL_in r)[k]? = some v → (i + k, a_v B v) ∈ lv_args i ((x :: r).map (a_v B)) := by
      intro x hx h
      rw [List.map_cons]
      unfold lv_args
      match k, h with
      | 0, h => simp at h; rw [h]; exact List.mem_cons_self
      | 1, h => simp at h; exact absurd h.symm hn
      | k + 2, h =>
        refine List.mem_cons_of_mem _ ?_
        have := ih (i + 2) k v (by simpa using h) hn
        rw [a_v_cat, hx]
        rw [show i + (k + 2) = i + 2 + k by omega]
        exact this
    have one : ∀ x : Value, x.category = 1 → (x :: aL_in r)[k]? = some v → (i + k, a_v B v) ∈ lv_args i ((x :: r).map (a_v B)) := by
      intro x hx h
      rw [List.map_cons]
      unfold lv_args
      match k, h with
      | 0, h => simp at h; rw [h]; exact List.mem_cons_self
      | k + 1, h =>
        refine List.mem_cons_of_mem _ ?_
        have := ih (i + 1) k v (by simpa using h) hn
        rw [a_v_cat, hx]
        rw [show i + (k + 1) = i + 1 + k by omega]
        exact this
    cases u <;> first | exact two _ rfl h | exact one _ rfl h
theorem a_LR_in {B n : Nat} {as : List Value} {ls : Array Slot} (hn : (aL_in as).length ≤ n) (h : lv_has ls n (lv_args 0 (as.map (a_v B)))) : a_LR B ls n (aL_0 n as) := by
  obtain ⟨h1, h2, h3⟩ := h
  refine ⟨by simp [aL_0]; omega, h1, h2, fun k v hv hnn => ?_⟩
  unfold aL_0 at hv
  by_cases hk : k < (aL_in as).length
  · rw [List.getElem?_append_left hk] at hv
    have := a_in_args B as 0 k v hv hnn
    have := h3 _ this
    simpa using this
  · rw [List.getElem?_append_right (by omega), List.getElem?_replicate] at hv
    split at hv
    · cases hv; exact absurd rfl hnn
    · cases hv
theorem lookup_mem {α : Type} {l : List (Nat × α)} {k : Nat} {v : α} (h : l.lookup k = some v) : (k, v) ∈ l := by
  induction l with
  | nil => cases h
  | cons q l ih =>
    obtain ⟨a, b⟩ := q
    rw [List.lookup_cons] at h
    split at h
    · rename_i hk
      cases h
      have : k = a := by simpa using hk
      rw [this]; exact List.mem_cons_self
    · exact List.mem_cons_of_mem _ (ih h)
/-- A CALL OF THE SMALL MACHINE IS A CONTRACT OF THE MACHINE'S -/
theorem cl_sound {l : Launch} {B : Nat} {g : FieldType → ClassId} {D : va_G} {MT : Nat → aM} (hCD : ∀ mi, Cond.code (MT mi).1 (MT mi).2.1 (MT mi).2.2.1 (MT mi).2.2.2.1 ∈ lw_gd) (hMT : ∀ mi, okHd (MT mi) = true) (hMB : ∀ mi, okB MT (MT mi) = true) : ∀ (d mi : Nat) (as : List Value) (w : aW) (Q : Option Value → aW → Prop), Cl pD pY MT d mi as w Q → a_Met l D B g d (MT mi) as w Q := by
  intro d
  induction d with
  | zero => intro mi as w Q h; exact h.elim
  | succ d ih =>
    intro mi as w Q h
    obtain ⟨hlen, h⟩ := h
    have hs := okHd_spec (hCD mi) (hMT mi)
    have hb0 := hMB mi
    generalize MT mi = M at h hlen hs hb0
    refine Met.ofW (cc := M.2.1) (maxL := M.2.2.1) (ret := M.2.2.2.1) hs.2.1 rfl ?_
    intro p e s m args below meth c s₁ Bd hml hv
    obtain ⟨rfl, hsz, hP, hK⟩ := hv
    have C : a_X p l e (a_R (d + 1) M) s m (as.map (a_v B)).toArray below meth c d M B w.length g D := ⟨Bd.exec, Bd.bytes, hml, Bd.returns, findClass_of_methodNamed Bd.named, atoms_spec (ws := aws M) Bd.pre, Bd.notSynchronized, hK, rfl, (name_of_methodNamed Bd.named Bd.method).1, hsz⟩
    have key := h (a_T p l e (a_R (d + 1) M) s m (as.map (a_v B)).toArray below meth c (MQ below (a_Qc D B g Q (w.length + M.2.2.2.2.1.1) (aW_s w + M.2.2.2.2.1.2)) (as.map (a_v B)).toArray s M.2.2.2.2.1.1 M.2.2.2.2.1.2 (fun q => B ≤ q)) M.2.2.1 B w.length (aW_s w) g D) (fun pc L st w1 he => by
      cases hl : M.2.2.2.2.2.2.lookup pc with
      | none =>
        unfold a_blk at he
        rw [hl] at he
        exact he.elim
      | some is =>
        unfold a_blk at he
        rw [hl] at he
        have hm : (pc, is) ∈ M.2.2.2.2.2.2 := lookup_mem hl
        have h2 := List.all_eq_true.mp hb0 _ hm
        simp only [Bool.and_eq_true] at h2
        exact sd_block C hCD hMT (cl_mono pD pY MT d) ih rfl rfl is pc L st w1 h2.1 h2.2 he)
    have hl := lv_entry (as.map (a_v B)) (n := M.2.2.1) (by rw [a_in_len]; exact hlen)
    rw [lg_entry_eq]
    generalize (lg_sl (as.map (a_v B)) ++ List.replicate (M.2.2.1 - (lg_sl (as.map (a_v B))).length) Slot.unset).toArray = ls at hl ⊢
    exact key ls s.heap [] 0 0 (a_LR_in hlen hl) hP va_S.rf rfl rfl (Nat.zero_le _) (Nat.zero_le _)
