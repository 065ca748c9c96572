/-! ===== THE SMALL MACHINE: a pure machine over a list of cells; a cell's place is its address less the base ===== -/
/-- a cell: an array (its type, length, contents) or an object (its class's number, its fields) -/
abbrev aC : Type := (FieldType × vp_A) ⊕ (Nat × List Value)
abbrev aW : Type := List aC
/-- an instruction: its place, itself, its length, resolved numbers, a constant -/
abbrev aI : Type := Nat × Instr × Nat × List Nat × Int
/-- a method: name, bytes, locals, answer's type; cells and slots that it makes; kind (0 static, 1 virtual, 2 init), parameters, class's number, places of its words; blocks -/
abbrev aM : Type := MethodName × ByteArray × Nat × Option FieldType × (Nat × Nat) × (Nat × Nat × Nat × List Nat) × List (Nat × List aI)
/-- what an instruction comes to: the next one; a jump; an answer; a call -/
abbrev aO : Type := (List Value × List Value × aW) ⊕ ((Nat × List Value × List Value × aW) ⊕ ((Option Value × aW) ⊕ (Nat × List Value × List Value)))
def an_go (L st : List Value) (w : aW) : Option aO := some (.inl (L, st, w))
def an_jp (t : Nat) (L st : List Value) (w : aW) : Option aO := some (.inr (.inl (t, L, st, w)))
def an_rt (r : Option Value) (w : aW) : Option aO := some (.inr (.inr (.inl (r, w))))
def an_cl (m : Nat) (as rest : List Value) : Option aO := some (.inr (.inr (.inr (m, as, rest))))
def an_if (c : Prop) [Decidable c] (t : Nat) (L r : List Value) (w : aW) : Option aO := if c then an_jp t L r w else an_go L r w
/-- locals: a place that holds nothing is null -/
def aL_g : List Value → Nat → Value
  | [], _ => .null
  | v :: _, 0 => v
  | _ :: r, i + 1 => aL_g r i
def aL_k : Value → Value
  | .long _ => .null
  | .double _ => .null
  | v => v
def aL_s : List Value → Nat → Value → List Value
  | [], _, _ => []
  | _ :: r, 0, v => v :: r
  | a :: r, i + 1, v => (if i = 0 then aL_k a else a) :: aL_s r i v
def aL_n : List Value → Nat → List Value
  | [], _ => []
  | _ :: r, 0 => .null :: r
  | a :: r, i + 1 => a :: aL_n r i
def aL_in : List Value → List Value
  | [] => []
  | .long x :: r => .long x :: .null :: aL_in r
  | .double x :: r => .double x :: .null :: aL_in r
  | v :: r => v :: aL_in r
def aL_0 (n : Nat) (vs : List Value) : List Value := aL_in vs ++ List.replicate (n - (aL_in vs).length) .null
def aC_n : aC → Nat
  | .inl x => x.2.1
  | .inr x => x.2.length
def aW_s (w : aW) : Nat := (w.map aC_n).sum
def aV_c (st : List Value) : Nat := (st.map fun v => v.category).sum
/-- what a field of a type may hold -/
def aF_ok : FieldType → Value → Bool
  | .int, .int _ => true
  | .boolean, .int v => v == 0 || v == 1
  | .long, .long _ => true
  | .object _, .ref _ => true
  | .array _, .ref _ => true
  | _, _ => false
/-- the types of an array that the machine makes: its start -/
def aA_0 (ty : FieldType) (n : Nat) : vp_A := match ty with
  | .long => (n, .inr (.inl fun _ => 0))
  | .object _ => (n, .inr (.inr (.inr (.inr fun _ => none))))
  | _ => (n, .inl fun _ => 0)
def aA_t : ArrayType → FieldType
  | .int => .int
  | .long => .long
  | .boolean => .boolean
  | _ => .byte
def aV_b : Int32 → Int32 := vp_nar .boolean
/-- the types of the classes' fields -/
def nx (D : Nat → List Value) (Y : Nat → Nat → FieldType) (E : Nat × Nat) (M : aM) (i : aI) (L st : List Value) (w : aW) : Option aO :=
  match i with
  | (_, op, _, as, z) => match op with
    | .nop => match as with
      | [t] => an_jp t L st w
      | _ => none
    | .iload k => match aL_g L k with
      | .int x => an_go L (.int x :: st) w
      | _ => none
    | .iload_n k => match aL_g L k with
      | .int x => an_go L (.int x :: st) w
      | _ => none
    | .lload k => match aL_g L k with
      | .long x => an_go L (.long x :: st) w
      | _ => none
    | .lload_n k => match aL_g L k with
      | .long x => an_go L (.long x :: st) w
      | _ => none
    | .aload k => match aL_g L k with
      | .ref x => an_go L (.ref x :: st) w
      | _ => none
    | .aload_n k => match aL_g L k with
      | .ref x => an_go L (.ref x :: st) w
      | _ => none
    | .istore k => match st with
      | .int x :: r => an_go (aL_s L k (.int x)) r w
      | _ => none
    | .istore_n k => match st with
      | .int x :: r => an_go (aL_s L k (.int x)) r w
      | _ => none
    | .lstore k => match st with
      | .long x :: r => an_go (aL_n (aL_s L k (.long x)) (k + 1)) r w
      | _ => none
    | .lstore_n k => match st with
      | .long x :: r => an_go (aL_n (aL_s L k (.long x)) (k + 1)) r w
      | _ => none
    | .astore k => match st with
      | .ref x :: r => an_go (aL_s L k (.ref x)) r w
      | _ => none
    | .astore_n k => match st with
      | .ref x :: r => an_go (aL_s L k (.ref x)) r w
      | _ => none
    | .iconst n => an_go L (.int (Int32.ofInt n) :: st) w
    | .bipush n => an_go L (.int (Int32.ofInt n) :: st) w
    | .sipush n => an_go L (.int (Int32.ofInt n) :: st) w
    | .lconst n => an_go L (.long (Int64.ofNat n) :: st) w
    | .ldc_w _ => an_go L (.int (Int32.ofInt z) :: st) w
    | .ldc2_w _ => an_go L (.long (Int64.ofInt z) :: st) w
    | .iadd => match st with
      | .int y :: .int x :: r => an_go L (.int (x + y) :: r) w
      | _ => none
    | .isub => match st with
      | .int y :: .int x :: r => an_go L (.int (x - y) :: r) w
      | _ => none
    | .imul => match st with
      | .int y :: .int x :: r => an_go L (.int (x * y) :: r) w
      | _ => none
    | .iand => match st with
      | .int y :: .int x :: r => an_go L (.int (x &&& y) :: r) w
      | _ => none
    | .ior => match st with
      | .int y :: .int x :: r => an_go L (.int (x ||| y) :: r) w
      | _ => none
    | .ixor => match st with
      | .int y :: .int x :: r => an_go L (.int (x ^^^ y) :: r) w
      | _ => none
    | .ishl => match st with
      | .int y :: .int x :: r => an_go L (.int (x <<< (y &&& 31)) :: r) w
      | _ => none
    | .ishr => match st with
      | .int y :: .int x :: r => an_go L (.int (x >>> (y &&& 31)) :: r) w
      | _ => none
    | .iushr => match st with
      | .int y :: .int x :: r => an_go L (.int ((x.toUInt32 >>> (y.toUInt32 &&& Int32.toUInt32 31)).toInt32) :: r) w
      | _ => none
    | .ineg => match st with
      | .int x :: r => an_go L (.int (-x) :: r) w
      | _ => none
    | .idiv => match st with
      | .int y :: .int x :: r => if y = 0 then none else an_go L (.int (x / y) :: r) w
      | _ => none
    | .irem => match st with
      | .int y :: .int x :: r => if y = 0 then none else an_go L (.int (x % y) :: r) w
      | _ => none
    | .ladd => match st with
      | .long y :: .long x :: r => an_go L (.long (x + y) :: r) w
      | _ => none
    | .lsub => match st with
      | .long y :: .long x :: r => an_go L (.long (x - y) :: r) w
      | _ => none
    | .lmul => match st with
      | .long y :: .long x :: r => an_go L (.long (x * y) :: r) w
      | _ => none
    | .ldiv => match st with
      | .long y :: .long x :: r => if y = 0 then none else an_go L (.long (x / y) :: r) w
      | _ => none
    | .lrem => match st with
      | .long y :: .long x :: r => if y = 0 then none else an_go L (.long (x % y) :: r) w
      | _ => none
    | .lneg => match st with
      | .long x :: r => an_go L (.long (-x) :: r) w
      | _ => none
    | .lcmp => match st with
      | .long y :: .long x :: r => an_go L (.int (lg_cmp x y) :: r) w
      | _ => none
    | .i2l => match st with
      | .int x :: r => an_go L (.long x.toInt64 :: r) w
      | _ => none
    | .l2i => match st with
      | .long x :: r => an_go L (.int x.toInt32 :: r) w
      | _ => none
    | .iinc k n => match aL_g L k with
      | .int x => an_go (aL_s L k (.int (x + Int32.ofInt n))) st w
      | _ => none
    | .dup => match st with
      | v :: r => if v.category = 1 then an_go L (v :: v :: r) w else none
      | _ => none
    | .dup2 => match st with
      | u :: v :: r => if u.category = 1 ∧ v.category = 1 then an_go L (u :: v :: u :: v :: r) w else none
      | _ => none
    | .pop => match st with
      | v :: r => if v.category = 1 then an_go L r w else none
      | _ => none
    | .goto _ => match as with
      | [t] => an_jp t L st w
      | _ => none
    | .ifCond .eq _ => match as, st with
      | [t], .int x :: r => an_if (x = 0) t L r w
      | _, _ => none
    | .ifCond .ne _ => match as, st with
      | [t], .int x :: r => an_if (x ≠ 0) t L r w
      | _, _ => none
    | .ifCond .lt _ => match as, st with
      | [t], .int x :: r => an_if (x < 0) t L r w
      | _, _ => none
    | .ifCond .ge _ => match as, st with
      | [t], .int x :: r => an_if (0 ≤ x) t L r w
      | _, _ => none
    | .ifCond .gt _ => match as, st with
      | [t], .int x :: r => an_if (0 < x) t L r w
      | _, _ => none
    | .ifCond .le _ => match as, st with
      | [t], .int x :: r => an_if (x ≤ 0) t L r w
      | _, _ => none
    | .if_icmp .eq _ => match as, st with
      | [t], .int y :: .int x :: r => an_if (x = y) t L r w
      | _, _ => none
    | .if_icmp .ne _ => match as, st with
      | [t], .int y :: .int x :: r => an_if (x ≠ y) t L r w
      | _, _ => none
    | .if_icmp .lt _ => match as, st with
      | [t], .int y :: .int x :: r => an_if (x < y) t L r w
      | _, _ => none
    | .if_icmp .ge _ => match as, st with
      | [t], .int y :: .int x :: r => an_if (y ≤ x) t L r w
      | _, _ => none
    | .if_icmp .gt _ => match as, st with
      | [t], .int y :: .int x :: r => an_if (y < x) t L r w
      | _, _ => none
    | .if_icmp .le _ => match as, st with
      | [t], .int y :: .int x :: r => an_if (x ≤ y) t L r w
      | _, _ => none
    | .tableswitch _ lo hi _ => match as, st with
      | t :: ts, .int x :: r => if x.toInt < lo ∨ hi < x.toInt then an_jp t L r w else match ts[(x.toInt - lo).toNat]? with
        | some u => an_jp u L r w
        | none => none
      | _, _ => none
    | .getfield _ => match as, st with
      | ci :: k :: _, .ref a :: r => match w[a]? with
        | some (.inr (c, fs)) => if c = ci then (match fs[k]? with
          | some v => an_go L (v :: r) w
          | none => none) else none
        | _ => none
      | _, _ => none
    | .putfield _ => match as, st with
      | ci :: k :: _, v :: .ref a :: r => match w[a]? with
        | some (.inr (c, fs)) => if c = ci ∧ k < fs.length ∧ aF_ok (Y ci k) v = true then an_go L r (w.set a (.inr (c, fs.set k v))) else none
        | _ => none
      | _, _ => none
    | .iaload => match st with
      | .int j :: .ref a :: r => match w[a]? with
        | some (.inl (.int, n, .inl f)) => if j < 0 ∨ n ≤ j.toNatClampNeg then none else an_go L (.int (f j.toNatClampNeg) :: r) w
        | _ => none
      | _ => none
    | .baload => match st with
      | .int j :: .ref a :: r => match w[a]? with
        | some (.inl (.boolean, n, .inl f)) => if j < 0 ∨ n ≤ j.toNatClampNeg then none else an_go L (.int (f j.toNatClampNeg) :: r) w
        | _ => none
      | _ => none
    | .laload => match st with
      | .int j :: .ref a :: r => match w[a]? with
        | some (.inl (.long, n, .inr (.inl f))) => if j < 0 ∨ n ≤ j.toNatClampNeg then none else an_go L (.long (f j.toNatClampNeg) :: r) w
        | _ => none
      | _ => none
    | .aaload => match st with
      | .int j :: .ref a :: r => match w[a]? with
        | some (.inl (.object C, n, .inr (.inr (.inr (.inr f))))) => if j < 0 ∨ n ≤ j.toNatClampNeg ∨ ¬ C = "PairSorts$Table" then none else (match f j.toNatClampNeg with
          | some b => an_go L (.ref b :: r) w
          | none => none)
        | _ => none
      | _ => none
    | .iastore => match st with
      | .int x :: .int j :: .ref a :: r => match w[a]? with
        | some (.inl (.int, n, .inl f)) => if j < 0 ∨ n ≤ j.toNatClampNeg then none else an_go L r (w.set a (.inl (.int, n, .inl (upd f j.toNatClampNeg x))))
        | _ => none
      | _ => none
    | .bastore => match st with
      | .int x :: .int j :: .ref a :: r => match w[a]? with
        | some (.inl (.boolean, n, .inl f)) => if j < 0 ∨ n ≤ j.toNatClampNeg then none else an_go L r (w.set a (.inl (.boolean, n, .inl (upd f j.toNatClampNeg (aV_b x)))))
        | _ => none
      | _ => none
    | .lastore => match st with
      | .long x :: .int j :: .ref a :: r => match w[a]? with
        | some (.inl (.long, n, .inr (.inl f))) => if j < 0 ∨ n ≤ j.toNatClampNeg then none else an_go L r (w.set a (.inl (.long, n, .inr (.inl (vp_updL f j.toNatClampNeg x)))))
        | _ => none
      | _ => none
    | .aastore => match as, st with
      | [ci], .ref b :: .int j :: .ref a :: r => match w[a]?, w[b]? with
        | some (.inl (.object C, n, .inr (.inr (.inr (.inr f))))), some (.inr (c, _)) => if j < 0 ∨ n ≤ j.toNatClampNeg ∨ ¬ c = ci ∨ ¬ C = "PairSorts$Table" then none else an_go L r (w.set a (.inl (.object C, n, .inr (.inr (.inr (.inr (va_up f j.toNatClampNeg (some b))))))))
        | _, _ => none
      | _, _ => none
    | .arraylength => match st with
      | .ref a :: r => match w[a]? with
        | some (.inl (.int, n, _)) => an_go L (.int (Int32.ofNat n) :: r) w
        | some (.inl (.long, n, _)) => an_go L (.int (Int32.ofNat n) :: r) w
        | _ => none
      | _ => none
    | .newarray t => match st with
      | .int n :: r => if n < 0 ∨ E.1 < w.length + 1 ∨ E.2 < aW_s w + n.toNatClampNeg ∨ 100000 < n.toNatClampNeg then none else an_go L (.ref w.length :: r) (w ++ [.inl (aA_t t, aA_0 (aA_t t) n.toNatClampNeg)])
      | _ => none
    | .anewarray _ => match st with
      | .int n :: r => if n < 0 ∨ E.1 < w.length + 1 ∨ E.2 < aW_s w + n.toNatClampNeg ∨ 100000 < n.toNatClampNeg then none else an_go L (.ref w.length :: r) (w ++ [.inl (.object "PairSorts$Table", aA_0 (.object "PairSorts$Table") n.toNatClampNeg)])
      | _ => none
    | .new _ => match as with
      | ci :: _ => if E.1 < w.length + 1 ∨ E.2 < aW_s w + (D ci).length then none else an_go L (.ref w.length :: st) (w ++ [.inr (ci, D ci)])
      | _ => none
    | .invokespecial _ => match as with
      | [_] => (match st with
        | .ref _ :: r => if aV_c r ≤ 8 then an_go L r w else none
        | _ => none)
      | mi :: n :: mc :: ms :: _ => if E.1 < w.length + mc ∨ E.2 < aW_s w + ms ∨ st.length < n + 1 ∨ 8 < aV_c (st.drop (n + 1)) then none else (match st[n]? with
        | some (.ref _) => an_cl mi (st.take (n + 1)).reverse (st.drop (n + 1))
        | _ => none)
      | _ => none
    | .invokevirtual _ => match as with
      | mi :: n :: ci :: _ => if st.length < n + 1 ∨ 8 < aV_c (st.drop (n + 1)) then none else (match st[n]? with
        | some (.ref a) => (match w[a]? with
          | some (.inr (c, _)) => if c = ci then an_cl mi (st.take (n + 1)).reverse (st.drop (n + 1)) else none
          | _ => none)
        | _ => none)
      | _ => none
    | .invokestatic _ => match as with
      | [_] => (match st with
        | .int n :: .int dp :: .ref a :: .int sp :: .ref b :: r => (match w[b]?, w[a]? with
          | some (.inl (.int, n0, .inl f)), some (.inl (.int, n1, .inl g)) => if n < 0 ∨ dp < 0 ∨ sp < 0 ∨ n0 < sp.toNatClampNeg + n.toNatClampNeg ∨ n1 < dp.toNatClampNeg + n.toNatClampNeg ∨ 8 < aV_c r then none else an_go L r (w.set a (.inl (.int, n1, .inl (va_cpy f g sp.toNatClampNeg dp.toNatClampNeg n.toNatClampNeg))))
          | _, _ => none)
        | _ => none)
      | [k, _] => (match k, st with
        | 0, .int y :: .int x :: r => if aV_c r ≤ 8 then an_go L (.int (if y < x then y else x) :: r) w else none
        | 1, .int y :: .int x :: r => if aV_c r ≤ 8 then an_go L (.int (if x < y then y else x) :: r) w else none
        | 2, .int x :: r => if aV_c r ≤ 8 then an_go L (.int (if 0 ≤ x then x else 0 - x) :: r) w else none
        | 3, .long x :: r => if aV_c r ≤ 8 then an_go L (.long (if 0 < x then x else -x) :: r) w else none
        | _, _ => none)
      | mi :: n :: _ => if st.length < n ∨ 8 < aV_c (st.drop n) then none else an_cl mi (st.take n).reverse (st.drop n)
      | _ => none
    | .ireturn => match st with
      | [.int v] => match M.2.2.2.1 with
        | some .int => an_rt (some (.int v)) w
        | some .boolean => if v = 0 ∨ v = 1 then an_rt (some (.int v)) w else none
        | _ => none
      | _ => none
    | .lreturn => match st with
      | [.long v] => match M.2.2.2.1 with
        | some .long => an_rt (some (.long v)) w
        | _ => none
      | _ => none
    | .areturn => match st with
      | [.ref a] => match M.2.2.2.1 with
        | some (.object _) => an_rt (some (.ref a)) w
        | _ => none
      | _ => none
    | .return_ => match st with
      | [] => if M.2.2.2.1 = none ∧ (M.2.2.2.2.1 = (0, 0) ∨ (w.length = E.1 ∧ aW_s w = E.2)) then an_rt none w else none
      | _ => none
    | _ => none
/-- the rest of a block: 'go' where it jumps, 'K' what it calls, 'Q' its answers -/
def ex (D : Nat → List Value) (Y : Nat → Nat → FieldType) (E : Nat × Nat) (K : Nat → List Value → aW → (Option Value → aW → Prop) → Prop) (M : aM) (go : Nat → List Value → List Value → aW → Prop) (Q : Option Value → aW → Prop) : List aI → List Value → List Value → aW → Prop
  | [], _, _, _ => False
  | i :: is, L, st, w => match nx D Y E M i L st w with
    | none => False
    | some (.inl q) => ex D Y E K M go Q is q.1 q.2.1 q.2.2
    | some (.inr (.inl q)) => go q.1 q.2.1 q.2.2.1 q.2.2.2
    | some (.inr (.inr (.inl q))) => Q q.1 q.2
    | some (.inr (.inr (.inr q))) => K q.1 q.2.1 w (fun r w' => ex D Y E K M go Q is L (r.toList ++ q.2.2) w')
def a_blk (M : aM) (pc : Nat) : List aI := (M.2.2.2.2.2.2.lookup pc).getD []
/-- from a block's head on: the least fixed point -/
def Ru (D : Nat → List Value) (Y : Nat → Nat → FieldType) (E : Nat × Nat) (K : Nat → List Value → aW → (Option Value → aW → Prop) → Prop) (M : aM) (Q : Option Value → aW → Prop) (pc : Nat) (L st : List Value) (w : aW) : Prop :=
  ∀ X : Nat → List Value → List Value → aW → Prop, (∀ pc L st w, ex D Y E K M X Q (a_blk M pc) L st w → X pc L st w) → X pc L st w
def aK_mono (K : Nat → List Value → aW → (Option Value → aW → Prop) → Prop) : Prop := ∀ (m : Nat) (as : List Value) (w : aW) (Q Q' : Option Value → aW → Prop), (∀ r w, Q r w → Q' r w) → K m as w Q → K m as w Q'
theorem ex_mono {D : Nat → List Value} {Y : Nat → Nat → FieldType} {E : Nat × Nat} {K : Nat → List Value → aW → (Option Value → aW → Prop) → Prop} {M : aM} (hK : aK_mono K) {go go' : Nat → List Value → List Value → aW → Prop} {Q Q' : Option Value → aW → Prop} (hg : ∀ pc L st w, go pc L st w → go' pc L st w) (hQ : ∀ r w, Q r w → Q' r w) :
    ∀ (is : List aI) (L st : List Value) (w : aW), ex D Y E K M go Q is L st w → ex D Y E K M go' Q' is L st w := by
  intro is
  induction is with
  | nil => intro L st w h; exact h
  | cons i is ih =>
    intro L st w h
    unfold ex at h ⊢
    cases hn : nx D Y E M i L st w with
    | none => rw [hn] at h; exact h
    | some q =>
      rw [hn] at h
      rcases q with q | q | q | q
      · exact ih _ _ _ h
      · exact hg _ _ _ _ h
      · exact hQ _ _ h
      · exact hK _ _ _ _ _ (fun r w' h' => ih _ _ _ h') h
theorem ru_in {D : Nat → List Value} {Y : Nat → Nat → FieldType} {E : Nat × Nat} {K : Nat → List Value → aW → (Option Value → aW → Prop) → Prop} {M : aM} (hK : aK_mono K) {Q : Option Value → aW → Prop} {pc : Nat} {L st : List Value} {w : aW} (h : ex D Y E K M (Ru D Y E K M Q) Q (a_blk M pc) L st w) : Ru D Y E K M Q pc L st w :=
  fun X hX => hX pc L st w (ex_mono hK (fun _ _ _ _ hr => hr X hX) (fun _ _ h => h) _ _ _ _ h)
theorem ru_mono {D : Nat → List Value} {Y : Nat → Nat → FieldType} {E : Nat × Nat} {K : Nat → List Value → aW → (Option Value → aW → Prop) → Prop} {M : aM} (hK : aK_mono K) {Q Q' : Option Value → aW → Prop} (hQ : ∀ r w, Q r w → Q' r w) {pc : Nat} {L st : List Value} {w : aW} (h : Ru D Y E K M Q pc L st w) : Ru D Y E K M Q' pc L st w :=
  fun X hX => h X (fun pc L st w he => hX pc L st w (ex_mono hK (fun _ _ _ _ hr => hr) hQ _ _ _ _ he))
/-- a call, at most d deep -/
def Cl (D : Nat → List Value) (Y : Nat → Nat → FieldType) (MT : Nat → aM) : Nat → Nat → List Value → aW → (Option Value → aW → Prop) → Prop
  | 0, _, _, _, _ => False
  | d + 1, mi, as, w, Q => (aL_in as).length ≤ (MT mi).2.2.1 ∧ Ru D Y (w.length + (MT mi).2.2.2.2.1.1, aW_s w + (MT mi).2.2.2.2.1.2) (Cl D Y MT d) (MT mi) Q 0 (aL_0 (MT mi).2.2.1 as) [] w
theorem cl_mono (D : Nat → List Value) (Y : Nat → Nat → FieldType) (MT : Nat → aM) : ∀ d, aK_mono (Cl D Y MT d) := by
  intro d
  induction d with
  | zero => intro m as w Q Q' _ h; exact h
  | succ d ih => intro m as w Q Q' hQ h; exact ⟨h.1, ru_mono ih hQ h.2⟩
theorem ex_K {D : Nat → List Value} {Y : Nat → Nat → FieldType} {E : Nat × Nat} {K K' : Nat → List Value → aW → (Option Value → aW → Prop) → Prop} {M : aM} (hK' : aK_mono K') (hKK : ∀ m as w Q, K m as w Q → K' m as w Q) {go go' : Nat → List Value → List Value → aW → Prop} {Q : Option Value → aW → Prop} (hg : ∀ pc L st w, go pc L st w → go' pc L st w) :
    ∀ (is : List aI) (L st : List Value) (w : aW), ex D Y E K M go Q is L st w → ex D Y E K' M go' Q is L st w := by
  intro is
  induction is with
  | nil => intro L st w h; exact h
  | cons i is ih =>
    intro L st w h
    unfold ex at h ⊢
    cases hn : nx D Y E M i L st w with
    | none => rw [hn] at h; exact h
    | some q =>
      rw [hn] at h
      rcases q with q | q | q | q
      · exact ih _ _ _ h
      · exact hg _ _ _ _ h
      · exact h
      · exact hK' _ _ _ _ _ (fun r w' h' => ih _ _ _ h') (hKK _ _ _ _ h)
theorem cl_up (D : Nat → List Value) (Y : Nat → Nat → FieldType) (MT : Nat → aM) : ∀ d m as w Q, Cl D Y MT d m as w Q → Cl D Y MT (d + 1) m as w Q := by
  intro d
  induction d with
  | zero => intro m as w Q h; exact h.elim
  | succ d ih =>
    intro m as w Q h
    exact ⟨h.1, fun X hX => h.2 X (fun pc L st w he => hX pc L st w (ex_K (cl_mono D Y MT (d + 1)) ih (fun _ _ _ _ hr => hr) _ _ _ _ he))⟩
theorem cl_le {D : Nat → List Value} {Y : Nat → Nat → FieldType} {MT : Nat → aM} {d d' : Nat} (h : d ≤ d') {m : Nat} {as : List Value} {w : aW} {Q : Option Value → aW → Prop} (hc : Cl D Y MT d m as w Q) : Cl D Y MT d' m as w Q := by
  induction h with
  | refl => exact hc
  | step _ ih => exact cl_up D Y MT _ _ _ _ _ ih
