/-! ===== FROM THE SMALL MACHINE'S STATES TO THE MACHINE'S ===== -/
def a_v (B : Nat) : Value → Value
  | .ref k => .ref (B + k)
  | v => v
def a_A (B : Nat) (x : vp_A) : vp_A := (x.1, match x.2 with
  | .inr (.inr (.inr (.inr f))) => .inr (.inr (.inr (.inr fun j => (f j).map (B + ·))))
  | y => y)
def a_E (B : Nat) (g : FieldType → ClassId) : aC → va_E
  | .inl x => .inl (g x.1, a_A B x.2)
  | .inr x => .inr (x.1, x.2.map (a_v B))
def a_W (B : Nat) (g : FieldType → ClassId) (w : aW) : va_W := w.mapIdx (fun k c => (B + k, a_E B g c))
theorem a_W_get {B : Nat} {g : FieldType → ClassId} {w : aW} {k : Nat} : (a_W B g w)[k]? = w[k]?.map (fun c => (B + k, a_E B g c)) := by simp [a_W]
theorem a_W_at {B : Nat} {g : FieldType → ClassId} {w : aW} {k : Nat} {c : aC} (h : w[k]? = some c) : (a_W B g w)[k]? = some (B + k, a_E B g c) := by rw [a_W_get, h]; rfl
theorem a_W_set {B : Nat} {g : FieldType → ClassId} {w : aW} {k : Nat} {c : aC} : (a_W B g w).set k (B + k, a_E B g c) = a_W B g (w.set k c) := by
  apply List.ext_getElem?
  intro i
  rw [a_W_get, List.getElem?_set, List.getElem?_set, a_W_get]
  by_cases h : k = i
  · subst h
    simp only [if_true]
    by_cases hl : k < w.length
    · simp [a_W, hl]
    · simp [a_W, hl]
  · simp [h]
theorem a_W_push {B : Nat} {g : FieldType → ClassId} {w : aW} {c : aC} : a_W B g (w ++ [c]) = a_W B g w ++ [(B + w.length, a_E B g c)] := by simp [a_W]
theorem a_W_D {B : Nat} {g : FieldType → ClassId} {w : aW} : va_D (fun q => B ≤ q) (a_W B g w) := by
  refine ⟨fun i j x y hx hy hxy => ?_, fun k q h => ?_⟩
  · rw [a_W_get] at hx hy
    cases h1 : w[i]? with
    | none => rw [h1] at hx; cases hx
    | some u =>
      cases h2 : w[j]? with
      | none => rw [h2] at hy; cases hy
      | some v =>
        rw [h1] at hx
        rw [h2] at hy
        cases hx
        cases hy
        simp only at hxy
        omega
  · rw [a_W_get] at h
    cases h1 : w[k]? with
    | none => rw [h1] at h; cases h
    | some u =>
      rw [h1] at h
      cases h
      simp only
      omega
theorem a_v_cat (B : Nat) (v : Value) : (a_v B v).category = v.category := by cases v <;> rfl
theorem a_v_sum (B : Nat) (st : List Value) : ((st.map (a_v B)).map fun v => v.category).sum = aV_c st := by
  unfold aV_c
  rw [List.map_map]
  congr 1
  apply List.map_congr_left
  intro v _
  exact a_v_cat B v
/-- the heap holds the world -/
def a_H (D : va_G) (B : Nat) (g : FieldType → ClassId) (w : aW) (H : Heap) : Prop := va_P D pCl (a_W B g w) H
/-- the locals hold the list -/
def a_LR (B : Nat) (ls : Array Slot) (n : Nat) (L : List Value) : Prop := L.length = n ∧ ls.size = n ∧ lv_wf ls ∧ ∀ (k : Nat) (v : Value), L[k]? = some v → v ≠ .null → ls[k]? = some (.val (a_v B v))
def a_Lv (B : Nat) (L : List Value) : List (Nat × Value) := (L.mapIdx (fun k v => (k, a_v B v))).filter (fun q => !(q.2 == .null))
theorem a_Lv_mem {B : Nat} {L : List Value} {q : Nat × Value} : q ∈ a_Lv B L ↔ ∃ v, L[q.1]? = some v ∧ v ≠ .null ∧ q.2 = a_v B v := by
  unfold a_Lv
  rw [List.mem_filter, List.mem_mapIdx]
  constructor
  · rintro ⟨⟨i, hi, rfl⟩, h2⟩
    refine ⟨L[i], by simp, ?_, rfl⟩
    intro hn
    simp [hn, a_v] at h2
  · rintro ⟨v, h1, h2, h3⟩
    obtain ⟨hi, he⟩ := List.getElem?_eq_some_iff.mp h1
    refine ⟨⟨q.1, hi, ?_⟩, ?_⟩
    · rw [he, ← h3]
    · rw [h3]
      cases v <;> simp_all [a_v]
theorem a_LR.has {B : Nat} {ls : Array Slot} {n : Nat} {L : List Value} (h : a_LR B ls n L) : lv_has ls n (a_Lv B L) := by
  refine ⟨h.2.1, h.2.2.1, fun q hq => ?_⟩
  obtain ⟨v, h1, h2, h3⟩ := a_Lv_mem.mp hq
  rw [h3]
  exact h.2.2.2 _ _ h1 h2
theorem aL_g_get (L : List Value) : ∀ k, aL_g L k = (L[k]?).getD .null := by
  induction L with
  | nil => intro k; simp [aL_g]
  | cons a r ih => intro k; cases k with
    | zero => simp [aL_g]
    | succ k => simp [aL_g, ih]
theorem aL_s_get (L : List Value) (v : Value) : ∀ i k, (aL_s L i v)[k]? = if k = i then L[k]?.map (fun _ => v) else if k + 1 = i then L[k]?.map aL_k else L[k]? := by
  induction L with
  | nil => intro i k; simp [aL_s]
  | cons a r ih =>
    intro i k
    cases i with
    | zero => cases k with
      | zero => simp [aL_s]
      | succ k => simp [aL_s]
    | succ i => cases k with
      | zero =>
        by_cases h : i = 0
        · subst h; simp [aL_s]
        · have h' : ¬ 0 + 1 = i + 1 := by omega
          have h'' : ¬ (0 : Nat) = i + 1 := by omega
          simp [aL_s, h]
          try (intro hh; omega)
      | succ k =>
        simp only [aL_s, List.getElem?_cons_succ, ih]
        by_cases h1 : k = i
        · simp [h1]
        · have : ¬ k + 1 = i + 1 := by omega
          simp only [h1, this, if_false]
          by_cases h2 : k + 1 = i
          · simp [h2]
          · have : ¬ k + 1 + 1 = i + 1 := by omega
            simp [h2]
theorem aL_s_len (L : List Value) (v : Value) : ∀ i, (aL_s L i v).length = L.length := by
  induction L with
  | nil => intro i; simp [aL_s]
  | cons a r ih => intro i; cases i with
    | zero => simp [aL_s]
    | succ i => simp [aL_s, ih]
theorem aL_n_get (L : List Value) : ∀ i k, (aL_n L i)[k]? = if k = i then L[k]?.map (fun _ => .null) else L[k]? := by
  induction L with
  | nil => intro i k; simp [aL_n]
  | cons a r ih =>
    intro i k
    cases i with
    | zero => cases k with
      | zero => simp [aL_n]
      | succ k => simp [aL_n]
    | succ i => cases k with
      | zero => simp [aL_n]
      | succ k => simp only [aL_n, List.getElem?_cons_succ, ih]; simp
theorem aL_n_len (L : List Value) : ∀ i, (aL_n L i).length = L.length := by
  induction L with
  | nil => intro i; simp [aL_n]
  | cons a r ih => intro i; cases i with
    | zero => simp [aL_n]
    | succ i => simp [aL_n, ih]
theorem aL_k_ne {v : Value} (h : aL_k v ≠ .null) : aL_k v = v ∧ v.category = 1 := by
  cases v <;> simp_all [aL_k, Value.category]
theorem a_LR.st1 {B : Nat} {ls ls' : Array Slot} {n i : Nat} {L : List Value} {v : Value} (h : a_LR B ls n L) (h' : lv_has ls' n ((i, a_v B v) :: (a_Lv B L).filter (fun q => !(q.1 == i) && !(q.1 + 1 == i && q.2.category == 2)))) : a_LR B ls' n (aL_s L i v) := by
  obtain ⟨h1, h2, h3⟩ := h'
  refine ⟨by rw [aL_s_len]; exact h.1, h1, h2, fun k u hu hn => ?_⟩
  rw [aL_s_get] at hu
  by_cases hk : k = i
  · subst hk
    rw [if_pos rfl] at hu
    cases hl : L[k]? with
    | none => rw [hl] at hu; cases hu
    | some x =>
      rw [hl] at hu
      cases hu
      exact h3 _ List.mem_cons_self
  · rw [if_neg hk] at hu
    by_cases hk1 : k + 1 = i
    · rw [if_pos hk1] at hu
      cases hl : L[k]? with
      | none => rw [hl] at hu; cases hu
      | some x =>
        rw [hl] at hu
        cases hu
        obtain ⟨e1, e2⟩ := aL_k_ne hn
        rw [e1] at hn ⊢
        refine h3 (k, a_v B x) (List.mem_cons_of_mem _ (List.mem_filter.mpr ⟨a_Lv_mem.mpr ⟨x, hl, hn, rfl⟩, ?_⟩))
        simp [hk, a_v_cat, e2]
    · rw [if_neg hk1] at hu
      refine h3 (k, a_v B u) (List.mem_cons_of_mem _ (List.mem_filter.mpr ⟨a_Lv_mem.mpr ⟨u, hu, hn, rfl⟩, ?_⟩))
      simp [hk, hk1]
theorem a_LR.st2 {B : Nat} {ls ls' : Array Slot} {n i : Nat} {L : List Value} {v : Value} (h : a_LR B ls n L) (h' : lv_has ls' n ((i, a_v B v) :: (a_Lv B L).filter (fun q => !(q.1 == i) && (!(q.1 == i + 1) && !(q.1 + 1 == i && q.2.category == 2))))) : a_LR B ls' n (aL_n (aL_s L i v) (i + 1)) := by
  obtain ⟨h1, h2, h3⟩ := h'
  refine ⟨by rw [aL_n_len, aL_s_len]; exact h.1, h1, h2, fun k u hu hn => ?_⟩
  rw [aL_n_get] at hu
  by_cases hk2 : k = i + 1
  · rw [if_pos hk2] at hu
    cases hl : (aL_s L i v)[k]? with
    | none => rw [hl] at hu; cases hu
    | some x => rw [hl] at hu; cases hu; exact absurd rfl hn
  · rw [if_neg hk2, aL_s_get] at hu
    by_cases hk : k = i
    · subst hk
      rw [if_pos rfl] at hu
      cases hl : L[k]? with
      | none => rw [hl] at hu; cases hu
      | some x =>
        rw [hl] at hu
        cases hu
        exact h3 _ List.mem_cons_self
    · rw [if_neg hk] at hu
      by_cases hk1 : k + 1 = i
      · rw [if_pos hk1] at hu
        cases hl : L[k]? with
        | none => rw [hl] at hu; cases hu
        | some x =>
          rw [hl] at hu
          cases hu
          obtain ⟨e1, e2⟩ := aL_k_ne hn
          rw [e1] at hn ⊢
          refine h3 (k, a_v B x) (List.mem_cons_of_mem _ (List.mem_filter.mpr ⟨a_Lv_mem.mpr ⟨x, hl, hn, rfl⟩, ?_⟩))
          simp [hk, hk2, a_v_cat, e2]
      · rw [if_neg hk1] at hu
        refine h3 (k, a_v B u) (List.mem_cons_of_mem _ (List.mem_filter.mpr ⟨a_Lv_mem.mpr ⟨u, hu, hn, rfl⟩, ?_⟩))
        simp [hk, hk1, hk2]
theorem a_LR.at {B : Nat} {ls : Array Slot} {n k : Nat} {L : List Value} {v : Value} (h : a_LR B ls n L) (hg : aL_g L k = v) (hn : v ≠ .null) : ls[k]? = some (.val (a_v B v)) := by
  rw [aL_g_get] at hg
  cases hl : L[k]? with
  | none => rw [hl] at hg; exact absurd hg.symm hn
  | some u => rw [hl] at hg; cases hg; exact h.2.2.2 k _ hl hn
theorem a_LR.mem {B : Nat} {ls : Array Slot} {n k : Nat} {L : List Value} {v : Value} (h : a_LR B ls n L) (hg : aL_g L k = v) (hn : v ≠ .null) : ∃ j : Nat, (a_Lv B L)[j]? = some (k, a_v B v) := by
  rw [aL_g_get] at hg
  cases hl : L[k]? with
  | none => rw [hl] at hg; exact absurd hg.symm hn
  | some u =>
    rw [hl] at hg
    cases hg
    exact List.mem_iff_getElem?.mp (a_Lv_mem.mpr ⟨_, hl, hn, rfl⟩)
theorem a_s_set {w : aW} {k : Nat} {c c' : aC} (h : w[k]? = some c) (hn : aC_n c' = aC_n c) : aW_s (w.set k c') = aW_s w := by
  unfold aW_s
  have e : (w.set k c').map aC_n = w.map aC_n := by
    apply List.ext_getElem?
    intro i
    rw [List.getElem?_map, List.getElem?_map, List.getElem?_set]
    by_cases hk : k = i
    · subst hk
      obtain ⟨hl, he⟩ := List.getElem?_eq_some_iff.mp h
      rw [if_pos rfl, if_pos hl, h]
      simp [hn]
    · simp [hk]
  rw [e]
theorem a_s_push {w : aW} {c : aC} : aW_s (w ++ [c]) = aW_s w + aC_n c := by simp [aW_s]
