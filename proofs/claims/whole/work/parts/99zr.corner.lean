/-! ===== corners ===== -/
theorem Tab.row0 {L N : Nat} {a : Nat → Nat → Int} {D : Int} {T : Nat → Nat → Int} {b : Nat → Nat} (h : Tab L N a D T b) (y : Nat → Int) (hy : ∀ x : Nat, x < L → sg (fun c => y c * a x c) (N + 1) = 0) {k : Nat} (hk : k < L) : sg (fun c => y c * T k c) (N + 1) = 0 := by
  obtain ⟨hb, hD, hd, hT, hC⟩ := h
  have e1 : sg (fun c => y c * T k c) (N + 1) = sg (fun c => y c * dt (L + 1) (up (gB L a b) k (fun x => a x c))) (N + 1) := sg_cg (fun c hc => by rw [hT k c (by omega) hc])
  have e2 := dt_sum (m := L + 1) (gB L a b) (r := k) y (fun c x => a x c) (by omega) (N + 1)
  rw [e1, ← e2]
  have e3 : dt (L + 1) (up (gB L a b) k (fun x => sg (fun c => y c * a x c) (N + 1))) = dt (L + 1) (up (gB L a b) k (fun x => sg (fun c => y c * a L c) (N + 1) * gB L a b L x + (fun _ => 0) x)) := by
    refine dt_cg (fun p x hp hx => ?_)
    by_cases q : p = k
    · subst q
      rw [up_y, up_y, gB_L]
      unfold un
      by_cases q2 : L = x
      · subst q2; rw [ind_y rfl]; show _ = _ * 1 + 0; omega
      · rw [ind_n q2, hy x (by omega)]; show _ = _ * 0 + 0; omega
    · rw [up_n q, up_n q]
  rw [e3, dt_lin _ _ _ _ (by omega), dt_zero _ (by omega), dt_eq0 (g := up (gB L a b) k (gB L a b L)) (a := k) (b := L) (by omega) (by omega) (by omega) (by rw [up_y, up_n (show L ≠ k by omega)])]
  omega
/-- the sorts that are allowed, one after the other -/
def WE (L m : Nat) (al : Nat → Prop) (we iw : Nat → Nat) : Prop := (∀ j : Nat, j < m → 1 ≤ we j ∧ we j ≤ L ∧ al (we j) ∧ iw (we j) = j) ∧ ∀ i : Nat, 1 ≤ i → i ≤ L → al i → iw i < m ∧ we (iw i) = i
theorem WE.sum {L m : Nat} {al : Nat → Prop} {we iw : Nat → Nat} (h : WE L m al we iw) {F : Nat → Int} (hF : ∀ i : Nat, i < L → ¬ al (i + 1) → F i = 0) : sg F L = sg (fun j => F (we j - 1)) m := by
  have e1 : sg (fun j => F (we j - 1)) m = sg (fun j => sg (fun i => ind (we j - 1 = i) * F i) L) m := sg_cg (fun j hj => by
    have := (h.1 j hj)
    rw [sg_dl, if_pos (by omega)])
  rw [e1, sg_com]
  refine sg_cg (fun i hi => ?_)
  rw [sg_mur]
  by_cases q : al (i + 1)
  · obtain ⟨h1, h2⟩ := h.2 (i + 1) (by omega) (by omega) q
    have e2 : sg (fun j => ind (we j - 1 = i)) m = 1 := by
      rw [← sg_d1 h1]
      refine sg_cg (fun j hj => ind_cg ⟨fun e => ?_, fun e => ?_⟩)
      · have h3 := h.1 j hj
        rw [← h3.2.2.2, show we j = i + 1 by omega]
      · rw [← e, h2]; omega
    rw [e2, Int.one_mul]
  · rw [hF i hi q, Int.mul_zero]
noncomputable def scF (al : Nat → Prop) (iw : Nat → Nat) (cS : Nat → Int) (z : Nat → Int) (i : Nat) : Int := cif (al (i + 1)) (cS (i + 1) * z (iw (i + 1))) 0
theorem WE.scat {L m : Nat} {al : Nat → Prop} {we iw : Nat → Nat} (h : WE L m al we iw) (cS : Nat → Int) (z : Nat → Int) (u : Nat → Int) : sg (fun i => u (i + 1) * scF al iw cS z i) L = sg (fun j => u (we j) * cS (we j) * z j) m := by
  rw [h.sum (fun i hi q => by unfold scF; rw [cif_n q, Int.mul_zero])]
  refine sg_cg (fun j hj => ?_)
  obtain ⟨h1, h2, h3, h4⟩ := h.1 j hj
  unfold scF
  rw [show we j - 1 + 1 = we j by omega, cif_y h3, h4, Int.mul_assoc]
def lnE (m : Nat) (v : Nat → Nat → Int) (cS : Nat → Int) (we : Nat → Nat) (l j : Nat) : Int := if l < m then ind (l = j) else v (l - m) (we j) * cS (we j)
def rhE (m : Nat) (S : Int) (l : Nat) : Int := if l < m then 0 else -S
/-- what a corner is: by what number, with what weights; whether it may be -/
def cBy (m : Nat) (v : Nat → Nat → Int) (cS : Nat → Int) (we f : Nat → Nat) : Int := dt m (fun j x => lnE m v cS we (f x) j)
def cWt (m : Nat) (v : Nat → Nat → Int) (cS : Nat → Int) (S : Int) (we f : Nat → Nat) (j : Nat) : Int := dt m (up (fun j x => lnE m v cS we (f x) j) j (fun x => rhE m S (f x)))
def sgI (x : Int) : Int := if x < 0 then -1 else 1
def cFit (L m : Nat) (v : Nat → Nat → Int) (cS : Nat → Int) (S : Int) (we : Nat → Nat) (d : Int) (y : Nat → Int) : Prop := (∀ j : Nat, j < m → 0 ≤ y j) ∧ ∀ r : Nat, r < L + 1 → 0 ≤ S * d + sg (fun j => v r (we j) * cS (we j) * y j) m
theorem cFit.fe {L m : Nat} {al : Nat → Prop} {v : Nat → Nat → Int} {cS : Nat → Int} {S : Int} {we iw : Nat → Nat} (hw : WE L m al we iw) (hS : 0 < S) (hc : ∀ i : Nat, 1 ≤ i → i ≤ L → 0 < cS i) (hk : ∀ i : Nat, 1 ≤ i → i ≤ L → v 0 i * cS i = S) {d : Int} (hd : 0 < d) {y : Nat → Int} (h : cFit L m v cS S we d y) : Fe L al v (S * d) (scF al iw cS y) ∧ vl L v (S * d) (scF al iw cS y) = S * (d + sg y m) := by
  refine ⟨⟨Int.mul_pos hS hd, fun i hi => ⟨?_, fun q => by unfold scF; rw [cif_n q]⟩, fun r hr => ?_⟩, ?_⟩
  · unfold scF
    by_cases q : al (i + 1)
    · rw [cif_y q]
      exact mul_nn (Int.le_of_lt (hc _ (by omega) (by omega))) (h.1 _ (hw.2 _ (by omega) (by omega) q).1)
    · rw [cif_n q]; exact Int.le_refl _
  · rw [hw.scat cS y (v r)]; exact h.2 r hr
  · unfold vl
    rw [hw.scat cS y (v 0), Int.mul_add, ← sg_mul]
    congr 1
    refine sg_cg (fun j hj => ?_)
    obtain ⟨h1, h2, h3, h4⟩ := hw.1 j hj
    rw [hk _ h1 h2]
theorem len_flt (p : Nat → Bool) : ∀ l : List Nat, (l.filter p).length + (l.filter (fun x => !p x)).length = l.length := by
  intro l
  induction l with
  | nil => rfl
  | cons a t ih =>
    by_cases q : p a = true
    · rw [List.filter_cons_of_pos q, List.filter_cons_of_neg (by rw [q]; decide), List.length_cons, List.length_cons]; omega
    · rw [List.filter_cons_of_neg q, List.filter_cons_of_pos (by simp [q]), List.length_cons, List.length_cons]; omega
/-- a list in order with the numbers that P tells -/
theorem enum {N m : Nat} {P : Nat → Prop} [DecidablePred P] (h : ((List.range N).filter (fun l => decide (P l))).length = m) : ∃ f : Nat → Nat, (∀ k : Nat, k < m → f k < N ∧ P (f k)) ∧ (∀ i j : Nat, i < j → j < m → f i < f j) ∧ ∀ l : Nat, l < N → P l → ∃ k, k < m ∧ f k = l := by
  subst h
  refine ⟨fun k => ((List.range N).filter (fun l => decide (P l))).getD k 0, fun k hk => ?_, fun i j hij hj => ?_, fun l hl hp => ?_⟩
  · have e : ((List.range N).filter (fun l => decide (P l))).getD k 0 = ((List.range N).filter (fun l => decide (P l)))[k] := by rw [List.getD_eq_getElem?_getD, List.getElem?_eq_getElem hk]; rfl
    have hm := List.getElem_mem hk
    rw [List.mem_filter, List.mem_range] at hm
    show ((List.range N).filter (fun l => decide (P l))).getD k 0 < N ∧ P (((List.range N).filter (fun l => decide (P l))).getD k 0)
    rw [e]
    exact ⟨hm.1, of_decide_eq_true hm.2⟩
  · have hp : ((List.range N).filter (fun l => decide (P l))).Pairwise (· < ·) := List.Pairwise.filter _ List.pairwise_lt_range
    have := List.pairwise_iff_getElem.mp hp i j (by omega) hj hij
    show ((List.range N).filter (fun l => decide (P l))).getD i 0 < ((List.range N).filter (fun l => decide (P l))).getD j 0
    rw [List.getD_eq_getElem?_getD, List.getElem?_eq_getElem (show i < _ by omega), List.getD_eq_getElem?_getD, List.getElem?_eq_getElem hj]
    exact this
  · have hm : l ∈ (List.range N).filter (fun l => decide (P l)) := List.mem_filter.mpr ⟨List.mem_range.mpr hl, decide_eq_true hp⟩
    obtain ⟨k, hk, e⟩ := List.getElem_of_mem hm
    exact ⟨k, hk, by show ((List.range N).filter (fun l => decide (P l))).getD k 0 = l; rw [List.getD_eq_getElem?_getD, List.getElem?_eq_getElem hk]; exact e⟩
/-- the lines that the tableau's point meets -/
def tl (L m : Nat) (we : Nat → Nat) (b : Nat → Nat) (l : Nat) : Prop := (l < m ∧ ¬ ∃ k, k < L ∧ b k = we l - 1) ∨ (m < l ∧ ¬ ∃ k, k < L ∧ b k = L + (l - m - 1))
theorem tl_ex {L m : Nat} {al : Nat → Prop} {we iw : Nat → Nat} (hw : WE L m al we iw) {v : Nat → Nat → Int} {D : Int} {T : Nat → Nat → Int} {b : Nat → Nat} (h : Tab L (2 * L) (aLP L al v) D T b) : ∃ f : Nat → Nat, (∀ k : Nat, k < m → f k < m + L + 1 ∧ tl L m we b (f k)) ∧ (∀ i j : Nat, i < j → j < m → f i < f j) ∧ ∀ l : Nat, l < m + L + 1 → tl L m we b l → ∃ k, k < m ∧ f k = l := by
  haveI : DecidablePred (tl L m we b) := fun _ => Classical.propDecidable _
  refine enum ?_
  have hal : ∀ k : Nat, k < L → b k < L → al (b k + 1) := by
    intro k hk hb
    refine Classical.byContradiction fun q => h.nob hb q k hk rfl
  have h1 : (m :: (List.range L).map (fun k => if b k < L then iw (b k + 1) else m + 1 + (b k - L))).Nodup := by
    refine List.nodup_cons.mpr ⟨fun hm => ?_, nodup_map (fun i j hi hj e => ?_)⟩
    · obtain ⟨k, hk, e⟩ := List.mem_map.mp hm
      have hk := List.mem_range.mp hk
      by_cases q : b k < L
      · rw [if_pos q] at e
        have := (hw.2 _ (by omega) (by omega) (hal k hk q)).1
        omega
      · rw [if_neg q] at e; omega
    · refine h.inj hi hj ?_
      by_cases q1 : b i < L <;> by_cases q2 : b j < L
      · rw [if_pos q1, if_pos q2] at e
        have a1 := (hw.2 _ (by omega) (by omega) (hal i hi q1)).2
        have a2 := (hw.2 _ (by omega) (by omega) (hal j hj q2)).2
        rw [e, a2] at a1
        omega
      · rw [if_pos q1, if_neg q2] at e
        have a1 := (hw.2 _ (by omega) (by omega) (hal i hi q1)).1
        omega
      · rw [if_neg q1, if_pos q2] at e
        have a1 := (hw.2 _ (by omega) (by omega) (hal j hj q2)).1
        omega
      · rw [if_neg q1, if_neg q2] at e; omega
  have h2 : ((List.range (m + L + 1)).filter (fun l => !decide (tl L m we b l))).Nodup := List.Pairwise.filter _ List.nodup_range
  have s1 : (m :: (List.range L).map (fun k => if b k < L then iw (b k + 1) else m + 1 + (b k - L))) ⊆ (List.range (m + L + 1)).filter (fun l => !decide (tl L m we b l)) := by
    intro l hl
    have key : l < m + L + 1 ∧ ¬ tl L m we b l := by
      rcases List.mem_cons.mp hl with e | hl
      · subst e; exact ⟨by omega, fun q => by rcases q with q | q <;> omega⟩
      · obtain ⟨k, hk, e⟩ := List.mem_map.mp hl
        have hk := List.mem_range.mp hk
        have hb := h.1 k hk
        by_cases q : b k < L
        · rw [if_pos q] at e
          obtain ⟨a1, a2⟩ := hw.2 _ (by omega) (by omega) (hal k hk q)
          refine ⟨by omega, fun t => ?_⟩
          rcases t with ⟨-, t⟩ | ⟨t, -⟩
          · exact t ⟨k, hk, by rw [← e, a2]; omega⟩
          · omega
        · rw [if_neg q] at e
          refine ⟨by omega, fun t => ?_⟩
          rcases t with ⟨t, -⟩ | ⟨-, t⟩
          · omega
          · exact t ⟨k, hk, by omega⟩
    exact List.mem_filter.mpr ⟨List.mem_range.mpr key.1, by rw [decide_eq_false key.2]; rfl⟩
  have s2 : (List.range (m + L + 1)).filter (fun l => !decide (tl L m we b l)) ⊆ (m :: (List.range L).map (fun k => if b k < L then iw (b k + 1) else m + 1 + (b k - L))) := by
    intro l hl
    obtain ⟨g1, g2⟩ := List.mem_filter.mp hl
    have g1 := List.mem_range.mp g1
    have g3 : ¬ tl L m we b l := by
      intro q
      rw [decide_eq_true q] at g2
      cases g2
    rcases Nat.lt_trichotomy l m with q | q | q
    · have : ∃ k, k < L ∧ b k = we l - 1 := Classical.byContradiction fun z => g3 (Or.inl ⟨q, z⟩)
      obtain ⟨k, hk, e⟩ := this
      obtain ⟨a1, a2, a3, a4⟩ := hw.1 l q
      refine List.mem_cons_of_mem _ (List.mem_map.mpr ⟨k, List.mem_range.mpr hk, ?_⟩)
      rw [if_pos (by omega), e, show we l - 1 + 1 = we l by omega, a4]
    · rw [q]; exact List.mem_cons_self
    · have : ∃ k, k < L ∧ b k = L + (l - m - 1) := Classical.byContradiction fun z => g3 (Or.inr ⟨q, z⟩)
      obtain ⟨k, hk, e⟩ := this
      refine List.mem_cons_of_mem _ (List.mem_map.mpr ⟨k, List.mem_range.mpr hk, ?_⟩)
      rw [if_neg (by omega), e]; omega
  have l1 := h1.length_le_of_subset s1
  have l2 := h2.length_le_of_subset s2
  have l3 := len_flt (fun l => decide (tl L m we b l)) (List.range (m + L + 1))
  rw [List.length_cons, List.length_map, List.length_range] at l1 l2
  rw [List.length_range] at l3
  omega
theorem xO_0 {L : Nat} {D : Int} {T : Nat → Nat → Int} {b : Nat → Nat} {c : Nat} (hc : c < 2 * L) (hn : ¬ ∃ k, k < L ∧ b k = c) : xO L D T b c = 0 := by
  unfold xO; rw [ry_n (by omega) (fun k hk e => hn ⟨k, hk, e⟩)]; rfl
/-- the lines that are met there are free of each other -/
theorem cor_free {L m : Nat} {al : Nat → Prop} {we iw : Nat → Nat} (hw : WE L m al we iw) {v : Nat → Nat → Int} {cS : Nat → Int} (hc : ∀ i : Nat, 1 ≤ i → i ≤ L → 0 < cS i) {D : Int} {T : Nat → Nat → Int} {b : Nat → Nat} (h : Tab L (2 * L) (aLP L al v) D T b) {f : Nat → Nat} (hf : ∀ l : Nat, l < m + L + 1 → tl L m we b l → ∃ k, k < m ∧ f k = l) (z : Nat → Int) (hz : ∀ x : Nat, x < m → sg (fun k => z k * lnE m v cS we (f x) k) m = 0) : ∀ k : Nat, k < m → z k = 0 := by
  have yl : ∀ i : Nat, i < L → (fun c => if c < L then scF al iw cS z c else if c < 2 * L then sg (fun i => v (c - L + 1) (i + 1) * scF al iw cS z i) L else 0) i = scF al iw cS z i := fun i hi => if_pos hi
  have yN : (fun c => if c < L then scF al iw cS z c else if c < 2 * L then sg (fun i => v (c - L + 1) (i + 1) * scF al iw cS z i) L else 0) (2 * L) = 0 := by
    show (if 2 * L < L then _ else if 2 * L < 2 * L then _ else _) = _
    rw [if_neg (by omega), if_neg (by omega)]
  have ys : ∀ r : Nat, r < L → (fun c => if c < L then scF al iw cS z c else if c < 2 * L then sg (fun i => v (c - L + 1) (i + 1) * scF al iw cS z i) L else 0) (L + r) = sg (fun i => v (r + 1) (i + 1) * scF al iw cS z i) L := by
    intro r hr
    show (if L + r < L then _ else if L + r < 2 * L then _ else _) = _
    rw [if_neg (by omega), if_pos (by omega), show L + r - L = r by omega]
  generalize (fun c => if c < L then scF al iw cS z c else if c < 2 * L then sg (fun i => v (c - L + 1) (i + 1) * scF al iw cS z i) L else 0) = y at yl yN ys
  have hy0 : ∀ i : Nat, i < L → ¬ al (i + 1) → y i = 0 := fun i hi q => by rw [yl i hi]; unfold scF; rw [cif_n q]
  have hs : ∀ r, sg (fun i => v r (i + 1) * y i) L = sg (fun i => v r (i + 1) * scF al iw cS z i) L := fun r => sg_cg (fun i hi => by rw [yl i hi])
  have hrow : ∀ x : Nat, x < L → sg (fun c => y c * aLP L al v x c) (2 * L + 1) = 0 := by
    intro x hx
    rw [aLP_sum hy0 (by omega), if_pos hx, ys x hx, yN, hs, show xr L x = x + 1 from if_pos hx]; omega
  have hnb : ∀ c : Nat, c < 2 * L → (¬ ∃ k, k < L ∧ b k = c) → y c = 0 := by
    intro c hc1 hn
    by_cases q : c < L
    · by_cases q2 : al (c + 1)
      · obtain ⟨a1, a2⟩ := hw.2 (c + 1) (by omega) (by omega) q2
        obtain ⟨k, hk, e⟩ := hf (iw (c + 1)) (by omega) (Or.inl ⟨a1, by rw [a2]; exact hn⟩)
        have h1 := hz k hk
        rw [e] at h1
        have e2 : sg (fun j => z j * lnE m v cS we (iw (c + 1)) j) m = sg (fun j => ind (iw (c + 1) = j) * z j) m := sg_cg (fun j hj => by unfold lnE; rw [if_pos a1, Int.mul_comm])
        rw [e2, sg_dl, if_pos a1] at h1
        rw [yl c q]; unfold scF; rw [cif_y q2, h1, Int.mul_zero]
      · exact hy0 c q q2
    · obtain ⟨k, hk, e⟩ := hf (m + 1 + (c - L)) (by omega) (Or.inr ⟨by omega, by rw [show L + (m + 1 + (c - L) - m - 1) = c by omega]; exact hn⟩)
      have h1 := hz k hk
      rw [e] at h1
      have h2 := ys (c - L) (by omega)
      rw [show L + (c - L) = c by omega, hw.scat cS z (v (c - L + 1))] at h2
      rw [h2, ← h1]
      refine sg_cg (fun j hj => ?_)
      unfold lnE
      rw [if_neg (by omega), show m + 1 + (c - L) - m = c - L + 1 by omega, Int.mul_comm]
  have hb0 : ∀ k : Nat, k < L → y (b k) = 0 := by
    intro k hk
    have hbk := h.1 k hk
    have h1 := h.row0 y hrow hk
    have e2 : sg (fun c => y c * T k c) (2 * L + 1) = sg (fun c => ind (b k = c) * (y c * D)) (2 * L + 1) := by
      refine sg_cg (fun c hc => ?_)
      by_cases q : b k = c
      · rw [← q, ind_y rfl, h.bas hk (by omega), if_pos rfl, Int.one_mul]
      · rw [ind_n q, Int.zero_mul]
        by_cases q2 : ∃ i, i < L ∧ b i = c
        · obtain ⟨i, hi, e⟩ := q2
          rw [← e, h.bas hi (by omega), if_neg (fun e2 => q (by rw [e2]; exact e)), Int.mul_zero]
        · by_cases q3 : c = 2 * L
          · rw [q3, yN, Int.zero_mul]
          · rw [hnb c (by omega) q2, Int.zero_mul]
    rw [e2, sg_dl, if_pos (by omega)] at h1
    rcases Int.mul_eq_zero.mp h1 with q | q
    · exact q
    · have := h.2.1; omega
  intro j hj
  obtain ⟨a1, a2, a3, a4⟩ := hw.1 j hj
  have h0 : y (we j - 1) = 0 := by
    by_cases q : ∃ k, k < L ∧ b k = we j - 1
    · obtain ⟨k, hk, e⟩ := q
      rw [← e]; exact hb0 k hk
    · exact hnb _ (by omega) q
  rw [yl _ (by omega)] at h0
  unfold scF at h0
  rw [show we j - 1 + 1 = we j by omega, cif_y a3, a4] at h0
  rcases Int.mul_eq_zero.mp h0 with q | q
  · have := hc _ a1 a2; omega
  · exact q
/-- what the tableau's point comes to on a line that it meets -/
theorem cor_meet {L m : Nat} {al : Nat → Prop} {we iw : Nat → Nat} (hw : WE L m al we iw) {v : Nat → Nat → Int} {cS : Nat → Int} {S : Int} (hk : ∀ i : Nat, 1 ≤ i → i ≤ L → v 0 i * cS i = S) {D : Int} {T : Nat → Nat → Int} {b : Nat → Nat} (h : Tab L (2 * L) (aLP L al v) D T b) {l : Nat} (hl : l < m + L + 1) (ht : tl L m we b l) : sg (fun j => v 0 (we j) * xO L D T b (we j - 1) * lnE m v cS we l j) m = D * rhE m S l := by
  have hx0 : ∀ i : Nat, i < L → ¬ al (i + 1) → xO L D T b i = 0 := fun i hi q => xO_0 (by omega) (fun ⟨k, hk, e⟩ => h.nob hi q k hk e)
  rcases ht with ⟨h1, h2⟩ | ⟨h1, h2⟩
  · obtain ⟨a1, a2, a3, a4⟩ := hw.1 l h1
    unfold rhE
    rw [if_pos h1, Int.mul_zero, ← sg_0 m]
    refine sg_cg (fun j hj => ?_)
    unfold lnE
    rw [if_pos h1]
    by_cases e : l = j
    · rw [← e, xO_0 (by omega) h2, Int.mul_zero, Int.zero_mul]
    · rw [ind_n e, Int.mul_zero]
  · have h3 := xO_slack h (x := l - m - 1) (by omega)
    rw [if_pos (by omega), xO_0 (by omega) h2, show xr L (l - m - 1) = l - m by unfold xr; rw [if_pos (by omega)]; omega] at h3
    have e1 : sg (fun j => v 0 (we j) * xO L D T b (we j - 1) * lnE m v cS we l j) m = sg (fun j => S * (fun i => v (l - m) (i + 1) * xO L D T b i) (we j - 1)) m := by
      refine sg_cg (fun j hj => ?_)
      obtain ⟨a1, a2, a3, a4⟩ := hw.1 j hj
      unfold lnE
      rw [if_neg (by omega)]
      show _ = S * (v (l - m) (we j - 1 + 1) * xO L D T b (we j - 1))
      rw [show we j - 1 + 1 = we j by omega, ← hk _ a1 a2]
      grind
    rw [e1, sg_mul, ← hw.sum (F := fun i => v (l - m) (i + 1) * xO L D T b i) (fun i hi q => by rw [hx0 i hi q, Int.mul_zero])]
    unfold rhE
    rw [if_neg (by omega), show sg (fun i => v (l - m) (i + 1) * xO L D T b i) L = -D by omega]
    grind
theorem sgI_mul (x : Int) : sgI x * x = x.natAbs := by unfold sgI; split <;> omega
/-- the best corner is one of them -/
theorem cor_opt {L m : Nat} {al : Nat → Prop} {we iw : Nat → Nat} (hw : WE L m al we iw) {v : Nat → Nat → Int} {cS : Nat → Int} {S : Int} (hS : 0 < S) (hc : ∀ i : Nat, 1 ≤ i → i ≤ L → 0 < cS i) (hk : ∀ i : Nat, 1 ≤ i → i ≤ L → v 0 i * cS i = S) (hv0 : ∀ i : Nat, i < L → 0 ≤ v 0 (i + 1)) {C : Int} (hC : ∀ l j : Nat, l < m + L + 1 → j < m → ((lnE m v cS we l j).natAbs : Int) ≤ C) {D : Int} {T : Nat → Nat → Int} {b : Nat → Nat} (h : Opt L (2 * L) (aLP L al v) D T b) : ∃ f : Nat → Nat, (∀ k : Nat, k < m → f k < m + L + 1) ∧ (∀ i j : Nat, i < j → j < m → f i < f j) ∧ cBy m v cS we f ≠ 0 ∧ cFit L m v cS S we (cBy m v cS we f).natAbs (fun j => sgI (cBy m v cS we f) * cWt m v cS S we f j) ∧ (((cBy m v cS we f).natAbs : Int) + sg (fun j => sgI (cBy m v cS we f) * cWt m v cS S we f j) m) * D = T L (2 * L) * (cBy m v cS we f).natAbs := by
  obtain ⟨f, f1, f2, f3⟩ := tl_ex hw h.1
  have hD := h.1.2.1
  have hFe := h.fe hv0
  have n0 : cBy m v cS we f ≠ 0 := dt_n0 (a := fun x k => lnE m v cS we (f x) k) (cor_free hw hc h.1 f3) (fun x k hx hk => hC _ _ (f1 x hx).1 hk)
  have key : ∀ j : Nat, j < m → D * cWt m v cS S we f j = v 0 (we j) * xO L D T b (we j - 1) * cBy m v cS we f := fun j hj => cramer (a := fun x k => lnE m v cS we (f x) k) (z := fun j => v 0 (we j) * xO L D T b (we j - 1)) (rhs := fun x => rhE m S (f x)) (fun x hx => cor_meet hw hk h.1 (f1 x hx).1 (f1 x hx).2) hj
  have hN : (0 : Int) < (cBy m v cS we f).natAbs := by omega
  have sgm := sgI_mul (cBy m v cS we f)
  refine ⟨f, fun k hk => (f1 k hk).1, f2, ?_⟩
  generalize cBy m v cS we f = B at *
  have key2 : ∀ j : Nat, j < m → D * (sgI B * cWt m v cS S we f j) = v 0 (we j) * xO L D T b (we j - 1) * B.natAbs := by
    intro j hj
    rw [← sgm, show D * (sgI B * cWt m v cS S we f j) = sgI B * (D * cWt m v cS S we f j) by grind, key j hj]
    grind
  have hxx : ∀ j : Nat, j < m → 0 ≤ xO L D T b (we j - 1) ∧ 0 ≤ v 0 (we j) := fun j hj => by
    obtain ⟨a1, a2, a3, a4⟩ := hw.1 j hj
    have h2 := hv0 (we j - 1) (by omega)
    rw [show we j - 1 + 1 = we j by omega] at h2
    exact ⟨(hFe.2.1 _ (by omega)).1, h2⟩
  have hx0 : ∀ i : Nat, i < L → ¬ al (i + 1) → xO L D T b i = 0 := fun i hi q => (hFe.2.1 i hi).2 q
  refine ⟨n0, ⟨fun j hj => ?_, fun r hr => ?_⟩, ?_⟩
  · refine mul_canl hD ?_
    show D * 0 ≤ D * (sgI B * cWt m v cS S we f j)
    rw [key2 j hj, Int.mul_zero]
    exact mul_nn (mul_nn (hxx j hj).2 (hxx j hj).1) (Int.le_of_lt hN)
  · refine mul_canl hD ?_
    rw [Int.mul_zero, Int.mul_add, ← sg_mul]
    have e1 : sg (fun j => D * (v r (we j) * cS (we j) * (sgI B * cWt m v cS S we f j))) m = (S * B.natAbs) * sg (fun j => (fun i => v r (i + 1) * xO L D T b i) (we j - 1)) m := by
      rw [← sg_mul]
      refine sg_cg (fun j hj => ?_)
      obtain ⟨a1, a2, a3, a4⟩ := hw.1 j hj
      rw [show D * (v r (we j) * cS (we j) * (sgI B * cWt m v cS S we f j)) = v r (we j) * cS (we j) * (D * (sgI B * cWt m v cS S we f j)) by grind, key2 j hj]
      show _ = S * B.natAbs * (v r (we j - 1 + 1) * xO L D T b (we j - 1))
      rw [show we j - 1 + 1 = we j by omega, ← hk _ a1 a2]
      grind
    rw [e1, ← hw.sum (F := fun i => v r (i + 1) * xO L D T b i) (fun i hi q => by rw [hx0 i hi q, Int.mul_zero])]
    have h3 := mul_nn (mul_nn (Int.le_of_lt hS) (Int.le_of_lt hN)) (hFe.2.2 r hr)
    rw [Int.mul_add] at h3
    have e4 : D * (S * (B.natAbs : Int)) = S * (B.natAbs : Int) * D := by grind
    rw [e4]
    exact h3
  · rw [Int.mul_comm, Int.mul_add, ← sg_mul]
    have e1 : sg (fun j => D * (sgI B * cWt m v cS S we f j)) m = B.natAbs * sg (fun j => (fun i => v 0 (i + 1) * xO L D T b i) (we j - 1)) m := by
      rw [← sg_mul]
      refine sg_cg (fun j hj => ?_)
      obtain ⟨a1, a2, a3, a4⟩ := hw.1 j hj
      rw [key2 j hj]
      show _ = B.natAbs * (v 0 (we j - 1 + 1) * xO L D T b (we j - 1))
      rw [show we j - 1 + 1 = we j by omega]
      grind
    rw [e1, ← hw.sum (F := fun i => v 0 (i + 1) * xO L D T b i) (fun i hi q => by rw [hx0 i hi q, Int.mul_zero])]
    have h3 := h.vl
    unfold vl at h3
    rw [← h3]
    grind
