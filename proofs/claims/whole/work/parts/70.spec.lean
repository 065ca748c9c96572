/-! ===== what the calls answer: the state and its changes ===== -/
noncomputable def cif {α : Sort _} (P : Prop) (a b : α) : α := @ite α P (Classical.propDecidable P) a b
theorem cif_y {α : Sort _} {P : Prop} {a b : α} (h : P) : cif P a b = a := by unfold cif; exact if_pos h
theorem cif_n {α : Sort _} {P : Prop} {a b : α} (h : ¬ P) : cif P a b = b := by unfold cif; exact if_neg h
/-- points, sorts, kept tables (the oldest first), errors, text -/
abbrev St : Type := Nat × (Nat → Nat → Nat) × List (Nat × (Nat → Nat → Nat)) × (Nat → Int32) × List Nat
def bmp (e : Nat → Int32) (k : Nat) : Nat → Int32 := upd e k (e k + 1)
def sBmp (σ : St) (k : Nat) : St := (σ.1, σ.2.1, σ.2.2.1, bmp σ.2.2.2.1 k, σ.2.2.2.2)
/-- what a command comes to: its answer and the table -/
abbrev Cm : Type := Int × Nat × (Nat → Nat → Nat)
def rst : Nat → Nat → Nat := fun x y => if x = y then 0 else 1
def ptR (R : Nat → Nat → Nat) (x y z : Nat) : Nat → Nat → Nat := fun a b => if (a = x ∧ b = y) ∨ (a = y ∧ b = x) then z else R a b
noncomputable def mkN (k a b : Int) : Int := Classical.epsilon (fun z => mSz k a b z)
noncomputable def mkT (k a b : Int) : Nat → Nat → Nat := fun x y => if x = y then 0 else Classical.epsilon (fun u => mRel k.toNat a.toNat b.toNat (mkN k a b).toNat (min x y) (max x y) u)
noncomputable def cmN (n : Nat) (R : Nat → Nat → Nat) (m : Int) : Cm := cif (1 ≤ m ∧ m ≤ 13) ((n : Int), m.toNat, rst) (-2, n, R)
noncomputable def cmP (n : Nat) (R : Nat → Nat → Nat) (x y z : Int) : Cm := cif ((0 ≤ x ∧ x < n) ∧ (0 ≤ y ∧ y < n) ∧ x ≠ y ∧ 1 ≤ z ∧ z ≤ 5) ((R x.toNat y.toNat : Int), n, ptR R x.toNat y.toNat z.toNat) (-2, n, R)
noncomputable def cmM (n : Nat) (R : Nat → Nat → Nat) (k a b : Int) : Cm := cif (∃ z, mSz k a b z ∧ 1 ≤ z ∧ z ≤ 13) (mkN k a b, (mkN k a b).toNat, mkT k a b) (-2, n, R)
noncomputable def cmR (n : Nat) (R : Nat → Nat → Nat) (i j : Int) : Cm := cif ((1 ≤ i ∧ i ≤ 5) ∧ (1 ≤ j ∧ j ≤ 5) ∧ i ≠ j) ((cny R i.toNat j.toNat n : Int), n, fun x y => swp i.toNat j.toNat (R x y)) (-2, n, R)
noncomputable def cmD (n : Nat) (R : Nat → Nat → Nat) (x : Int) : Cm := cif (0 ≤ x ∧ x < n) (cif (n = 1) (-3, n, R) ((n : Int) - 1, n - 1, fun y z => R (skp x.toNat y) (skp x.toNat z))) (-2, n, R)
/-- a call that changes the table -/
noncomputable def stl (σ : St) (c : Cm) : Int × St := cif (c.1 < 0) (c.1, sBmp σ (-2 - c.1).toNat) (c.1, c.2.1, c.2.2, shNext σ.2.2.1 (σ.1, σ.2.1), σ.2.2.2.1, σ.2.2.2.2)
/-- the reference's own numbers hold the state -/
def RK (s : Nat → Int32) (A : Nat → Nat → Int32) (σ : St) : Prop := rTb A σ.1 σ.2.1 ∧ tOK σ.1 σ.2.1 ∧ rPs A s σ.2.2.1 ∧ A 68 0 = Int32.ofInt 0 ∧ (∀ k, k < 3 → A 66 k = σ.2.2.2.1 k) ∧ s 4 = Int32.ofInt ((σ.2.2.2.2.length : Nat) : Int) ∧ tBy σ.2.2.2.2 (A 86)
def RI (v w : aW) (σ : St) : Prop := ∃ s l A B, RX v w s l A B ∧ RK s A σ
theorem rPs.eq {A A' : Nat → Nat → Int32} {s s' : Nat → Int32} {ts : List (Nat × (Nat → Nat → Nat))} (h : rPs A s ts) (e : A' 64 = A 64) (es : s' 0 = s 0) : rPs A' s' ts := by
  unfold rPs
  rw [e, es]
  exact h
theorem RK.eq {s s' : Nat → Int32} {A A' : Nat → Nat → Int32} {σ : St} {lo hi : Nat} (h : RK s A σ) (e : eqA lo hi A A') (h1 : 68 < lo) (h2 : hi < 86) (e0 : s' 0 = s 0) (e4 : s' 4 = s 4) : RK s' A' σ := by
  obtain ⟨a1, a2, a3, a4, a5, a6, a7⟩ := h
  refine ⟨a1.eq e (by omega), a2, a3.eq (e 64 (by omega)) e0, by rw [e 68 (by omega)]; exact a4, by rw [e 66 (by omega)]; exact a5, by rw [e4]; exact a6, by rw [e 86 (by omega)]; exact a7⟩
theorem RK.eq68 {s s' : Nat → Int32} {A A' : Nat → Nat → Int32} {σ : St} {hi : Nat} (h : RK s A σ) (e : eqA 68 hi A A') (h2 : hi < 86) (h68 : A' 68 0 = Int32.ofInt 0) (e0 : s' 0 = s 0) (e4 : s' 4 = s 4) : RK s' A' σ := by
  obtain ⟨a1, a2, a3, a4, a5, a6, a7⟩ := h
  refine ⟨a1.eq e (by omega), a2, a3.eq (e 64 (by omega)) e0, h68, by rw [e 66 (by omega)]; exact a5, by rw [e4]; exact a6, by rw [e 86 (by omega)]; exact a7⟩
theorem RI.wd {v w : aW} {σ : St} (h : RI v w σ) : RI w w σ := by
  obtain ⟨s, l, A, B, h1, h2⟩ := h
  exact ⟨s, l, A, B, h1.base, h2⟩
theorem r_ref {v w : aW} {s : Nat → Int32} {l : Nat → Int64} {A : Nat → Nat → Int32} {B : Nat → Nat → Int64} {σ : St} (h : RX v w s l A B) (hk : RK s A σ) {k : Nat} {z : Int} (hz : z = -2 - (k : Int)) (hk3 : k < 3) : Ct 1 149 [.ref 62, .int (Int32.ofInt z)] w (fun r w' => r = some (.int (Int32.ofInt z)) ∧ RI v w' (sBmp σ k)) := by
  subst hz
  refine (r_refuses h hk3).mono (Nat.le_refl _) (fun r w' hr => ?_)
  obtain ⟨rfl, hW⟩ := hr
  obtain ⟨a1, a2, a3, a4, a5, a6, a7⟩ := hk
  refine ⟨rfl, s, l, _, B, hW, ⟨by rw [upA_ne _ _ (by omega)]; exact a1.1, by rw [upA_ne _ _ (by omega)]; exact a1.2⟩, a2, a3.eq (upA_ne _ _ (by omega)) rfl, by rw [upA_ne _ _ (by omega)]; exact a4, fun j hj => ?_, a6, by rw [upA_ne _ _ (by omega)]; exact a7⟩
  rw [upA_at]
  show upd (A 66) k (A 66 k + 1) j = upd σ.2.2.2.1 k (σ.2.2.2.1 k + 1) j
  unfold upd
  by_cases e : j = k
  · rw [if_pos e, if_pos e, a5 k hk3]
  · rw [if_neg e, if_neg e]; exact a5 j hj
/-- keep, with the whole state -/
theorem r_keepK {v w : aW} {s : Nat → Int32} {l : Nat → Int64} {A : Nat → Nat → Int32} {B : Nat → Nat → Int64} {σ : St} (h : RX v w s l A B) (hk : RK s A σ) : Ct 1 150 [.ref 62] w (fun r w' => r = none ∧ ∃ s' A', RX v w' s' l A' B ∧ RK s' A' (σ.1, σ.2.1, shNext σ.2.2.1 (σ.1, σ.2.1), σ.2.2.2.1, σ.2.2.2.2)) := by
  obtain ⟨a1, a2, a3, a4, a5, a6, a7⟩ := hk
  refine (r_keep h a3 a1 a2).mono (Nat.le_refl _) (fun r w' hr => ?_)
  obtain ⟨rfl, g, s', hW, hp, hs⟩ := hr
  refine ⟨rfl, s', _, hW, ⟨by rw [upA_ne _ _ (by omega)]; exact a1.1, by rw [upA_ne _ _ (by omega)]; exact a1.2⟩, a2, hp, by rw [upA_ne _ _ (by omega)]; exact a4, by rw [upA_ne _ _ (by omega)]; exact a5, by rw [hs 4 (by omega)]; exact a6, by rw [upA_ne _ _ (by omega)]; exact a7⟩
/-- the table alone is another one -/
theorem RK.tab {s : Nat → Int32} {A A' : Nat → Nat → Int32} {σ : St} {m : Nat} {R' : Nat → Nat → Nat} (h : RK s A σ) (e : eqA 63 67 A A') (e64 : A' 64 = A 64) (e66 : A' 66 = A 66) (ht : rTb A' m R') (hR : tOK m R') : RK s A' (m, R', σ.2.2.1, σ.2.2.2.1, σ.2.2.2.2) := by
  obtain ⟨a1, a2, a3, a4, a5, a6, a7⟩ := h
  exact ⟨ht, hR, a3.eq e64 rfl, by rw [e 68 (by omega)]; exact a4, by rw [e66]; exact a5, a6, by rw [e 86 (by omega)]; exact a7⟩
theorem stl_no {σ : St} {z : Int} {m : Nat} {R' : Nat → Nat → Nat} (h : z < 0) : stl σ (z, m, R') = (z, sBmp σ (-2 - z).toNat) := by unfold stl; exact cif_y h
theorem stl_ok {σ : St} {z : Int} {m : Nat} {R' : Nat → Nat → Nat} (h : 0 ≤ z) : stl σ (z, m, R') = (z, m, R', shNext σ.2.2.1 (σ.1, σ.2.1), σ.2.2.2.1, σ.2.2.2.2) := by unfold stl; exact cif_n (by show ¬ z < 0; omega)
theorem tOK_rst {m : Nat} (h1 : 1 ≤ m) (h2 : m ≤ 13) : tOK m rst := by
  refine ⟨h1, h2, fun x _ => by simp [rst], fun x y _ _ => ?_, fun x y _ _ hne => ?_⟩
  · unfold rst
    by_cases e : x = y
    · rw [if_pos e, if_pos e.symm]
    · rw [if_neg e, if_neg (fun q => e q.symm)]
  · unfold rst; rw [if_neg hne]; omega
theorem tOK_ptR {n : Nat} {R : Nat → Nat → Nat} (hR : tOK n R) {x y z : Nat} (hxy : x ≠ y) (hz : 1 ≤ z ∧ z ≤ 5) : tOK n (ptR R x y z) := by
  obtain ⟨h1, h2, h3, h4, h5⟩ := hR
  refine ⟨h1, h2, fun a ha => ?_, fun a b ha hb => ?_, fun a b ha hb hne => ?_⟩
  · unfold ptR; rw [if_neg (by omega)]; exact h3 a ha
  · unfold ptR
    by_cases e : (a = x ∧ b = y) ∨ (a = y ∧ b = x)
    · rw [if_pos e, if_pos (by omega)]
    · rw [if_neg e, if_neg (by omega)]; exact h4 a b ha hb
  · unfold ptR
    by_cases e : (a = x ∧ b = y) ∨ (a = y ∧ b = x)
    · rw [if_pos e]; exact hz
    · rw [if_neg e]; exact h5 a b ha hb hne
theorem tOK_swp {n : Nat} {R : Nat → Nat → Nat} (hR : tOK n R) {i j : Nat} (hi : 1 ≤ i ∧ i ≤ 5) (hj : 1 ≤ j ∧ j ≤ 5) : tOK n (fun x y => swp i j (R x y)) := by
  obtain ⟨h1, h2, h3, h4, h5⟩ := hR
  refine ⟨h1, h2, fun a ha => ?_, fun a b ha hb => ?_, fun a b ha hb hne => ?_⟩
  · show swp i j (R a a) = 0
    rw [h3 a ha]; exact swp_0 hi.1 hj.1
  · show swp i j (R a b) = swp i j (R b a)
    rw [h4 a b ha hb]
  · have := h5 a b ha hb hne
    show 1 ≤ swp i j (R a b) ∧ swp i j (R a b) ≤ 5
    unfold swp
    split
    · exact hj
    · split
      · exact hi
      · exact this
theorem tOK_skp {n m : Nat} {R : Nat → Nat → Nat} (hR : tOK n R) {p : Nat} (hp : p < n) (hm : n = m + 1) (hm1 : 1 ≤ m) : tOK m (fun x y => R (skp p x) (skp p y)) := by
  obtain ⟨h1, h2, h3, h4, h5⟩ := hR
  have sk : ∀ x, x < m → skp p x < n := fun x hx => by unfold skp; split <;> omega
  refine ⟨hm1, by omega, fun a ha => h3 _ (sk a ha), fun a b ha hb => h4 _ _ (sk a ha) (sk b hb), fun a b ha hb hne => h5 _ _ (sk a ha) (sk b hb) ?_⟩
  unfold skp
  split <;> split <;> omega
/-- the table that is made -/
theorem mkN_is {k a b z : Int} (h : mSz k a b z) : mkN k a b = z := by
  unfold mkN
  exact mSz_un (Classical.epsilon_spec (p := fun z => mSz k a b z) ⟨z, h⟩) h
