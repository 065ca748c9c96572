/-! ===== PairSorts: its world ===== -/
def iA (w : aW) : Prop := gO w 0 = some (10, [.ref 1, .ref 2, .ref 8, .ref 10, .ref 24, .ref 26, .ref 31, .ref 36, .ref 41, .ref 51, .ref 54, .ref 57, .ref 61])
def iC (w : aW) (n : Nat) (R : Nat → Nat → Nat) : Prop := tOK n R ∧ ∃ f, tbl w 8 9 n f ∧ tHas 0 n R f
def iE (w : aW) : Prop := ∃ mk, mkO w mk
def iF (w : aW) (n : Nat) (R : Nat → Nat → Nat) : Prop := ∃ kn c g p va mu vl at_, chM w kn c g p va mu vl at_ ∧ (kn = Int32.ofInt 0 ∨ (kn = Int32.ofInt 1 ∧ isSc n R ∧ CR w n R))
def iG (fl : Nat → Nat → Nat → Prop) (w : aW) (o n : Nat) (R : Nat → Nat → Nat) : Prop := ∃ kn c fo od us nu, orM w o kn c fo od us nu ∧ (kn = Int32.ofInt 0 ∨ (kn = Int32.ofInt 1 ∧ isSc n R ∧ OF fl w o (gry R n)))
def iI (w : aW) (n : Nat) (R : Nat → Nat → Nat) : Prop := ∃ kn c fo dg, FM w kn c fo dg ∧ (kn = Int32.ofInt 0 ∨ (kn = Int32.ofInt 1 ∧ FF w n R))
def iJ (w : aW) : Prop := ∃ ta fr b, cdO w ta fr b
def siM (w : aW) (bo : Int64) (he la : Int32) (ce : Nat → Int64) (ba : Nat → Int32) : Prop := gO w 54 = some (7, [.long bo, .int he, .int la, .ref 55, .ref 56]) ∧ gL w 55 = some (66, ce) ∧ gI w 56 = some (6, ba) ∧ 56 < w.length
def iK (w : aW) : Prop := ∃ bo he la ce ba, siM w bo he la ce ba
def iM (w : aW) (e : Nat → Int32) : Prop := ∃ er, gI w 61 = some (3, er) ∧ (∀ k, k < 3 → er k = e k) ∧ 61 < w.length
theorem iA.keep {w w' : aW} {lo hi : Nat} (h : iA w) (q : eqr lo hi w w') (hs : 0 < lo) : iA w' := by unfold iA; rw [q.o (by omega)]; exact h
theorem iC.keep {w w' : aW} {n : Nat} {R : Nat → Nat → Nat} {lo hi : Nat} (h : iC w n R) (q : eqr lo hi w w') (hs : 9 < lo ∨ hi < 8) : iC w' n R := by
  obtain ⟨h0, f, h1, h2⟩ := h
  exact ⟨h0, f, q.tb (by omega) (by omega) h1, h2⟩
theorem iE.keep {w w' : aW} {lo hi : Nat} (h : iE w) (q : eqr lo hi w w') (hs : 25 < lo ∨ hi < 24) : iE w' := by
  obtain ⟨mk, h⟩ := h
  exact ⟨mk, h.keep q hs⟩
theorem iF.keep {w w' : aW} {n : Nat} {R : Nat → Nat → Nat} {lo hi : Nat} (h : iF w n R) (q : eqr lo hi w w') (hs : 30 < lo ∨ hi < 26) : iF w' n R := by
  obtain ⟨kn, c, g, p, va, mu, vl, at_, h1, h2⟩ := h
  exact ⟨kn, c, g, p, va, mu, vl, at_, h1.keep q hs, h2.imp id (fun p => ⟨p.1, p.2.1, p.2.2.keep q hs⟩)⟩
theorem iG.keep {fl : Nat → Nat → Nat → Prop} {w w' : aW} {o n : Nat} {R : Nat → Nat → Nat} {lo hi : Nat} (h : iG fl w o n R) (q : eqr lo hi w w') (hs : o + 4 < lo ∨ hi < o) : iG fl w' o n R := by
  obtain ⟨kn, c, fo, od, us, nu, h1, h2⟩ := h
  exact ⟨kn, c, fo, od, us, nu, h1.keep q hs, h2.imp id (fun p => ⟨p.1, p.2.1, p.2.2.keep q hs⟩)⟩
theorem iI.keep {w w' : aW} {n : Nat} {R : Nat → Nat → Nat} {lo hi : Nat} (h : iI w n R) (q : eqr lo hi w w') (hs : 50 < lo ∨ hi < 41) : iI w' n R := by
  obtain ⟨kn, c, fo, dg, h1, h2⟩ := h
  exact ⟨kn, c, fo, dg, h1.keep q hs, h2.imp id (fun p => ⟨p.1, p.2.keep q hs⟩)⟩
theorem iJ.keep {w w' : aW} {lo hi : Nat} (h : iJ w) (q : eqr lo hi w w') (hs : 53 < lo ∨ hi < 51) : iJ w' := by
  obtain ⟨ta, fr, b, h⟩ := h
  exact ⟨ta, fr, b, h.keep q hs⟩
theorem iK.keep {w w' : aW} {lo hi : Nat} (h : iK w) (q : eqr lo hi w w') (hs : 56 < lo ∨ hi < 54) : iK w' := by
  obtain ⟨bo, he, la, ce, ba, h1, h2, h3, h4⟩ := h
  exact ⟨bo, he, la, ce, ba, by rw [q.o (by omega)]; exact h1, by rw [q.l (by omega)]; exact h2, by rw [q.i (by omega)]; exact h3, by rw [q.1]; exact h4⟩
theorem iM.keep {w w' : aW} {e : Nat → Int32} {lo hi : Nat} (h : iM w e) (q : eqr lo hi w w') (hs : 61 < lo ∨ hi < 61) : iM w' e := by
  obtain ⟨er, h1, h2, h3⟩ := h
  exact ⟨er, by rw [q.i (by omega)]; exact h1, h2, by rw [q.1]; exact h3⟩
/-- the class's world: the table (n, R) now, (n0, R0) when the last call ended -/
def CJ (w : aW) (n : Nat) (R : Nat → Nat → Nat) (n0 : Nat) (R0 : Nat → Nat → Nat) (ts : List (Nat × (Nat → Nat → Nat))) (e : Nat → Int32) (T : List Nat) : Prop := tOK n R ∧ iA w ∧ SC w 1 n R ∧ iC w n0 R0 ∧ SH w ts ∧ iE w ∧ iF w n R ∧ iG (fl0 n R) w 31 n R ∧ iG (fl1 n R) w 36 n R ∧ iI w n R ∧ iJ w ∧ iK w ∧ TX w T ∧ iM w e
theorem CJ.sA {w w' : aW} {n : Nat} {R : Nat → Nat → Nat} {n0 : Nat} {R0 : Nat → Nat → Nat} {ts : List (Nat × (Nat → Nat → Nat))} {e : Nat → Int32} {T : List Nat} (h : CJ w n R n0 R0 ts e T) (q : eqr 0 0 w w') (x : iA w') : CJ w' n R n0 R0 ts e T := by
  obtain ⟨hR, hA, hB, hC, hD, hE, hF, hG, hH, hI, hJ, hK, hL, hM⟩ := h
  exact ⟨hR, x, hB.keep q (by omega), hC.keep q (by omega), hD.keep q (by omega), hE.keep q (by omega), hF.keep q (by omega), hG.keep q (by omega), hH.keep q (by omega), hI.keep q (by omega), hJ.keep q (by omega), hK.keep q (by omega), hL.keep q (by omega), hM.keep q (by omega)⟩
theorem CJ.sB {w w' : aW} {n : Nat} {R : Nat → Nat → Nat} {n0 : Nat} {R0 : Nat → Nat → Nat} {ts : List (Nat × (Nat → Nat → Nat))} {e : Nat → Int32} {T : List Nat} (h : CJ w n R n0 R0 ts e T) (q : eqr 1 7 w w') (x : SC w' 1 n R) : CJ w' n R n0 R0 ts e T := by
  obtain ⟨hR, hA, hB, hC, hD, hE, hF, hG, hH, hI, hJ, hK, hL, hM⟩ := h
  exact ⟨hR, hA.keep q (by omega), x, hC.keep q (by omega), hD.keep q (by omega), hE.keep q (by omega), hF.keep q (by omega), hG.keep q (by omega), hH.keep q (by omega), hI.keep q (by omega), hJ.keep q (by omega), hK.keep q (by omega), hL.keep q (by omega), hM.keep q (by omega)⟩
theorem CJ.sC {w w' : aW} {n0' : Nat} {R0' : Nat → Nat → Nat} {n : Nat} {R : Nat → Nat → Nat} {n0 : Nat} {R0 : Nat → Nat → Nat} {ts : List (Nat × (Nat → Nat → Nat))} {e : Nat → Int32} {T : List Nat} (h : CJ w n R n0 R0 ts e T) (q : eqr 8 9 w w') (x : iC w' n0' R0') : CJ w' n R n0' R0' ts e T := by
  obtain ⟨hR, hA, hB, hC, hD, hE, hF, hG, hH, hI, hJ, hK, hL, hM⟩ := h
  exact ⟨hR, hA.keep q (by omega), hB.keep q (by omega), x, hD.keep q (by omega), hE.keep q (by omega), hF.keep q (by omega), hG.keep q (by omega), hH.keep q (by omega), hI.keep q (by omega), hJ.keep q (by omega), hK.keep q (by omega), hL.keep q (by omega), hM.keep q (by omega)⟩
theorem CJ.sD {w w' : aW} {ts' : List (Nat × (Nat → Nat → Nat))} {n : Nat} {R : Nat → Nat → Nat} {n0 : Nat} {R0 : Nat → Nat → Nat} {ts : List (Nat × (Nat → Nat → Nat))} {e : Nat → Int32} {T : List Nat} (h : CJ w n R n0 R0 ts e T) (q : eqr 10 23 w w') (x : SH w' ts') : CJ w' n R n0 R0 ts' e T := by
  obtain ⟨hR, hA, hB, hC, hD, hE, hF, hG, hH, hI, hJ, hK, hL, hM⟩ := h
  exact ⟨hR, hA.keep q (by omega), hB.keep q (by omega), hC.keep q (by omega), x, hE.keep q (by omega), hF.keep q (by omega), hG.keep q (by omega), hH.keep q (by omega), hI.keep q (by omega), hJ.keep q (by omega), hK.keep q (by omega), hL.keep q (by omega), hM.keep q (by omega)⟩
theorem CJ.sE {w w' : aW} {n : Nat} {R : Nat → Nat → Nat} {n0 : Nat} {R0 : Nat → Nat → Nat} {ts : List (Nat × (Nat → Nat → Nat))} {e : Nat → Int32} {T : List Nat} (h : CJ w n R n0 R0 ts e T) (q : eqr 24 25 w w') (x : iE w') : CJ w' n R n0 R0 ts e T := by
  obtain ⟨hR, hA, hB, hC, hD, hE, hF, hG, hH, hI, hJ, hK, hL, hM⟩ := h
  exact ⟨hR, hA.keep q (by omega), hB.keep q (by omega), hC.keep q (by omega), hD.keep q (by omega), x, hF.keep q (by omega), hG.keep q (by omega), hH.keep q (by omega), hI.keep q (by omega), hJ.keep q (by omega), hK.keep q (by omega), hL.keep q (by omega), hM.keep q (by omega)⟩
theorem CJ.sF {w w' : aW} {n : Nat} {R : Nat → Nat → Nat} {n0 : Nat} {R0 : Nat → Nat → Nat} {ts : List (Nat × (Nat → Nat → Nat))} {e : Nat → Int32} {T : List Nat} (h : CJ w n R n0 R0 ts e T) (q : eqr 26 30 w w') (x : iF w' n R) : CJ w' n R n0 R0 ts e T := by
  obtain ⟨hR, hA, hB, hC, hD, hE, hF, hG, hH, hI, hJ, hK, hL, hM⟩ := h
  exact ⟨hR, hA.keep q (by omega), hB.keep q (by omega), hC.keep q (by omega), hD.keep q (by omega), hE.keep q (by omega), x, hG.keep q (by omega), hH.keep q (by omega), hI.keep q (by omega), hJ.keep q (by omega), hK.keep q (by omega), hL.keep q (by omega), hM.keep q (by omega)⟩
theorem CJ.sG {w w' : aW} {n : Nat} {R : Nat → Nat → Nat} {n0 : Nat} {R0 : Nat → Nat → Nat} {ts : List (Nat × (Nat → Nat → Nat))} {e : Nat → Int32} {T : List Nat} (h : CJ w n R n0 R0 ts e T) (q : eqr 31 35 w w') (x : iG (fl0 n R) w' 31 n R) : CJ w' n R n0 R0 ts e T := by
  obtain ⟨hR, hA, hB, hC, hD, hE, hF, hG, hH, hI, hJ, hK, hL, hM⟩ := h
  exact ⟨hR, hA.keep q (by omega), hB.keep q (by omega), hC.keep q (by omega), hD.keep q (by omega), hE.keep q (by omega), hF.keep q (by omega), x, hH.keep q (by omega), hI.keep q (by omega), hJ.keep q (by omega), hK.keep q (by omega), hL.keep q (by omega), hM.keep q (by omega)⟩
theorem CJ.sH {w w' : aW} {n : Nat} {R : Nat → Nat → Nat} {n0 : Nat} {R0 : Nat → Nat → Nat} {ts : List (Nat × (Nat → Nat → Nat))} {e : Nat → Int32} {T : List Nat} (h : CJ w n R n0 R0 ts e T) (q : eqr 36 40 w w') (x : iG (fl1 n R) w' 36 n R) : CJ w' n R n0 R0 ts e T := by
  obtain ⟨hR, hA, hB, hC, hD, hE, hF, hG, hH, hI, hJ, hK, hL, hM⟩ := h
  exact ⟨hR, hA.keep q (by omega), hB.keep q (by omega), hC.keep q (by omega), hD.keep q (by omega), hE.keep q (by omega), hF.keep q (by omega), hG.keep q (by omega), x, hI.keep q (by omega), hJ.keep q (by omega), hK.keep q (by omega), hL.keep q (by omega), hM.keep q (by omega)⟩
theorem CJ.sI {w w' : aW} {n : Nat} {R : Nat → Nat → Nat} {n0 : Nat} {R0 : Nat → Nat → Nat} {ts : List (Nat × (Nat → Nat → Nat))} {e : Nat → Int32} {T : List Nat} (h : CJ w n R n0 R0 ts e T) (q : eqr 41 50 w w') (x : iI w' n R) : CJ w' n R n0 R0 ts e T := by
  obtain ⟨hR, hA, hB, hC, hD, hE, hF, hG, hH, hI, hJ, hK, hL, hM⟩ := h
  exact ⟨hR, hA.keep q (by omega), hB.keep q (by omega), hC.keep q (by omega), hD.keep q (by omega), hE.keep q (by omega), hF.keep q (by omega), hG.keep q (by omega), hH.keep q (by omega), x, hJ.keep q (by omega), hK.keep q (by omega), hL.keep q (by omega), hM.keep q (by omega)⟩
theorem CJ.sJ {w w' : aW} {n : Nat} {R : Nat → Nat → Nat} {n0 : Nat} {R0 : Nat → Nat → Nat} {ts : List (Nat × (Nat → Nat → Nat))} {e : Nat → Int32} {T : List Nat} (h : CJ w n R n0 R0 ts e T) (q : eqr 51 53 w w') (x : iJ w') : CJ w' n R n0 R0 ts e T := by
  obtain ⟨hR, hA, hB, hC, hD, hE, hF, hG, hH, hI, hJ, hK, hL, hM⟩ := h
  exact ⟨hR, hA.keep q (by omega), hB.keep q (by omega), hC.keep q (by omega), hD.keep q (by omega), hE.keep q (by omega), hF.keep q (by omega), hG.keep q (by omega), hH.keep q (by omega), hI.keep q (by omega), x, hK.keep q (by omega), hL.keep q (by omega), hM.keep q (by omega)⟩
theorem CJ.sK {w w' : aW} {n : Nat} {R : Nat → Nat → Nat} {n0 : Nat} {R0 : Nat → Nat → Nat} {ts : List (Nat × (Nat → Nat → Nat))} {e : Nat → Int32} {T : List Nat} (h : CJ w n R n0 R0 ts e T) (q : eqr 54 56 w w') (x : iK w') : CJ w' n R n0 R0 ts e T := by
  obtain ⟨hR, hA, hB, hC, hD, hE, hF, hG, hH, hI, hJ, hK, hL, hM⟩ := h
  exact ⟨hR, hA.keep q (by omega), hB.keep q (by omega), hC.keep q (by omega), hD.keep q (by omega), hE.keep q (by omega), hF.keep q (by omega), hG.keep q (by omega), hH.keep q (by omega), hI.keep q (by omega), hJ.keep q (by omega), x, hL.keep q (by omega), hM.keep q (by omega)⟩
theorem CJ.sL {w w' : aW} {T' : List Nat} {n : Nat} {R : Nat → Nat → Nat} {n0 : Nat} {R0 : Nat → Nat → Nat} {ts : List (Nat × (Nat → Nat → Nat))} {e : Nat → Int32} {T : List Nat} (h : CJ w n R n0 R0 ts e T) (q : eqr 57 60 w w') (x : TX w' T') : CJ w' n R n0 R0 ts e T' := by
  obtain ⟨hR, hA, hB, hC, hD, hE, hF, hG, hH, hI, hJ, hK, hL, hM⟩ := h
  exact ⟨hR, hA.keep q (by omega), hB.keep q (by omega), hC.keep q (by omega), hD.keep q (by omega), hE.keep q (by omega), hF.keep q (by omega), hG.keep q (by omega), hH.keep q (by omega), hI.keep q (by omega), hJ.keep q (by omega), hK.keep q (by omega), x, hM.keep q (by omega)⟩
theorem CJ.sM {w w' : aW} {e' : Nat → Int32} {n : Nat} {R : Nat → Nat → Nat} {n0 : Nat} {R0 : Nat → Nat → Nat} {ts : List (Nat × (Nat → Nat → Nat))} {e : Nat → Int32} {T : List Nat} (h : CJ w n R n0 R0 ts e T) (q : eqr 61 61 w w') (x : iM w' e') : CJ w' n R n0 R0 ts e' T := by
  obtain ⟨hR, hA, hB, hC, hD, hE, hF, hG, hH, hI, hJ, hK, hL, hM⟩ := h
  exact ⟨hR, hA.keep q (by omega), hB.keep q (by omega), hC.keep q (by omega), hD.keep q (by omega), hE.keep q (by omega), hF.keep q (by omega), hG.keep q (by omega), hH.keep q (by omega), hI.keep q (by omega), hJ.keep q (by omega), hK.keep q (by omega), hL.keep q (by omega), x⟩
theorem CJ.gA {w : aW} {n : Nat} {R : Nat → Nat → Nat} {n0 : Nat} {R0 : Nat → Nat → Nat} {ts : List (Nat × (Nat → Nat → Nat))} {e : Nat → Int32} {T : List Nat} (h : CJ w n R n0 R0 ts e T) : iA w := h.2.1
theorem CJ.gB {w : aW} {n : Nat} {R : Nat → Nat → Nat} {n0 : Nat} {R0 : Nat → Nat → Nat} {ts : List (Nat × (Nat → Nat → Nat))} {e : Nat → Int32} {T : List Nat} (h : CJ w n R n0 R0 ts e T) : SC w 1 n R := h.2.2.1
theorem CJ.gC {w : aW} {n : Nat} {R : Nat → Nat → Nat} {n0 : Nat} {R0 : Nat → Nat → Nat} {ts : List (Nat × (Nat → Nat → Nat))} {e : Nat → Int32} {T : List Nat} (h : CJ w n R n0 R0 ts e T) : iC w n0 R0 := h.2.2.2.1
theorem CJ.gD {w : aW} {n : Nat} {R : Nat → Nat → Nat} {n0 : Nat} {R0 : Nat → Nat → Nat} {ts : List (Nat × (Nat → Nat → Nat))} {e : Nat → Int32} {T : List Nat} (h : CJ w n R n0 R0 ts e T) : SH w ts := h.2.2.2.2.1
theorem CJ.gE {w : aW} {n : Nat} {R : Nat → Nat → Nat} {n0 : Nat} {R0 : Nat → Nat → Nat} {ts : List (Nat × (Nat → Nat → Nat))} {e : Nat → Int32} {T : List Nat} (h : CJ w n R n0 R0 ts e T) : iE w := h.2.2.2.2.2.1
theorem CJ.gF {w : aW} {n : Nat} {R : Nat → Nat → Nat} {n0 : Nat} {R0 : Nat → Nat → Nat} {ts : List (Nat × (Nat → Nat → Nat))} {e : Nat → Int32} {T : List Nat} (h : CJ w n R n0 R0 ts e T) : iF w n R := h.2.2.2.2.2.2.1
theorem CJ.gG {w : aW} {n : Nat} {R : Nat → Nat → Nat} {n0 : Nat} {R0 : Nat → Nat → Nat} {ts : List (Nat × (Nat → Nat → Nat))} {e : Nat → Int32} {T : List Nat} (h : CJ w n R n0 R0 ts e T) : iG (fl0 n R) w 31 n R := h.2.2.2.2.2.2.2.1
theorem CJ.gH {w : aW} {n : Nat} {R : Nat → Nat → Nat} {n0 : Nat} {R0 : Nat → Nat → Nat} {ts : List (Nat × (Nat → Nat → Nat))} {e : Nat → Int32} {T : List Nat} (h : CJ w n R n0 R0 ts e T) : iG (fl1 n R) w 36 n R := h.2.2.2.2.2.2.2.2.1
theorem CJ.gI {w : aW} {n : Nat} {R : Nat → Nat → Nat} {n0 : Nat} {R0 : Nat → Nat → Nat} {ts : List (Nat × (Nat → Nat → Nat))} {e : Nat → Int32} {T : List Nat} (h : CJ w n R n0 R0 ts e T) : iI w n R := h.2.2.2.2.2.2.2.2.2.1
theorem CJ.gJ {w : aW} {n : Nat} {R : Nat → Nat → Nat} {n0 : Nat} {R0 : Nat → Nat → Nat} {ts : List (Nat × (Nat → Nat → Nat))} {e : Nat → Int32} {T : List Nat} (h : CJ w n R n0 R0 ts e T) : iJ w := h.2.2.2.2.2.2.2.2.2.2.1
theorem CJ.gK {w : aW} {n : Nat} {R : Nat → Nat → Nat} {n0 : Nat} {R0 : Nat → Nat → Nat} {ts : List (Nat × (Nat → Nat → Nat))} {e : Nat → Int32} {T : List Nat} (h : CJ w n R n0 R0 ts e T) : iK w := h.2.2.2.2.2.2.2.2.2.2.2.1
theorem CJ.gL {w : aW} {n : Nat} {R : Nat → Nat → Nat} {n0 : Nat} {R0 : Nat → Nat → Nat} {ts : List (Nat × (Nat → Nat → Nat))} {e : Nat → Int32} {T : List Nat} (h : CJ w n R n0 R0 ts e T) : TX w T := h.2.2.2.2.2.2.2.2.2.2.2.2.1
theorem CJ.gM {w : aW} {n : Nat} {R : Nat → Nat → Nat} {n0 : Nat} {R0 : Nat → Nat → Nat} {ts : List (Nat × (Nat → Nat → Nat))} {e : Nat → Int32} {T : List Nat} (h : CJ w n R n0 R0 ts e T) : iM w e := h.2.2.2.2.2.2.2.2.2.2.2.2.2
