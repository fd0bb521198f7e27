/-! THE CLASS MAKES CELLS: trees with holes. fr: the row of free cells, fc of them left; H: the pointers that are still to be set (false lesser, true greater) -/
def xIn (fr : Nat → Int32) (fc i : Nat) : Prop := ∃ p, p < fc ∧ fr p = nI i
def xRw (b : Bool) : Nat := match b with
  | false => 18
  | true => 19
def xHv (b : Bool) (i : Nat) : Int32 := match b with
  | false => nI i
  | true => -nI i
theorem xRw_b (b : Bool) : 18 ≤ xRw b ∧ xRw b ≤ 19 := by cases b <;> decide
theorem xRw_i {a b : Bool} (h : xRw a = xRw b) : a = b := by
  cases a <;> cases b
  · rfl
  · exact absurd h (by decide)
  · exact absurd h (by decide)
  · rfl
theorem xIn_le {fr : Nat → Int32} {a b i : Nat} (h : a ≤ b) : xIn fr a i → xIn fr b i := fun ⟨p, h1, h2⟩ => ⟨p, by omega, h2⟩
/-- a tree without holes, of cells that are not free -/
def xCl (fr : Nat → Int32) (fc : Nat) (H : Bool → Nat → Prop) (S : mv_S) (σ : Nat → Nat) (sd : Int32) : tT → Int32 → Prop
  | .leaf, c => c = 0
  | .inner s k v l r, c => ∃ i, 1 ≤ i ∧ i ≤ 800 ∧ c = nI i ∧ ¬ xIn fr fc i ∧ (∀ b, ¬ H b i) ∧ σ i = s ∧ S.2.1 15 i = k ∧ S.2.1 16 i = v ∧ S.2.1 17 i = xRank sd k ∧ xCl fr fc H S σ sd l (S.2.1 18 i) ∧ xCl fr fc H S σ sd r (S.2.1 19 i)
def xAg (M : Nat) (fr : Nat → Int32) (fc : Nat) (H : Bool → Nat → Prop) (S S' : mv_S) : Prop := ∀ i, i ≤ M → ¬ xIn fr fc i → (∀ o, 15 ≤ o → o ≤ 17 → S'.2.1 o i = S.2.1 o i) ∧ (∀ b, ¬ H b i → S'.2.1 (xRw b) i = S.2.1 (xRw b) i)
def xTo (M : Nat) (fr : Nat → Int32) (fc : Nat) (H : Bool → Nat → Prop) (S : mv_S) (fc2 : Nat) (H2 : Bool → Nat → Prop) (S2 : mv_S) : Prop := fc2 ≤ fc ∧ xAg M fr fc H S S2 ∧ ∀ b i, H2 b i → H b i ∨ xIn fr fc i
/-- what hangs at (b, i) makes f of it at (b0, i0) -/
def xHo (M : Nat) (fr : Nat → Int32) (fc : Nat) (H : Bool → Nat → Prop) (S : mv_S) (σ : Nat → Nat) (sd : Int32) (b : Bool) (i : Nat) (f : tT → tT) (b0 : Bool) (i0 : Nat) : Prop := ∀ fc2 H2 S2, xTo M fr fc H S fc2 H2 S2 → ¬ H2 b i → ∀ T, xCl fr fc2 H2 S2 σ sd T (S2.2.1 (xRw b) i) → xCl fr fc2 H2 S2 σ sd (f T) (S2.2.1 (xRw b0) i0)
section XW
variable {M : Nat} {fr : Nat → Int32} {fc fc2 fc3 : Nat} {H H2 H3 : Bool → Nat → Prop} {S S2 S3 : mv_S} {σ : Nat → Nat} {sd : Int32}
theorem xTo_refl : xTo M fr fc H S fc H S := ⟨Nat.le_refl _, fun _ _ _ => ⟨fun _ _ _ => rfl, fun _ _ => rfl⟩, fun _ _ h => Or.inl h⟩
theorem xTo_trans (h : xTo M fr fc H S fc2 H2 S2) (g : xTo M fr fc2 H2 S2 fc3 H3 S3) : xTo M fr fc H S fc3 H3 S3 := by
  refine ⟨Nat.le_trans g.1 h.1, fun i hi hn => ?_, fun b i z => ?_⟩
  · have n2 : ¬ xIn fr fc2 i := fun z => hn (xIn_le h.1 z)
    have a := h.2.1 i hi hn
    have c := g.2.1 i hi n2
    refine ⟨fun o o1 o2 => (c.1 o o1 o2).trans (a.1 o o1 o2), fun b hb => ?_⟩
    have hb2 : ¬ H2 b i := fun z => (h.2.2 b i z).elim hb hn
    exact (c.2 b hb2).trans (a.2 b hb)
  · rcases g.2.2 b i z with y | y
    · exact h.2.2 b i y
    · exact Or.inr (xIn_le h.1 y)
theorem xCl_go (hM : 800 ≤ M) (h : xTo M fr fc H S fc2 H2 S2) : ∀ {T : tT} {c : Int32}, xCl fr fc H S σ sd T c → xCl fr fc2 H2 S2 σ sd T c
  | .leaf, _, a => a
  | .inner s k v l r, c, a => by
    obtain ⟨i, i1, i2, i3, i4, i5, i6, i7, i8, i9, i10, i11⟩ := a
    obtain ⟨g1, g2⟩ := h.2.1 i (by omega) i4
    have r18 : S2.2.1 18 i = S.2.1 18 i := g2 false (i5 false)
    have r19 : S2.2.1 19 i = S.2.1 19 i := g2 true (i5 true)
    refine ⟨i, i1, i2, i3, fun z => i4 (xIn_le h.1 z), fun b z => (h.2.2 b i z).elim (i5 b) i4, i6, ?_, ?_, ?_, ?_, ?_⟩
    · rw [g1 15 (by decide) (by decide)]; exact i7
    · rw [g1 16 (by decide) (by decide)]; exact i8
    · rw [g1 17 (by decide) (by decide)]; exact i9
    · rw [r18]; exact xCl_go hM h i10
    · rw [r19]; exact xCl_go hM h i11
theorem xHo_id {b0 : Bool} {i0 : Nat} : xHo M fr fc H S σ sd b0 i0 (fun T => T) b0 i0 := fun _ _ _ _ _ _ h => h
theorem xHo_go {b b0 : Bool} {i i0 : Nat} {f : tT → tT} (h : xTo M fr fc H S fc2 H2 S2) (g : xHo M fr fc H S σ sd b i f b0 i0) : xHo M fr fc2 H2 S2 σ sd b i f b0 i0 := fun fc3 H3 S3 z => g fc3 H3 S3 (xTo_trans h z)
/-- the holes with (hb, hi) filled -/
def xRm (H : Bool → Nat → Prop) (hb : Bool) (hi : Nat) : Bool → Nat → Prop := fun b i => H b i ∧ ¬ (b = hb ∧ i = hi)
/-- and one at (b', j) -/
def xMv (H : Bool → Nat → Prop) (hb : Bool) (hi : Nat) (b' : Bool) (j : Nat) : Bool → Nat → Prop := fun b i => (H b i ∧ ¬ (b = hb ∧ i = hi)) ∨ (b = b' ∧ i = j)
def tSd (b : Bool) (s : Nat) (k v : Int32) (T G : tT) : tT := match b with
  | false => .inner s k v T G
  | true => .inner s k v G T
theorem xGrow {hb b' : Bool} {hi j : Nat} (hfr : fr fc = nI j) (hd : ¬ xIn fr fc j) (hv : ¬ xIn fr (fc + 1) hi) (hH : H hb hi)
    (hS : ∀ i o, i ≤ M → i ≠ j → 15 ≤ o → o ≤ 19 → ¬ (o = xRw hb ∧ i = hi) → S2.2.1 o i = S.2.1 o i) : xTo M fr (fc + 1) H S fc (xMv H hb hi b' j) S2 := by
  have hj : xIn fr (fc + 1) j := ⟨fc, by omega, hfr⟩
  refine ⟨by omega, fun i h1 h2 => ?_, fun b i z => ?_⟩
  · have hne : i ≠ j := fun e => h2 (by rw [e]; exact hj)
    refine ⟨fun o o1 o2 => hS i o h1 hne o1 (by omega) (fun z => by have := xRw_b hb; omega), fun b nb => ?_⟩
    have := xRw_b b
    refine hS i (xRw b) h1 hne (by omega) (by omega) (fun z => nb ?_)
    rw [xRw_i z.1, z.2]; exact hH
  · rcases z with z | z
    · exact Or.inl z.1
    · rw [z.2]; exact Or.inr hj
theorem xGrow_ho {hb b' b0 : Bool} {hi j i0 st : Nat} {k v : Int32} {G : tT} {f : tT → tT} (hM : 800 ≤ M) (h1 : 1 ≤ j) (h8 : j ≤ 800) (hfr : fr fc = nI j) (hd : ¬ xIn fr fc j) (hv : ¬ xIn fr (fc + 1) hi) (hiM : hi ≤ M) (hH : H hb hi) (hHv : ∀ b i, H b i → ¬ xIn fr (fc + 1) i)
    (hS : ∀ i o, i ≤ M → i ≠ j → 15 ≤ o → o ≤ 19 → ¬ (o = xRw hb ∧ i = hi) → S2.2.1 o i = S.2.1 o i) (hp : S2.2.1 (xRw hb) hi = nI j)
    (hs : σ j = st) (e15 : S2.2.1 15 j = k) (e16 : S2.2.1 16 j = v) (e17 : S2.2.1 17 j = xRank sd k) (hG : xCl fr (fc + 1) H S σ sd G (S2.2.1 (xRw (!b')) j)) (ho : xHo M fr (fc + 1) H S σ sd hb hi f b0 i0) : xHo M fr fc (xMv H hb hi b' j) S2 σ sd b' j (fun T => f (tSd b' st k v T G)) b0 i0 := by
  have go := xGrow (M := M) (b' := b') hfr hd hv hH hS
  have hj : xIn fr (fc + 1) j := ⟨fc, by omega, hfr⟩
  have hne : hi ≠ j := fun e => hv (by rw [e]; exact hj)
  intro fc3 H3 S3 g nb T hT
  have n2 : ¬ xMv H hb hi b' j hb hi := fun z => z.elim (fun y => y.2 ⟨rfl, rfl⟩) (fun y => hne y.2)
  have n2f : ¬ xIn fr fc hi := fun z => hv (xIn_le (by omega) z)
  have n3 : ¬ H3 hb hi := fun z => (g.2.2 hb hi z).elim n2 n2f
  refine ho fc3 H3 S3 (xTo_trans go g) n3 _ ?_
  rw [(g.2.1 hi hiM n2f).2 hb n2, hp]
  obtain ⟨g1, g2⟩ := g.2.1 j (by omega) hd
  have no : ¬ xMv H hb hi b' j (!b') j := fun z => z.elim (fun y => hHv _ _ y.1 hj) (fun y => by cases b' <;> cases y.1)
  have nh : ∀ b, ¬ H3 b j := fun b z => by
    by_cases e : b = b'
    · subst e; exact nb z
    · have e2 : b = !b' := by cases b <;> cases b' <;> first | rfl | exact absurd rfl e
      subst e2
      exact (g.2.2 _ j z).elim no hd
  have hG3 : xCl fr fc3 H3 S3 σ sd G (S3.2.1 (xRw (!b')) j) := by
    rw [g2 _ no]; exact xCl_go hM (xTo_trans go g) hG
  have f15 : S3.2.1 15 j = k := by rw [g1 15 (by decide) (by decide)]; exact e15
  have f16 : S3.2.1 16 j = v := by rw [g1 16 (by decide) (by decide)]; exact e16
  have f17 : S3.2.1 17 j = xRank sd k := by rw [g1 17 (by decide) (by decide)]; exact e17
  have nf : ¬ xIn fr fc3 j := fun z => hd (xIn_le g.1 z)
  cases b'
  · exact ⟨j, h1, h8, rfl, nf, nh, hs, f15, f16, f17, hT, hG3⟩
  · exact ⟨j, h1, h8, rfl, nf, nh, hs, f15, f16, f17, hG3, hT⟩
theorem xClose {hb : Bool} {hi : Nat} (hH : H hb hi)
    (hS : ∀ i o, i ≤ M → 15 ≤ o → o ≤ 19 → ¬ (o = xRw hb ∧ i = hi) → S2.2.1 o i = S.2.1 o i) : xTo M fr fc H S fc (xRm H hb hi) S2 := by
  refine ⟨Nat.le_refl _, fun i h1 h2 => ⟨fun o o1 o2 => hS i o h1 o1 (by omega) (fun z => by have := xRw_b hb; omega), fun b nb => ?_⟩, fun b i z => Or.inl z.1⟩
  have := xRw_b b
  refine hS i (xRw b) h1 (by omega) (by omega) (fun z => nb ?_)
  rw [xRw_i z.1, z.2]; exact hH
theorem xClose_cl {hb b0 : Bool} {hi i0 : Nat} {G : tT} {f : tT → tT} (hM : 800 ≤ M) (hH : H hb hi)
    (hS : ∀ i o, i ≤ M → 15 ≤ o → o ≤ 19 → ¬ (o = xRw hb ∧ i = hi) → S2.2.1 o i = S.2.1 o i) (hG : xCl fr fc H S σ sd G (S2.2.1 (xRw hb) hi)) (ho : xHo M fr fc H S σ sd hb hi f b0 i0) : xCl fr fc (xRm H hb hi) S2 σ sd (f G) (S2.2.1 (xRw b0) i0) := by
  have go := xClose (fr := fr) (fc := fc) hH hS
  exact ho fc (xRm H hb hi) S2 go (fun z => z.2 ⟨rfl, rfl⟩) G (xCl_go hM go hG)
theorem xNew {j : Nat} (hfr : fr fc = nI j) (hS : ∀ i o, i ≤ M → i ≠ j → 15 ≤ o → o ≤ 19 → S2.2.1 o i = S.2.1 o i) : xTo M fr (fc + 1) H S fc H S2 := by
  have hj : xIn fr (fc + 1) j := ⟨fc, by omega, hfr⟩
  refine ⟨by omega, fun i h1 h2 => ?_, fun b i z => Or.inl z⟩
  have hne : i ≠ j := fun e => h2 (by rw [e]; exact hj)
  exact ⟨fun o o1 o2 => hS i o h1 hne o1 (by omega), fun b _ => hS i _ h1 hne (by have := xRw_b b; omega) (by have := xRw_b b; omega)⟩
theorem xNew_cl {j st : Nat} {k v : Int32} {L G : tT} (hM : 800 ≤ M) (h1 : 1 ≤ j) (h8 : j ≤ 800) (hfr : fr fc = nI j) (hd : ¬ xIn fr fc j) (hHv : ∀ b i, H b i → ¬ xIn fr (fc + 1) i) (hS : ∀ i o, i ≤ M → i ≠ j → 15 ≤ o → o ≤ 19 → S2.2.1 o i = S.2.1 o i)
    (hs : σ j = st) (e15 : S2.2.1 15 j = k) (e16 : S2.2.1 16 j = v) (e17 : S2.2.1 17 j = xRank sd k) (hL : xCl fr (fc + 1) H S σ sd L (S2.2.1 18 j)) (hG : xCl fr (fc + 1) H S σ sd G (S2.2.1 19 j)) : xCl fr fc H S2 σ sd (.inner st k v L G) (nI j) := by
  have go := xNew (M := M) (H := H) hfr hS
  have hj : xIn fr (fc + 1) j := ⟨fc, by omega, hfr⟩
  exact ⟨j, h1, h8, rfl, hd, fun b z => hHv b j z hj, hs, e15, e16, e17, xCl_go hM go hL, xCl_go hM go hG⟩
end XW
