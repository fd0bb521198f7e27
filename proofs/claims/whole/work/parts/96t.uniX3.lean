/-! THE CLASS'S UNION: its rounds -/
def xUS (S0 S : mv_S) (σ : Nat → Nat) (sd : Int32) (rm fb m : Nat) (ps : List (tT × tT × Bool × Nat)) : Prop := xMs S0 S rm fb m ∧ xHok S0 fb m (xUH ps) ∧ (∀ b i, xUH ps b i → i ≤ 801) ∧ S.1 5 4 = nI ps.length ∧ xUr (S0.2.1 20) (fb - m) (xUH ps) S σ sd ps
/-- one union: it waits on top, or it is there -/
def xOne (S0 S : mv_S) (σ : Nat → Nat) (sd : Int32) (rm fb m : Nat) (below : List (tT × tT × Bool × Nat)) (A B : tT) (hb : Bool) (hi fcB : Nat) (HB : Bool → Nat → Prop) (SB : mv_S) : Prop := (¬ A = .leaf ∧ ¬ B = .leaf ∧ xUS S0 S σ sd rm fb m (below ++ [(A, B, hb, hi)]) ∧ xTo 801 (S0.2.1 20) fcB HB SB (fb - m) (x1 (xUH below) hb hi) S) ∨ ((A = .leaf ∨ B = .leaf) ∧ xUS S0 S σ sd rm fb m below ∧ xTo 801 (S0.2.1 20) fcB HB SB (fb - m) (xUH below) S ∧ xCl (S0.2.1 20) (fb - m) (xUH below) S σ sd (tOr A B) (S.2.1 (xRw hb) hi))
def xVQ (P : Option Value → mv_S → Prop) (d : Nat) (S0 : mv_S) (σ : Nat → Nat) (st : Nat) (sd : Int32) (rm fb n : Nat) : Prop := ∀ (A B : tT) (below : List (tT × tT × Bool × Nat)) (hb : Bool) (hi : Nat) (l : List (Nat × Value)) (i : Nat) (S : mv_S) (m fcB : Nat) (HB : Bool → Nat → Prop) (SB : mv_S), tN A + tN B < n → xOne S0 S σ sd rm fb m below A B hb hi fcB HB SB → ¬ xUH below hb hi → i ≤ m → below.length ≤ m → xVL l (nI i) → (rm < m + tUnN (xRank sd) st n A B → ∀ x S', xOv S0 S' rm fb → P (some (.int x)) S') → (∀ l' i' S', xUS S0 S' σ sd rm fb (m + tUnN (xRank sd) st n A B) below → xTo 801 (S0.2.1 20) fcB HB SB (fb - (m + tUnN (xRank sd) st n A B)) (xUH below) S' → xCl (S0.2.1 20) (fb - (m + tUnN (xRank sd) st n A B)) (xUH below) S' σ sd (tUn (xRank sd) st n A B) (S'.2.1 (xRw hb) hi) → i' ≤ m + tUnN (xRank sd) st n A B → xVL l' (nI i') → xVw P d (300 * (404 - i')) 16 l' [] S') → xVw P d (300 * (404 - i)) 16 l [] S
theorem t_inn : ∀ {T : tT}, ¬ T = .leaf → ∃ t k v l r, T = .inner t k v l r
  | .leaf, h => absurd rfl h
  | .inner t k v l r, _ => ⟨t, k, v, l, r, rfl⟩
section XW
variable {d : Nat} {P : Option Value → mv_S → Prop} {S0 S : mv_S} {σ : Nat → Nat} {st : Nat} {sd : Int32} {rm fb m n : Nat} {k v : Int32} {A1 B1 A2 B2 : tT} {hb : Bool} {hi j i : Nat} {below psL : List (tT × tT × Bool × Nat)} {S3 S4 S5 : mv_S} {l : List (Nat × Value)}
set_option maxHeartbeats 1000000 in
set_option maxRecDepth 8000 in
theorem xV_fin (Q : xVQ P d S0 σ st sd rm fb n) (n1 : tN A1 + tN B1 < n) (n2 : tN A2 + tN B2 < n) (hcl : ∀ fc3 H3 S4 T1 T2, xTo 801 (S0.2.1 20) (fb - m) (x1 (x1 (xUH below) true j) false j) S3 fc3 H3 S4 → ¬ H3 false j → ¬ H3 true j → xCl (S0.2.1 20) fc3 H3 S4 σ sd T1 (S4.2.1 18 j) → xCl (S0.2.1 20) fc3 H3 S4 σ sd T2 (S4.2.1 19 j) → xCl (S0.2.1 20) fc3 H3 S4 σ sd (.inner st k v T1 T2) (S4.2.1 (xRw hb) hi)) (g34 : xTo 801 (S0.2.1 20) (fb - m) (x1 (x1 (xUH below) true j) false j) S3 (fb - m) (x1 (xUH psL) true j) S4) (D1 : (¬ A1 = .leaf ∧ ¬ B1 = .leaf ∧ psL = below ++ [(A1, B1, false, j)]) ∨ ((A1 = .leaf ∨ B1 = .leaf) ∧ psL = below ∧ xCl (S0.2.1 20) (fb - m) (x1 (xUH below) true j) S4 σ sd (tOr A1 B1) (S4.2.1 18 j))) (one : xOne S0 S5 σ sd rm fb m psL A2 B2 true j (fb - m) (x1 (xUH psL) true j) S4) (nt : ¬ xUH below true j) (nf : ¬ xUH below false j) (nT : ¬ xUH psL true j) (jd : ¬ xIn (S0.2.1 20) (fb - m) j) (j8 : j ≤ 800) (i1 : i ≤ m) (i2 : psL.length ≤ m) (i3 : below.length ≤ m) (hl : xVL l (nI i))
    (hf : rm < m + tUnN (xRank sd) st n A2 B2 + tUnN (xRank sd) st n A1 B1 → ∀ x S', xOv S0 S' rm fb → P (some (.int x)) S')
    (K : ∀ l' i' S', xUS S0 S' σ sd rm fb (m + tUnN (xRank sd) st n A2 B2 + tUnN (xRank sd) st n A1 B1) below → xTo 801 (S0.2.1 20) (fb - m) (x1 (x1 (xUH below) true j) false j) S3 (fb - (m + tUnN (xRank sd) st n A2 B2 + tUnN (xRank sd) st n A1 B1)) (xUH below) S' → xCl (S0.2.1 20) (fb - (m + tUnN (xRank sd) st n A2 B2 + tUnN (xRank sd) st n A1 B1)) (xUH below) S' σ sd (.inner st k v (tUn (xRank sd) st n A1 B1) (tUn (xRank sd) st n A2 B2)) (S'.2.1 (xRw hb) hi) → i' ≤ m + tUnN (xRank sd) st n A2 B2 + tUnN (xRank sd) st n A1 B1 → xVL l' (nI i') → xVw P d (300 * (404 - i')) 16 l' [] S') : xVw P d (300 * (404 - i)) 16 l [] S5 := by
  refine Q A2 B2 psL true j l i S5 m _ _ S4 n2 one nT i1 i2 hl (fun q => hf (by omega)) (fun l6 i6 S6 us6 g6 c6 hi6 hl6 => ?_)
  have one1 : xOne S0 S6 σ sd rm fb (m + tUnN (xRank sd) st n A2 B2) below A1 B1 false j (fb - (m + tUnN (xRank sd) st n A2 B2)) (xUH psL) S6 := by
    rcases D1 with ⟨a, b, rfl⟩ | ⟨a, rfl, c⟩
    · refine Or.inl ⟨a, b, us6, ?_⟩
      rw [← xUH_s (A := A1) (B := B1)]
      exact xTo_refl
    · refine Or.inr ⟨a, us6, xTo_refl, ?_⟩
      have e : S6.2.1 18 j = S4.2.1 18 j := (g6.2.1 j (by omega) jd).2 false (fun z => z.elim nf (fun y => by cases y.1))
      show xCl _ _ _ _ _ _ _ (S6.2.1 18 j)
      rw [e]
      exact xCl_go (by decide) g6 c
  have jd6 : ¬ xIn (S0.2.1 20) (fb - (m + tUnN (xRank sd) st n A2 B2)) j := fun z => jd (xIn_le (by omega) z)
  refine Q A1 B1 below false j l6 i6 S6 _ _ _ S6 n1 one1 nf hi6 (by omega) hl6 (fun q => hf (by omega)) (fun l7 i7 S7 us7 g7 c7 hi7 hl7 => ?_)
  have e : S7.2.1 19 j = S6.2.1 19 j := (g7.2.1 j (by omega) jd6).2 true nT
  have c2 : xCl (S0.2.1 20) (fb - (m + tUnN (xRank sd) st n A2 B2 + tUnN (xRank sd) st n A1 B1)) (xUH below) S7 σ sd (tUn (xRank sd) st n A2 B2) (S7.2.1 19 j) := by
    rw [e]; exact xCl_go (by decide) g7 c6
  have gg := xTo_trans g34 (xTo_trans g6 g7)
  exact K l7 i7 S7 us7 gg (hcl _ _ _ _ _ gg nf nt c7 c2) hi7 hl7
set_option maxHeartbeats 1000000 in
set_option maxRecDepth 8000 in
theorem xV_snd1 {a x9 x10 : Int32} {u t : Nat} (Q : xVQ P d S0 σ st sd rm fb n) (n1 : tN A1 + tN B1 < n) (n2 : tN A2 + tN B2 < n) (hcl : ∀ fc3 H3 S4 T1 T2, xTo 801 (S0.2.1 20) (fb - m) (x1 (x1 (xUH below) true j) false j) S3 fc3 H3 S4 → ¬ H3 false j → ¬ H3 true j → xCl (S0.2.1 20) fc3 H3 S4 σ sd T1 (S4.2.1 18 j) → xCl (S0.2.1 20) fc3 H3 S4 σ sd T2 (S4.2.1 19 j) → xCl (S0.2.1 20) fc3 H3 S4 σ sd (.inner st k v T1 T2) (S4.2.1 (xRw hb) hi)) (g34 : xTo 801 (S0.2.1 20) (fb - m) (x1 (x1 (xUH below) true j) false j) S3 (fb - m) (x1 (xUH psL) true j) S4) (D1 : (¬ A1 = .leaf ∧ ¬ B1 = .leaf ∧ psL = below ++ [(A1, B1, false, j)]) ∨ ((A1 = .leaf ∨ B1 = .leaf) ∧ psL = below ∧ xCl (S0.2.1 20) (fb - m) (x1 (xUH below) true j) S4 σ sd (tOr A1 B1) (S4.2.1 18 j))) (nt : ¬ xUH below true j) (nf : ¬ xUH below false j) (nT : ¬ xUH psL true j) (jd : ¬ xIn (S0.2.1 20) (fb - m) j) (j8 : j ≤ 800) (i1 : i + 1 ≤ m) (i2 : psL.length ≤ m) (i3 : below.length ≤ m) (m4 : m ≤ 400) (h4 : xMs S0 S4 rm fb m) (hK : xHok S0 fb m (x1 (xUH psL) true j)) (h8 : ∀ b i, x1 (xUH psL) true j b i → i ≤ 801) (e4 : S4.1 5 4 = nI psL.length) (hr : xUr (S0.2.1 20) (fb - m) (x1 (xUH psL) true j) S4 σ sd psL) (hl : xVM l (nI i) a (nI u) 1 (nI j) x9 x10) (hA2 : xCl (S0.2.1 20) (fb - m) (x1 (xUH psL) true j) S4 σ sd A2 x10) (hU : xCl (S0.2.1 20) (fb - m) (x1 (xUH psL) true j) S4 σ sd (.inner t k v B1 B2) (nI u))
    (hf : rm < m + tUnN (xRank sd) st n A2 B2 + tUnN (xRank sd) st n A1 B1 → ∀ x S', xOv S0 S' rm fb → P (some (.int x)) S')
    (K : ∀ l' i' S', xUS S0 S' σ sd rm fb (m + tUnN (xRank sd) st n A2 B2 + tUnN (xRank sd) st n A1 B1) below → xTo 801 (S0.2.1 20) (fb - m) (x1 (x1 (xUH below) true j) false j) S3 (fb - (m + tUnN (xRank sd) st n A2 B2 + tUnN (xRank sd) st n A1 B1)) (xUH below) S' → xCl (S0.2.1 20) (fb - (m + tUnN (xRank sd) st n A2 B2 + tUnN (xRank sd) st n A1 B1)) (xUH below) S' σ sd (.inner st k v (tUn (xRank sd) st n A1 B1) (tUn (xRank sd) st n A2 B2)) (S'.2.1 (xRw hb) hi) → i' ≤ m + tUnN (xRank sd) st n A2 B2 + tUnN (xRank sd) st n A1 B1 → xVL l' (nI i') → xVw P d (300 * (404 - i')) 16 l' [] S') : xVw P d (300 * (404 - (i + 1)) + 40) 220 l [] S4 := by
  obtain ⟨l0, l3, l4, l5, l6, l8, l9, l10⟩ := hl
  have kd := (xCl_kids hU).2
  refine ws_aload_n rfl (l0) rfl (ws_iload rfl (l10) rfl (ws_aload_n rfl (l0) rfl (ws_getr rfl rfl rfl (ws_iload rfl (l5) rfl (ws_iv rfl rfl rfl ?_)))))
  refine x_greater ?_
  refine ws_iload rfl (l8) rfl (ws_ineg rfl rfl (ws_iv rfl rfl rfl ?_))
  refine x_uni (H := xUH psL) (hb := true) (hi := j) h4 hK nT e4 (by omega) hA2 kd hr (fun zA zB S5 q1 q2 q3 q4 => ?_) (fun zl S5 q1 q2 q3 q4 q5 => ?_)
  · refine ws_goto (t := 276) rfl (by decide) (ws_iinc (y := nI (i + 1)) rfl (l3) rfl ((nI_succ i).symm) rfl rfl (ws_goto (t := 16) rfl (by decide) (?_)))
    have us : xUS S0 S5 σ sd rm fb m (psL ++ [(A2, B2, true, j)]) := by
      refine ⟨q1, ?_, ?_, by rw [q3]; simp, ?_⟩
      · rw [xUH_s]; exact hK
      · rw [xUH_s]; exact h8
      · rw [xUH_s]; exact q4
    exact mv_fuel (by omega) (xV_fin (i := i + 1) Q n1 n2 hcl g34 D1 (Or.inl ⟨zA, zB, us, q2⟩) nt nf nT jd j8 i1 i2 i3 ⟨mv_at_sr (by decide) (l0), mv_at_me⟩ hf K)
  · refine ws_goto (t := 276) rfl (by decide) (ws_iinc (y := nI (i + 1)) rfl (l3) rfl ((nI_succ i).symm) rfl rfl (ws_goto (t := 16) rfl (by decide) (?_)))
    have us : xUS S0 S5 σ sd rm fb m psL := ⟨q1, fun b i z => hK b i (Or.inl z), fun b i z => h8 b i (Or.inl z), q3, q4⟩
    exact mv_fuel (by omega) (xV_fin (i := i + 1) Q n1 n2 hcl g34 D1 (Or.inr ⟨zl, us, q2, q5⟩) nt nf nT jd j8 i1 i2 i3 ⟨mv_at_sr (by decide) (l0), mv_at_me⟩ hf K)
set_option maxHeartbeats 1000000 in
set_option maxRecDepth 8000 in
theorem xV_snd0 {a x9 x10 : Int32} {u t : Nat} (Q : xVQ P d S0 σ st sd rm fb n) (n1 : tN A1 + tN B1 < n) (n2 : tN A2 + tN B2 < n) (hcl : ∀ fc3 H3 S4 T1 T2, xTo 801 (S0.2.1 20) (fb - m) (x1 (x1 (xUH below) true j) false j) S3 fc3 H3 S4 → ¬ H3 false j → ¬ H3 true j → xCl (S0.2.1 20) fc3 H3 S4 σ sd T1 (S4.2.1 18 j) → xCl (S0.2.1 20) fc3 H3 S4 σ sd T2 (S4.2.1 19 j) → xCl (S0.2.1 20) fc3 H3 S4 σ sd (.inner st k v T1 T2) (S4.2.1 (xRw hb) hi)) (g34 : xTo 801 (S0.2.1 20) (fb - m) (x1 (x1 (xUH below) true j) false j) S3 (fb - m) (x1 (xUH psL) true j) S4) (D1 : (¬ A1 = .leaf ∧ ¬ B1 = .leaf ∧ psL = below ++ [(A1, B1, false, j)]) ∨ ((A1 = .leaf ∨ B1 = .leaf) ∧ psL = below ∧ xCl (S0.2.1 20) (fb - m) (x1 (xUH below) true j) S4 σ sd (tOr A1 B1) (S4.2.1 18 j))) (nt : ¬ xUH below true j) (nf : ¬ xUH below false j) (nT : ¬ xUH psL true j) (jd : ¬ xIn (S0.2.1 20) (fb - m) j) (j8 : j ≤ 800) (i1 : i + 1 ≤ m) (i2 : psL.length ≤ m) (i3 : below.length ≤ m) (m4 : m ≤ 400) (h4 : xMs S0 S4 rm fb m) (hK : xHok S0 fb m (x1 (xUH psL) true j)) (h8 : ∀ b i, x1 (xUH psL) true j b i → i ≤ 801) (e4 : S4.1 5 4 = nI psL.length) (hr : xUr (S0.2.1 20) (fb - m) (x1 (xUH psL) true j) S4 σ sd psL) (hl : xVM l (nI i) (nI u) a 0 (nI j) x9 x10) (hB2 : xCl (S0.2.1 20) (fb - m) (x1 (xUH psL) true j) S4 σ sd B2 x10) (hU : xCl (S0.2.1 20) (fb - m) (x1 (xUH psL) true j) S4 σ sd (.inner t k v A1 A2) (nI u))
    (hf : rm < m + tUnN (xRank sd) st n A2 B2 + tUnN (xRank sd) st n A1 B1 → ∀ x S', xOv S0 S' rm fb → P (some (.int x)) S')
    (K : ∀ l' i' S', xUS S0 S' σ sd rm fb (m + tUnN (xRank sd) st n A2 B2 + tUnN (xRank sd) st n A1 B1) below → xTo 801 (S0.2.1 20) (fb - m) (x1 (x1 (xUH below) true j) false j) S3 (fb - (m + tUnN (xRank sd) st n A2 B2 + tUnN (xRank sd) st n A1 B1)) (xUH below) S' → xCl (S0.2.1 20) (fb - (m + tUnN (xRank sd) st n A2 B2 + tUnN (xRank sd) st n A1 B1)) (xUH below) S' σ sd (.inner st k v (tUn (xRank sd) st n A1 B1) (tUn (xRank sd) st n A2 B2)) (S'.2.1 (xRw hb) hi) → i' ≤ m + tUnN (xRank sd) st n A2 B2 + tUnN (xRank sd) st n A1 B1 → xVL l' (nI i') → xVw P d (300 * (404 - i')) 16 l' [] S') : xVw P d (300 * (404 - (i + 1)) + 40) 258 l [] S4 := by
  obtain ⟨l0, l3, l4, l5, l6, l8, l9, l10⟩ := hl
  have kd := (xCl_kids hU).2
  refine ws_aload_n rfl (l0) rfl (ws_aload_n rfl (l0) rfl (ws_getr rfl rfl rfl (ws_iload rfl (l4) rfl (ws_iv rfl rfl rfl ?_))))
  refine x_greater ?_
  refine ws_iload rfl (l10) rfl (ws_iload rfl (l8) rfl (ws_ineg rfl rfl (ws_iv rfl rfl rfl ?_)))
  refine x_uni (H := xUH psL) (hb := true) (hi := j) h4 hK nT e4 (by omega) kd hB2 hr (fun zA zB S5 q1 q2 q3 q4 => ?_) (fun zl S5 q1 q2 q3 q4 q5 => ?_)
  · refine ws_iinc (y := nI (i + 1)) rfl (l3) rfl ((nI_succ i).symm) rfl rfl (ws_goto (t := 16) rfl (by decide) (?_))
    have us : xUS S0 S5 σ sd rm fb m (psL ++ [(A2, B2, true, j)]) := by
      refine ⟨q1, ?_, ?_, by rw [q3]; simp, ?_⟩
      · rw [xUH_s]; exact hK
      · rw [xUH_s]; exact h8
      · rw [xUH_s]; exact q4
    exact mv_fuel (by omega) (xV_fin (i := i + 1) Q n1 n2 hcl g34 D1 (Or.inl ⟨zA, zB, us, q2⟩) nt nf nT jd j8 i1 i2 i3 ⟨mv_at_sr (by decide) (l0), mv_at_me⟩ hf K)
  · refine ws_iinc (y := nI (i + 1)) rfl (l3) rfl ((nI_succ i).symm) rfl rfl (ws_goto (t := 16) rfl (by decide) (?_))
    have us : xUS S0 S5 σ sd rm fb m psL := ⟨q1, fun b i z => hK b i (Or.inl z), fun b i z => h8 b i (Or.inl z), q3, q4⟩
    exact mv_fuel (by omega) (xV_fin (i := i + 1) Q n1 n2 hcl g34 D1 (Or.inr ⟨zl, us, q2, q5⟩) nt nf nT jd j8 i1 i2 i3 ⟨mv_at_sr (by decide) (l0), mv_at_me⟩ hf K)
set_option maxHeartbeats 1000000 in
set_option maxRecDepth 8000 in
theorem xV_two1 {a x9 x10 : Int32} {u t : Nat} (Q : xVQ P d S0 σ st sd rm fb n) (n1 : tN A1 + tN B1 < n) (n2 : tN A2 + tN B2 < n) (hcl : ∀ fc3 H3 S4 T1 T2, xTo 801 (S0.2.1 20) (fb - m) (x1 (x1 (xUH below) true j) false j) S3 fc3 H3 S4 → ¬ H3 false j → ¬ H3 true j → xCl (S0.2.1 20) fc3 H3 S4 σ sd T1 (S4.2.1 18 j) → xCl (S0.2.1 20) fc3 H3 S4 σ sd T2 (S4.2.1 19 j) → xCl (S0.2.1 20) fc3 H3 S4 σ sd (.inner st k v T1 T2) (S4.2.1 (xRw hb) hi)) (nt : ¬ xUH below true j) (nf : ¬ xUH below false j) (jd : ¬ xIn (S0.2.1 20) (fb - m) j) (j8 : j ≤ 800) (i1 : i + 1 ≤ m) (i3 : below.length + 1 ≤ m) (m4 : m ≤ 400) (h3 : xMs S0 S3 rm fb m) (hK : xHok S0 fb m (x1 (x1 (xUH below) true j) false j)) (h8 : ∀ b i, x1 (x1 (xUH below) true j) false j b i → i ≤ 801) (e4 : S3.1 5 4 = nI below.length) (hr : xUr (S0.2.1 20) (fb - m) (x1 (x1 (xUH below) true j) false j) S3 σ sd below) (hl : xVM l (nI i) a (nI u) 1 (nI j) x9 x10) (hA1 : xCl (S0.2.1 20) (fb - m) (x1 (x1 (xUH below) true j) false j) S3 σ sd A1 x9) (hA2 : xCl (S0.2.1 20) (fb - m) (x1 (x1 (xUH below) true j) false j) S3 σ sd A2 x10) (hU : xCl (S0.2.1 20) (fb - m) (x1 (x1 (xUH below) true j) false j) S3 σ sd (.inner t k v B1 B2) (nI u))
    (hf : rm < m + tUnN (xRank sd) st n A2 B2 + tUnN (xRank sd) st n A1 B1 → ∀ x S', xOv S0 S' rm fb → P (some (.int x)) S')
    (K : ∀ l' i' S', xUS S0 S' σ sd rm fb (m + tUnN (xRank sd) st n A2 B2 + tUnN (xRank sd) st n A1 B1) below → xTo 801 (S0.2.1 20) (fb - m) (x1 (x1 (xUH below) true j) false j) S3 (fb - (m + tUnN (xRank sd) st n A2 B2 + tUnN (xRank sd) st n A1 B1)) (xUH below) S' → xCl (S0.2.1 20) (fb - (m + tUnN (xRank sd) st n A2 B2 + tUnN (xRank sd) st n A1 B1)) (xUH below) S' σ sd (.inner st k v (tUn (xRank sd) st n A1 B1) (tUn (xRank sd) st n A2 B2)) (S'.2.1 (xRw hb) hi) → i' ≤ m + tUnN (xRank sd) st n A2 B2 + tUnN (xRank sd) st n A1 B1 → xVL l' (nI i') → xVw P d (300 * (404 - i')) 16 l' [] S') : xVw P d (300 * (404 - (i + 1)) + 140) 198 l [] S3 := by
  have hl0 := hl
  obtain ⟨l0, l3, l4, l5, l6, l8, l9, l10⟩ := hl
  have kd := (xCl_kids hU).1
  have nF : ¬ x1 (xUH below) true j false j := fun z => z.elim nf (fun y => by cases y.1)
  refine ws_iload rfl (l6) rfl (ws_i rfl ⟨fun z => absurd z (show ¬ (1 : Int32) = 0 by decide), fun _ => ?_⟩)
  refine ws_aload_n rfl (l0) rfl (ws_iload rfl (l9) rfl (ws_aload_n rfl (l0) rfl (ws_getr rfl rfl rfl (ws_iload rfl (l5) rfl (ws_iv rfl rfl rfl ?_)))))
  refine x_lesser ?_
  refine ws_iload rfl (l8) rfl (ws_iv rfl rfl rfl ?_)
  refine x_uni (H := x1 (xUH below) true j) (hb := false) (hi := j) h3 hK nF e4 (by omega) hA1 kd hr (fun zA zB S4 q1 q2 q3 q4 => ?_) (fun zl S4 q1 q2 q3 q4 q5 => ?_)
  · have eH : x1 (x1 (xUH below) true j) false j = x1 (xUH (below ++ [(A1, B1, false, j)])) true j := by rw [xUH_s, x1_c]
    have nT : ¬ xUH (below ++ [(A1, B1, false, j)]) true j := by
      rw [xUH_s]; exact fun z => z.elim nt (fun y => by cases y.1)
    have g34 := q2
    have c2 := xCl_go (by decide) q2 hA2
    have u2 := xCl_go (by decide) q2 hU
    have q2' : xTo 801 (S0.2.1 20) (fb - m) (x1 (x1 (xUH below) true j) false j) S3 (fb - m) (x1 (xUH (below ++ [(A1, B1, false, j)])) true j) S4 := by rw [← eH]; exact q2
    rw [eH] at q4 c2 u2 hK h8
    exact mv_fuel (n := 300 * (404 - (i + 1)) + 40) (by omega) (xV_snd1 Q n1 n2 hcl q2' (Or.inl ⟨zA, zB, rfl⟩) nt nf nT jd j8 i1 (by simp; omega) (by omega) m4 q1 hK h8 (by rw [q3]; simp) q4 hl0 c2 u2 hf K)
  · exact mv_fuel (n := 300 * (404 - (i + 1)) + 40) (by omega) (xV_snd1 Q n1 n2 hcl q2 (Or.inr ⟨zl, rfl, q5⟩) nt nf nt jd j8 i1 (by omega) (by omega) m4 q1 (fun b i z => hK b i (Or.inl z)) (fun b i z => h8 b i (Or.inl z)) q3 q4 hl0 (xCl_go (by decide) q2 hA2) (xCl_go (by decide) q2 hU) hf K)
set_option maxHeartbeats 1000000 in
set_option maxRecDepth 8000 in
theorem xV_two0 {a x9 x10 : Int32} {u t : Nat} (Q : xVQ P d S0 σ st sd rm fb n) (n1 : tN A1 + tN B1 < n) (n2 : tN A2 + tN B2 < n) (hcl : ∀ fc3 H3 S4 T1 T2, xTo 801 (S0.2.1 20) (fb - m) (x1 (x1 (xUH below) true j) false j) S3 fc3 H3 S4 → ¬ H3 false j → ¬ H3 true j → xCl (S0.2.1 20) fc3 H3 S4 σ sd T1 (S4.2.1 18 j) → xCl (S0.2.1 20) fc3 H3 S4 σ sd T2 (S4.2.1 19 j) → xCl (S0.2.1 20) fc3 H3 S4 σ sd (.inner st k v T1 T2) (S4.2.1 (xRw hb) hi)) (nt : ¬ xUH below true j) (nf : ¬ xUH below false j) (jd : ¬ xIn (S0.2.1 20) (fb - m) j) (j8 : j ≤ 800) (i1 : i + 1 ≤ m) (i3 : below.length + 1 ≤ m) (m4 : m ≤ 400) (h3 : xMs S0 S3 rm fb m) (hK : xHok S0 fb m (x1 (x1 (xUH below) true j) false j)) (h8 : ∀ b i, x1 (x1 (xUH below) true j) false j b i → i ≤ 801) (e4 : S3.1 5 4 = nI below.length) (hr : xUr (S0.2.1 20) (fb - m) (x1 (x1 (xUH below) true j) false j) S3 σ sd below) (hl : xVM l (nI i) (nI u) a 0 (nI j) x9 x10) (hB1 : xCl (S0.2.1 20) (fb - m) (x1 (x1 (xUH below) true j) false j) S3 σ sd B1 x9) (hB2 : xCl (S0.2.1 20) (fb - m) (x1 (x1 (xUH below) true j) false j) S3 σ sd B2 x10) (hU : xCl (S0.2.1 20) (fb - m) (x1 (x1 (xUH below) true j) false j) S3 σ sd (.inner t k v A1 A2) (nI u))
    (hf : rm < m + tUnN (xRank sd) st n A2 B2 + tUnN (xRank sd) st n A1 B1 → ∀ x S', xOv S0 S' rm fb → P (some (.int x)) S')
    (K : ∀ l' i' S', xUS S0 S' σ sd rm fb (m + tUnN (xRank sd) st n A2 B2 + tUnN (xRank sd) st n A1 B1) below → xTo 801 (S0.2.1 20) (fb - m) (x1 (x1 (xUH below) true j) false j) S3 (fb - (m + tUnN (xRank sd) st n A2 B2 + tUnN (xRank sd) st n A1 B1)) (xUH below) S' → xCl (S0.2.1 20) (fb - (m + tUnN (xRank sd) st n A2 B2 + tUnN (xRank sd) st n A1 B1)) (xUH below) S' σ sd (.inner st k v (tUn (xRank sd) st n A1 B1) (tUn (xRank sd) st n A2 B2)) (S'.2.1 (xRw hb) hi) → i' ≤ m + tUnN (xRank sd) st n A2 B2 + tUnN (xRank sd) st n A1 B1 → xVL l' (nI i') → xVw P d (300 * (404 - i')) 16 l' [] S') : xVw P d (300 * (404 - (i + 1)) + 140) 198 l [] S3 := by
  have hl0 := hl
  obtain ⟨l0, l3, l4, l5, l6, l8, l9, l10⟩ := hl
  have kd := (xCl_kids hU).1
  have nF : ¬ x1 (xUH below) true j false j := fun z => z.elim nf (fun y => by cases y.1)
  refine ws_iload rfl (l6) rfl (ws_i rfl ⟨fun _ => ?_, fun z => absurd rfl z⟩)
  refine ws_aload_n rfl (l0) rfl (ws_aload_n rfl (l0) rfl (ws_getr rfl rfl rfl (ws_iload rfl (l4) rfl (ws_iv rfl rfl rfl ?_))))
  refine x_lesser ?_
  refine ws_iload rfl (l9) rfl (ws_iload rfl (l8) rfl (ws_iv rfl rfl rfl ?_))
  refine x_uni (H := x1 (xUH below) true j) (hb := false) (hi := j) h3 hK nF e4 (by omega) kd hB1 hr (fun zA zB S4 q1 q2 q3 q4 => ?_) (fun zl S4 q1 q2 q3 q4 q5 => ?_)
  · have eH : x1 (x1 (xUH below) true j) false j = x1 (xUH (below ++ [(A1, B1, false, j)])) true j := by rw [xUH_s, x1_c]
    have nT : ¬ xUH (below ++ [(A1, B1, false, j)]) true j := by
      rw [xUH_s]; exact fun z => z.elim nt (fun y => by cases y.1)
    have g34 := q2
    have c2 := xCl_go (by decide) q2 hB2
    have u2 := xCl_go (by decide) q2 hU
    have q2' : xTo 801 (S0.2.1 20) (fb - m) (x1 (x1 (xUH below) true j) false j) S3 (fb - m) (x1 (xUH (below ++ [(A1, B1, false, j)])) true j) S4 := by rw [← eH]; exact q2
    rw [eH] at q4 c2 u2 hK h8
    exact mv_fuel (n := 300 * (404 - (i + 1)) + 40) (by omega) (xV_snd0 Q n1 n2 hcl q2' (Or.inl ⟨zA, zB, rfl⟩) nt nf nT jd j8 i1 (by simp; omega) (by omega) m4 q1 hK h8 (by rw [q3]; simp) q4 hl0 c2 u2 hf K)
  · exact mv_fuel (n := 300 * (404 - (i + 1)) + 40) (by omega) (xV_snd0 Q n1 n2 hcl q2 (Or.inr ⟨zl, rfl, q5⟩) nt nf nt jd j8 i1 (by omega) (by omega) m4 q1 (fun b i z => hK b i (Or.inl z)) (fun b i z => h8 b i (Or.inl z)) q3 q4 hl0 (xCl_go (by decide) q2 hB2) (xCl_go (by decide) q2 hU) hf K)
set_option maxHeartbeats 1000000 in
set_option maxRecDepth 8000 in
theorem xV_Q (hB : xBg S0 sd rm fb) (hs : ∀ i, xIn (S0.2.1 20) fb i → σ i = st) : ∀ n, xVQ P d S0 σ st sd rm fb n
  | 0 => fun _ _ _ _ _ _ _ _ _ _ _ _ h => absurd h (by omega)
  | n + 1 => by
    intro A B below hb hi l i S m fcB HB SB hN one nh i1 i3 hl hf K
    have Q : xVQ P d S0 σ st sd rm fb n := xV_Q hB hs n
    rcases one with ⟨zA, zB, us, g0⟩ | ⟨zl, us, g0, c0⟩
    · obtain ⟨u1, u2, u3, u4, u5⟩ := us
      rw [xUH_s] at u2 u3 u5
      obtain ⟨u6, e34, cA, cB⟩ := xUr_pop u5
      have b3 := hB.2.2.1
      have lm : m ≤ rm := u1.2.2.2.2
      obtain ⟨l0, l3⟩ := hl
      have lt : ¬ (402 : Int32) ≤ nI i := nI_ge (b := 402) (by omega) (by decide)
      have hu4 : below.length < 402 := by omega
      have u4' : S.1 5 4 = nI (below.length + 1) := by rw [u4]; simp
      have gt : ¬ nI (below.length + 1) ≤ 0 := fun z => absurd z (by rw [← nI_0]; exact nI_ge (by omega) (by omega))
      obtain ⟨t, k, v, L, R, rfl⟩ := t_inn zA
      obtain ⟨t', k', v', L', R', rfl⟩ := t_inn zB
      have e15 : S.1 3 15 = 0 := u1.2.2.2.1
      refine mv_fuel (n := 300 * (404 - (i + 1)) + 140 + 80 + 70) (by omega) ?_
      refine ws_iload_n rfl (l3) rfl (ws_sipush (x := 402) rfl rfl rfl (ws_i rfl ⟨fun z => absurd z lt, fun _ => ?_⟩))
      refine ws_aload_n rfl (l0) rfl (ws_geti rfl rfl (u4') rfl (ws_i rfl ⟨fun z => absurd z gt, fun _ => ?_⟩))
      refine ws_aload_n rfl (l0) rfl (ws_getr rfl rfl rfl (ws_iv rfl rfl rfl ?_))
      refine x_over (Or.inl e15) ?_
      rw [e15]
      refine ws_i rfl ⟨fun z => absurd rfl z, fun _ => ?_⟩
      refine ws_aload_n rfl (l0) rfl (ws_dup_r rfl rfl (ws_geti rfl rfl (u4') rfl (ws_iconst (x := 1) rfl rfl rfl (ws_isub rfl (nI_pred _) rfl (?_)))))
      refine ws_puti rfl rfl rfl ?_
      obtain ⟨S1, hS1⟩ : ∃ S1, S1 = mv_pf S 5 4 (nI below.length) := ⟨_, rfl⟩
      rw [← hS1]
      have r1 : ∀ o i, S1.2.1 o i = S.2.1 o i := fun o i => by rw [hS1]; rfl
      have e41 : S1.1 5 4 = nI below.length := by rw [hS1, pf_get, if_pos ⟨rfl, rfl⟩]
      have h1 : xMs S0 S1 rm fb m := by rw [hS1]; exact xMs_pf u1 (Or.inl rfl)
      have go1 : xTo 801 (S0.2.1 20) (fb - m) (x1 (xUH below) hb hi) S (fb - m) (x1 (xUH below) hb hi) S1 := by rw [hS1]; exact xTo_refl (S := S)
      have u61 := xUr_go u6 go1 (fun o i _ _ _ => r1 o i)
      have cA1 := xCl_go (by decide) go1 cA
      have cB1 := xCl_go (by decide) go1 cB
      have cA2 := cA1
      have cB2 := cB1
      obtain ⟨ia, a1, a2, a3, -, -, -, -, -, a9, -⟩ := cA2
      obtain ⟨ib, b1, b2, b4, -, -, -, -, -, b9, -⟩ := cB2
      rw [a3] at cA1
      rw [b4] at cB1
      have era : xC S1 17 (nI ia) = xRank sd k := by rw [xC_in a1 a2]; exact a9
      have erb : xC S1 17 (nI ib) = xRank sd k' := by rw [xC_in b1 b2]; exact b9
      have zA := @tN_lo st k' (.inner t k v L R)
      have zB := @tN_lo st k (.inner t' k' v' L' R')
      have zC : tN (.inner t k v L R : tT) = tN L + tN R + 1 := rfl
      have zD : tN (.inner t' k' v' L' R' : tT) = tN L' + tN R' + 1 := rfl
      refine ws_aload_n rfl (l0) rfl (ws_getr rfl rfl rfl (ws_aload_n rfl (l0) rfl (ws_geti rfl rfl (e41) rfl (ws_is rfl rfl rfl ?_))))
      refine mv_deep (d := d + 1) (by omega) (x_at_32 ?_)
      rw [rAt_nI hu4 (by decide), r1, a3]
      refine ws_istore rfl rfl rfl rfl (ws_aload_n rfl (mv_at_sr (by decide) (l0)) rfl (ws_getr rfl rfl rfl (ws_aload_n rfl (mv_at_sr (by decide) (l0)) rfl (ws_geti rfl rfl (e41) rfl (ws_is rfl rfl rfl ?_)))))
      refine mv_deep (d := d + 1) (by omega) (x_at_33 ?_)
      rw [rAt_nI hu4 (by decide), r1, b4]
      refine ws_istore rfl rfl rfl rfl (ws_aload_n rfl (mv_at_sr (by decide) (mv_at_sr (by decide) (l0))) rfl (ws_getr rfl rfl rfl (ws_iload rfl (mv_at_me) rfl (ws_iv rfl rfl rfl ?_))))
      refine x_rank ?_
      rw [erb]
      refine ws_aload_n rfl (mv_at_sr (by decide) (mv_at_sr (by decide) (l0))) rfl (ws_getr rfl rfl rfl (ws_iload rfl (mv_at_sv (by decide) (mv_at_me)) rfl (ws_iv rfl rfl rfl ?_)))
      refine x_rank ?_
      rw [era]
      by_cases c : xRank sd k ≤ xRank sd k'
      · skip
        refine ws_i rfl ⟨fun z => absurd z (Int32.not_lt.mpr c), fun _ => ?_⟩
        refine ws_iconst (x := 1) rfl rfl rfl (ws_goto (t := 102) rfl (by decide) (ws_istore rfl rfl rfl rfl (ws_iload rfl (mv_at_me) rfl (ws_i rfl ⟨fun z => absurd z (show ¬ (1 : Int32) = 0 by decide), fun _ => ?_⟩))))
        refine ws_iload rfl (mv_at_sv (by decide) (mv_at_me)) rfl (ws_goto (t := 116) rfl (by decide) (ws_istore rfl rfl rfl rfl ?_))
        have e1 : tUn (xRank sd) st (n + 1) (.inner t k v L R) (.inner t' k' v' L' R') = .inner st k' v' (tUn (xRank sd) st n (tLo st k' (.inner t k v L R)) L') (tUn (xRank sd) st n (tHi st k' (.inner t k v L R)) R') := by rw [tUn, if_pos c]
        have e2 : tUnN (xRank sd) st (n + 1) (.inner t k v L R) (.inner t' k' v' L' R') = 1 + tSpN k' (.inner t k v L R) + tUnN (xRank sd) st n (tLo st k' (.inner t k v L R)) L' + tUnN (xRank sd) st n (tHi st k' (.inner t k v L R)) R' := by rw [tUnN, if_pos c]
        have em : m + tUnN (xRank sd) st (n + 1) (.inner t k v L R) (.inner t' k' v' L' R') = m + 1 + tSpN k' (.inner t k v L R) + tUnN (xRank sd) st n (tHi st k' (.inner t k v L R)) R' + tUnN (xRank sd) st n (tLo st k' (.inner t k v L R)) L' := by rw [e2]; omega
        rw [e1, em] at K
        rw [em] at hf
        refine mv_fuel (n := 300 * (404 - (i + 1)) + 140 + 80) (by omega) (xV_mid (F := 300 * (404 - (i + 1)) + 140) (n := i) (u := ib) (a := nI ia) (b := nI ib) (sa := 1) (o := nI ia) (H := xUH below) hB hs (mv_at_sr (by decide) (mv_at_sr (by decide) (mv_at_sr (by decide) (mv_at_sr (by decide) (l0))))) (mv_at_sv (by decide) (mv_at_sv (by decide) (mv_at_sv (by decide) (mv_at_sv (by decide) (l3))))) (mv_at_sv (by decide) (mv_at_sv (by decide) (mv_at_sv (by decide) (mv_at_me)))) (mv_at_sv (by decide) (mv_at_sv (by decide) (mv_at_me))) (mv_at_sv (by decide) (mv_at_me)) (mv_at_me) (Or.inl ⟨rfl, rfl⟩) h1 u2 u3 nh hu4 e41 ((r1 _ _).trans e34) u61 cB1 (by omega) cA1 (by omega) (fun q => hf (by omega)) (fun q j l' S3 j1 j8 jd m3 g3 k3 h83 nt nf hcl e43 hr3 cl cg cU hl' => ?_))
        refine xV_two1 (m := m + 1 + tSpN k' (.inner t k v L R)) Q (by omega) (by omega) hcl nt nf jd j8 (by omega) (by omega) (by omega) m3 k3 h83 e43 hr3 hl' cl cg cU hf (fun l7 i7 S7 us g7 c7 hi7 hl7 => ?_)
        exact K l7 i7 S7 us (xTo_trans g0 (xTo_trans go1 (xTo_trans g3 g7))) c7 hi7 hl7
      · skip
        refine ws_i rfl ⟨fun _ => ?_, fun z => absurd (Int32.not_le.mp c) z⟩
        refine ws_iconst (x := 0) rfl rfl rfl (ws_istore rfl rfl rfl rfl (ws_iload rfl (mv_at_me) rfl (ws_i rfl ⟨fun _ => ?_, fun z => absurd rfl z⟩)))
        refine ws_iload rfl (mv_at_sv (by decide) (mv_at_sv (by decide) (mv_at_me))) rfl (ws_istore rfl rfl rfl rfl ?_)
        have e1 : tUn (xRank sd) st (n + 1) (.inner t k v L R) (.inner t' k' v' L' R') = .inner st k v (tUn (xRank sd) st n L (tLo st k (.inner t' k' v' L' R'))) (tUn (xRank sd) st n R (tHi st k (.inner t' k' v' L' R'))) := by rw [tUn, if_neg c]
        have e2 : tUnN (xRank sd) st (n + 1) (.inner t k v L R) (.inner t' k' v' L' R') = 1 + tSpN k (.inner t' k' v' L' R') + tUnN (xRank sd) st n L (tLo st k (.inner t' k' v' L' R')) + tUnN (xRank sd) st n R (tHi st k (.inner t' k' v' L' R')) := by rw [tUnN, if_neg c]
        have em : m + tUnN (xRank sd) st (n + 1) (.inner t k v L R) (.inner t' k' v' L' R') = m + 1 + tSpN k (.inner t' k' v' L' R') + tUnN (xRank sd) st n R (tHi st k (.inner t' k' v' L' R')) + tUnN (xRank sd) st n L (tLo st k (.inner t' k' v' L' R')) := by rw [e2]; omega
        rw [e1, em] at K
        rw [em] at hf
        refine mv_fuel (n := 300 * (404 - (i + 1)) + 140 + 80) (by omega) (xV_mid (F := 300 * (404 - (i + 1)) + 140) (n := i) (u := ia) (a := nI ia) (b := nI ib) (sa := 0) (o := nI ib) (H := xUH below) hB hs (mv_at_sr (by decide) (mv_at_sr (by decide) (mv_at_sr (by decide) (mv_at_sr (by decide) (l0))))) (mv_at_sv (by decide) (mv_at_sv (by decide) (mv_at_sv (by decide) (mv_at_sv (by decide) (l3))))) (mv_at_sv (by decide) (mv_at_sv (by decide) (mv_at_sv (by decide) (mv_at_me)))) (mv_at_sv (by decide) (mv_at_sv (by decide) (mv_at_me))) (mv_at_sv (by decide) (mv_at_me)) (mv_at_me) (Or.inr ⟨rfl, rfl⟩) h1 u2 u3 nh hu4 e41 ((r1 _ _).trans e34) u61 cA1 (by omega) cB1 (by omega) (fun q => hf (by omega)) (fun q j l' S3 j1 j8 jd m3 g3 k3 h83 nt nf hcl e43 hr3 cl cg cU hl' => ?_))
        refine xV_two0 (m := m + 1 + tSpN k (.inner t' k' v' L' R')) Q (by omega) (by omega) hcl nt nf jd j8 (by omega) (by omega) (by omega) m3 k3 h83 e43 hr3 hl' cl cg cU hf (fun l7 i7 S7 us g7 c7 hi7 hl7 => ?_)
        exact K l7 i7 S7 us (xTo_trans g0 (xTo_trans go1 (xTo_trans g3 g7))) c7 hi7 hl7
    · obtain ⟨e1, e2⟩ := tUn_or (R := xRank sd) (s := st) (n := n) zl
      rw [e1, e2] at K
      exact K l i S us g0 c0 i1 hl
theorem xCl_801 {fr : Nat → Int32} {fc : Nat} : ∀ {T : tT} {c : Int32}, xCl fr fc xNo S σ sd T c → xCl fr fc (x1 (xUH []) false 801) S σ sd T c
  | .leaf, _, h => h
  | .inner _ _ _ _ _, _, ⟨i, i1, i2, i3, i4, i5, i6, i7, i8, i9, i10, i11⟩ => ⟨i, i1, i2, i3, i4, fun b z => by
      rcases z with ⟨_, _, z⟩ | ⟨_, z⟩
      · cases z
      · omega, i6, i7, i8, i9, xCl_801 i10, xCl_801 i11⟩
set_option maxHeartbeats 1000000 in
set_option maxRecDepth 8000 in
theorem xV_out {T : tT} (hf0 : S.1 5 4 = nI 0) (i4 : i ≤ 400) (hl : xVL l (nI i)) (h : P (some (.int (S.2.1 18 801))) S) : xVw P d (300 * (404 - i)) 16 l [] S := by
  have e := xV_end (P := P) (d := d) hl.1 h
  obtain ⟨l0, l3⟩ := hl
  have lt : ¬ (402 : Int32) ≤ nI i := nI_ge (b := 402) (by omega) (by decide)
  refine mv_fuel (n := 40) (by omega) ?_
  refine ws_iload_n rfl (l3) rfl (ws_sipush (x := 402) rfl rfl rfl (ws_i rfl ⟨fun z => absurd z lt, fun _ => ?_⟩))
  refine ws_aload_n rfl (l0) rfl (ws_geti rfl rfl (hf0) rfl (ws_i rfl ⟨fun _ => ?_, fun z => absurd (show nI 0 ≤ 0 by decide) z⟩))
  exact mv_fuel (by omega) e
set_option maxHeartbeats 1000000 in
set_option maxRecDepth 8000 in
theorem x_union {a b : Int32} {A B : tT} (hB : xBg S0 sd rm fb) (hs : ∀ i, xIn (S0.2.1 20) fb i → σ i = st) (h : xMs S0 S rm fb 0) (hA : xCl (S0.2.1 20) fb xNo S σ sd A a) (hB2 : xCl (S0.2.1 20) fb xNo S σ sd B b) (h8 : tN A + tN B ≤ 800)
    (hf : rm < tUnN (xRank sd) st 801 A B → ∀ x S', xOv S0 S' rm fb → P (some (.int x)) S')
    (ho : tUnN (xRank sd) st 801 A B ≤ rm → ∀ c' S', xRes S0 S' σ sd rm fb (tUnN (xRank sd) st 801 A B) (tUn (xRank sd) st 801 A B) c' → P (some (.int c')) S') : mv_big layX sysX (d + 3) 133 [.ref 5, .int a, .int b] S P := by
  refine ⟨300 * 404 + 40, ?_⟩
  refine ws_aload_n rfl (rfl) rfl (ws_iconst (x := 0) rfl rfl rfl (ws_puti rfl rfl rfl (ws_aload_n rfl (rfl) rfl (ws_iload_n rfl (rfl) rfl (ws_iload_n rfl (rfl) rfl (ws_sipush (x := 801) rfl rfl rfl (ws_iv rfl rfl rfl ?_)))))))
  obtain ⟨S1, hS1⟩ : ∃ S1, S1 = mv_pf S 5 4 0 := ⟨_, rfl⟩
  rw [← hS1]
  have e41 : S1.1 5 4 = nI 0 := by rw [hS1, pf_get, if_pos ⟨rfl, rfl⟩]; rfl
  have h1 : xMs S0 S1 rm fb 0 := by rw [hS1]; exact xMs_pf h (Or.inl rfl)
  have go1 : xTo 801 (S0.2.1 20) (fb - 0) xNo S (fb - 0) xNo S1 := by rw [hS1]; exact xTo_refl (S := S)
  have cA := xCl_801 (xCl_go (by decide) go1 hA)
  have cB := xCl_801 (xCl_go (by decide) go1 hB2)
  have n8 : ¬ xIn (S0.2.1 20) (fb - 0) 801 := fun z => by
    have := xBg_in hB (Nat.sub_le _ _) z (by decide)
    omega
  have k1 : xHok S0 fb 0 (x1 (xUH []) false 801) := by
    intro b i z
    rcases z with ⟨_, _, z⟩ | ⟨_, z⟩
    · cases z
    · subst z; exact ⟨by decide, by decide, n8, Or.inr (by decide)⟩
  have h81 : ∀ b i, x1 (xUH []) false 801 b i → i ≤ 801 := by
    intro b i z
    rcases z with ⟨_, _, z⟩ | ⟨_, z⟩
    · cases z
    · omega
  have nh : ¬ xUH [] false 801 := fun ⟨_, _, z⟩ => by cases z
  have b3 := hB.2.2.1
  have K : ∀ l' i' S', xUS S0 S' σ sd rm fb (0 + tUnN (xRank sd) st 801 A B) [] → xTo 801 (S0.2.1 20) (fb - 0) (x1 (xUH []) false 801) S1 (fb - (0 + tUnN (xRank sd) st 801 A B)) (xUH []) S' → xCl (S0.2.1 20) (fb - (0 + tUnN (xRank sd) st 801 A B)) (xUH []) S' σ sd (tUn (xRank sd) st 801 A B) (S'.2.1 (xRw false) 801) → i' ≤ 0 + tUnN (xRank sd) st 801 A B → xVL l' (nI i') → xVw P d (300 * (404 - i')) 16 l' [] S' := by
    intro l' i' S' us _ cl hi' hl'
    rw [Nat.zero_add] at us cl hi'
    have := us.1.2.2.2.2
    exact xV_out (T := A) us.2.2.2.1 (by omega) hl' (ho this _ S' ⟨us.1, xCl_w (fun _ _ z => z.elim) cl⟩)
  have Q := xV_Q (P := P) (d := d) hB hs 801
  have fin : ∀ S5 l, xVL l (nI 0) → xOne S0 S5 σ sd rm fb 0 [] A B false 801 (fb - 0) (x1 (xUH []) false 801) S1 → xVw P d (300 * 404) 16 l [] S5 := fun S5 l hl one => Q A B [] false 801 l 0 S5 0 _ _ S1 (by omega) one nh (by omega) (by simp) hl (by rw [Nat.zero_add]; exact hf) K
  show mv_big layX sysX (d + 2) 134 [.ref 5, .int a, .int b, .int (xHv false 801)] _ _
  refine x_uni (H := xUH []) (ps := []) h1 k1 nh e41 (by decide) cA cB (fun p A B hb hi z => by cases z) (fun zA zB S5 q1 q2 q3 q4 => ?_) (fun zl S5 q1 q2 q3 q4 q5 => ?_)
  · refine ws_iconst (x := 0) rfl rfl rfl (ws_istore_n rfl rfl rfl rfl ?_)
    refine mv_fuel (by omega) (fin S5 _ ⟨rfl, rfl⟩ (Or.inl ⟨zA, zB, ?_, q2⟩))
    refine ⟨q1, ?_, ?_, q3, ?_⟩
    · rw [xUH_s]; exact k1
    · rw [xUH_s]; exact h81
    · rw [xUH_s]; exact q4
  · refine ws_iconst (x := 0) rfl rfl rfl (ws_istore_n rfl rfl rfl rfl ?_)
    exact mv_fuel (by omega) (fin S5 _ ⟨rfl, rfl⟩ (Or.inr ⟨zl, ⟨q1, fun b i z => k1 b i (Or.inl z), fun b i z => h81 b i (Or.inl z), q3, q4⟩, q2, q5⟩))
end XW
