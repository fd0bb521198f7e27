/-! THE CLASS'S COMPILER DOES WHAT THE FUNCTION SAYS: functions, the main part, the whole -/
def xKf (S S' : mv_S) : Prop := (∀ o f, (o = 2 → f ≠ 1 ∧ f ≠ 2) → (o = 1 → f ≠ 10) → S'.1 o f = S.1 o f) ∧ (∀ o i, ¬ (9 ≤ o ∧ o ≤ 14) → S'.2.1 o i = S.2.1 o i) ∧ S'.2.2 = S.2.2
abbrev cFs : Type := List (Nat × Nat × Nat)
/-- from S with nothing laid to S' at p1 with words l, notes s, parameters par, functions fs -/
def xGf (S S' : mv_S) (p1 : Nat) (l : List Int32) (s : List (Bool × Nat × Nat)) (par : Nat → Int32) (fs : cFs) : Prop :=
  xKf S S' ∧ S'.1 2 1 = nI p1 ∧ S'.1 1 10 = nI l.length ∧ (∀ i x, l[i]? = some x → i < 1500 → S'.2.1 11 i = x) ∧ (∀ g q e, (g, q, e) ∈ s → q < p1 ∧ S'.2.1 (if g then 10 else 9) q = nI e) ∧ (∀ i, i < 8 → S'.2.1 12 i = par i) ∧ (∀ f w t, (f, w, t) ∈ fs → f < 8 ∧ par f ≠ -1 ∧ S'.2.1 13 f = nI w ∧ S'.2.1 14 f = nI t)
theorem xKp_kf {S T : mv_S} (h : xKp S T) : xKf S T := ⟨h.1, fun o i a => h.2.1 o i (by omega) (by omega) (by omega), h.2.2⟩
theorem xKf_trans {S T U : mv_S} (h : xKf S T) (g : xKf T U) : xKf S U := ⟨fun o f a b => (g.1 o f a b).trans (h.1 o f a b), fun o i a => (g.2.1 o i a).trans (h.2.1 o i a), g.2.2.trans h.2.2⟩
theorem xGf_go {S T U : mv_S} {p1 p2 : Nat} {l1 l2 : List Int32} {s1 s2} {par : Nat → Int32} {fs : cFs} (h : xGf S T p1 l1 s1 par fs) (g : xGo T U p1 l1.length p2 l2 s2) (hp : p1 ≤ p2) : xGf S U p2 (l1 ++ l2) (s1 ++ s2) par fs := by
  obtain ⟨h1, h2, h3, h4, h5, h6, h7⟩ := h
  obtain ⟨g1, g2, g3, g4, g5, g6, g7⟩ := g
  refine ⟨xKf_trans h1 (xKp_kf g1), g2, by rw [g3, List.length_append], fun i x hx h15 => ?_, fun a q e he => ?_, fun i hi => ?_, fun f w t hm => ?_⟩
  · by_cases hi : i < l1.length
    · rw [List.getElem?_append_left hi] at hx
      rw [g4 i hi]
      exact h4 i x hx h15
    · rw [List.getElem?_append_right (by omega)] at hx
      have := g5 (i - l1.length) x hx (by omega)
      rw [show l1.length + (i - l1.length) = i by omega] at this
      exact this
  · rcases List.mem_append.mp he with he1 | he1
    · have := h5 a q e he1
      exact ⟨by omega, by rw [g6 a q this.1]; exact this.2⟩
    · have := g7 a q e he1
      exact ⟨this.2.1, this.2.2⟩
  · rw [g1.2.1 12 i (by decide) (by decide) (by decide)]; exact h6 i hi
  · have := h7 f w t hm
    rw [g1.2.1 13 f (by decide) (by decide) (by decide), g1.2.1 14 f (by decide) (by decide) (by decide)]
    exact this
theorem xAt_gf {S T : mv_S} {n : Nat} {tk par par1 : Nat → Int32} {mn : Bool} {p b p1 : Nat} {l s} {fs : cFs} (h : xAt S n tk par mn p b) (g : xGf S T p1 l s par1 fs) (hp : p1 ≤ n) (hb : l.length ≤ 8 * p1) : xAt T n tk par1 mn p1 l.length := by
  obtain ⟨h1, h2, h3, h4, h5, h6, h7, h8, h9, h10⟩ := h
  obtain ⟨g1, g2, g3, _, _, g6, _⟩ := g
  refine ⟨?_, h2, fun i hi => ?_, h4, g6, ?_, g2, hp, g3, hb⟩
  · rw [g1.1 1 9 (by decide) (by decide)]; exact h1
  · rw [g1.2.1 8 i (by decide)]; exact h3 i hi
  · rw [g1.1 2 3 (by decide) (by decide)]; exact h6
theorem xGf_add {S T : mv_S} {n : Nat} {p1 p0 f : Nat} {x : Int32} {l s} {par : Nat → Int32} {fs : cFs} (h : xGf S T p1 l s par fs) (hf : f < 8) (hx : x ≠ -1) (hpf : par f = -1) (hl : l.length < 2 ^ 30) : xGf S (sR (sR (sR T 12 8 (nI f) x) 13 8 (nI f) ((sR T 12 8 (nI f) x).1 1 10)) 14 8 (nI f) (nI p0)) p1 l s (upd par f x) (fs ++ [(f, l.length, p0)]) := by
  obtain ⟨h1, h2, h3, h4, h5, h6, h7⟩ := h
  have e : (sR T 12 8 (nI f) x).1 1 10 = nI l.length := by rw [sR_1]; exact h3
  rw [e, sR_nI hf (by decide), sR_nI hf (by decide), sR_nI hf (by decide)]
  have hw : ∀ o i, (mv_pr (mv_pr (mv_pr T 12 f x) 13 f (nI l.length)) 14 f (nI p0)).2.1 o i = if o = 14 ∧ i = f then nI p0 else if o = 13 ∧ i = f then nI l.length else if o = 12 ∧ i = f then x else T.2.1 o i := by
    intro o i
    rw [pr_get, pr_get, pr_get]
  refine ⟨⟨h1.1, fun o i a => ?_, h1.2.2⟩, h2, h3, fun i y hy h15 => ?_, fun g q z hz => ?_, fun i hi => ?_, fun f' w t hm => ?_⟩
  · rw [hw, if_neg (by omega), if_neg (by omega), if_neg (by omega)]
    exact h1.2.1 o i a
  · rw [hw, if_neg (by omega), if_neg (by omega), if_neg (by omega)]
    exact h4 i y hy h15
  · have := h5 g q z hz
    refine ⟨this.1, ?_⟩
    rw [hw]
    cases g
    · rw [if_neg (by simp), if_neg (by simp), if_neg (by simp)]; exact this.2
    · rw [if_neg (by simp), if_neg (by simp), if_neg (by simp)]; exact this.2
  · rw [hw, if_neg (by omega), if_neg (by omega)]
    unfold upd
    by_cases c : i = f
    · subst c; simp
    · rw [if_neg (by omega)]
      simp only [c, if_false]
      exact h6 i hi
  · rcases List.mem_append.mp hm with hm1 | hm1
    · have := h7 f' w t hm1
      have hne : f' ≠ f := fun c => this.2.1 (by rw [c]; exact hpf)
      refine ⟨this.1, ?_, ?_, ?_⟩
      · unfold upd; simp only [hne, if_false]; exact this.2.1
      · rw [hw, if_neg (by omega), if_neg (by omega), if_neg (by omega)]; exact this.2.2.1
      · rw [hw, if_neg (by omega), if_neg (by omega), if_neg (by omega)]; exact this.2.2.2
    · simp only [List.mem_singleton, Prod.mk.injEq] at hm1
      obtain ⟨rfl, rfl, rfl⟩ := hm1
      refine ⟨hf, ?_, ?_, ?_⟩
      · unfold upd; simp only [if_true]; exact hx
      · rw [hw, if_neg (by omega), if_pos ⟨rfl, rfl⟩]
      · rw [hw, if_pos ⟨rfl, rfl⟩]
abbrev cRf : Type := Except (Int32 × Nat) (Nat × List Int32 × List (Bool × Nat × Nat) × (Nat → Int32) × List (Nat × Nat × Nat))
def cPreF (l1 : List Int32) (s1 : List (Bool × Nat × Nat)) (f1 : cFs) (a : cRf) : cRf :=
  match a with
  | .error e => .error e
  | .ok (p2, l2, s2, par, f2) => .ok (p2, l1 ++ l2, s1 ++ s2, par, f1 ++ f2)
section LX
variable {d : Nat} {S T : mv_S} {P : Option Value → mv_S → Prop} {n : Nat} {tk par : Nat → Int32} {mn : Bool} {p b p1 : Nat} {l : List Int32} {s : List (Bool × Nat × Nat)}
theorem x_newFunctionA (hA : xAt S n tk par mn p b) (he : ∀ w q S', ((cHasF par (tk p) ∧ w = -13 ∧ q = p) ∨ (¬ cHasF par (tk p) ∧ cBare n tk 8 p = .error (w, q))) → xKp S S' → S'.1 2 1 = nI q → S'.1 2 2 = w → P (some (.int 0)) S') (ho : ¬ cHasF par (tk p) → cBare n tk 8 p = .ok (p + 1) → P (some (.int 1)) (xNx S)) : mv_big layX sysX (d + 3) 33 [.ref 2] S P := by
  have ht : xTok S (S.1 2 1) = tk p := by rw [xAt_p hA]; exact xAt_tok hA (by have := xAt_pn hA; omega)
  have hh := xAt_has hA
  have hf : xHasF S (tk p) ↔ cHasF par (tk p) := xAt_hasF hA
  have f1 : ∀ w, (xFl S w).1 2 1 = nI p := fun w => (xFl_1 S w).trans (xAt_p hA)
  refine x_newFunction (fun c => ?_) (fun c c1 => ?_) (fun c c1 c2 => ?_) (fun c c1 c2 => ?_)
  all_goals rw [ht] at c
  · exact he (-13) p _ (Or.inl ⟨hf.mp c, rfl, rfl⟩) (xKp_fault S _) (f1 _) (xFl_2 S _)
  · refine he (-11) p _ (Or.inr ⟨fun z => c (hf.mpr z), ?_⟩) (xKp_fault S _) (f1 _) (xFl_2 S _)
    unfold cBare
    rw [if_neg (fun z => c1 (hh.mpr z))]
  · rw [ht] at c2
    refine he (-12) p _ (Or.inr ⟨fun z => c (hf.mpr z), ?_⟩) (xKp_fault S _) (f1 _) (xFl_2 S _)
    unfold cBare
    rw [if_pos (hh.mp c1), if_neg c2]
  · rw [ht] at c2
    refine ho (fun z => c (hf.mpr z)) ?_
    unfold cBare
    rw [if_pos (hh.mp c1), if_pos c2]
theorem x_functions (ht : ∀ p, n ≤ p → tk p = -1) (hA : xAt S n tk (fun _ => -1) false 0 0)
    (he : ∀ w q S', cFuns n tk false 9 (fun _ => -1) 0 0 = .error (w, q) → xKf S S' → S'.1 2 1 = nI q → S'.1 2 2 = w → P (some (.int 0)) S')
    (ho : ∀ p' l s par fs S', cFuns n tk false 9 (fun _ => -1) 0 0 = .ok (p', l, s, par, fs) → xGf S S' p' l s par fs → p' ≤ n → l.length ≤ 8 * p' → P (some (.int 1)) S') : mv_big layX sysX 400 28 [.ref 2] S P := by
  have hpn := xAt_pn hA
  obtain ⟨R, hR⟩ : ∃ R, R = cFuns n tk false 9 (fun _ => -1) 0 0 := ⟨_, rfl⟩
  rw [← hR] at he ho
  have kk := mv_loop (T := tT1) (nL := 3) (z := some .boolean) (il := mX1_functions.2.2.2.2.2.2.2) (lay := layX) (sys := sysX) (d := 399) (P := P) (pc := 2) 120 (fun k' lv st S' => ∃ i p1 l1 s1 par1 fs1, i + k' = 9 ∧ (lv = [(1, .int (nI i)), (0, .ref 2)] ∨ ∃ z, lv = [(1, .int (nI i)), (2, .int z), (0, .ref 2)]) ∧ st = [] ∧ xGf S S' p1 l1 s1 par1 fs1 ∧ p1 ≤ n ∧ l1.length ≤ 8 * p1 ∧ R = cPreF l1 s1 fs1 (cFuns n tk false k' par1 p1 l1.length)) (by
      rintro f lv st S' ⟨i, p1, l1, s1, par1, fs1, hk, hlv, rfl, g, h2, h3, h4⟩
      obtain rfl : i = 9 := hk
      have hh : P (some (.int 1)) S' := by
        refine ho p1 l1 s1 par1 fs1 S' ?_ g h2 h3
        rw [h4, cFuns, cPreF, List.append_nil, List.append_nil, List.append_nil]
      rcases hlv with rfl | ⟨z, rfl⟩
      · exact ⟨fun _ => ⟨Or.inr rfl, hh⟩, fun z => absurd (show (8 : Int32) < nI 9 by decide) z⟩
      · exact ⟨fun _ => ⟨Or.inr rfl, hh⟩, fun z => absurd (show (8 : Int32) < nI 9 by decide) z⟩) (by
      rintro k' f lv st S' ⟨i, p1, l1, s1, par1, fs1, hk, hlv, rfl, g, h2, h3, h4⟩ ih
      have hA1 := xAt_gf hA g h2 h3
      have hA1n := xAt_pn hA1
      have stop : ¬ tk p1 = 10 → P (some (.int 1)) S' := by
        intro c
        refine ho p1 l1 s1 par1 fs1 S' ?_ g h2 h3
        rw [h4, cFuns, if_neg c, cPreF, List.append_nil, List.append_nil, List.append_nil]
      have lt : ¬ (8 : Int32) < nI i := fun z => absurd ((nI_ltI (a := 8) (by decide) (by omega)).mp z) (by omega)
      -- one function
      have one : ∀ (c : tk p1 = 10) (lvx : List (Nat × Value)), lvx = [(2, .int (S'.1 2 1)), (1, .int (nI i)), (0, .ref 2)] → mv_wp layX sysX tT1 3 (some .boolean) mX1_functions.2.2.2.2.2.2.2 (mv_big layX sysX 399) P (f + 97) 29 lvx [] S' := by
        rintro c _ rfl
        have hp : p1 < n := tk_in ht (by rw [c]; decide)
        have hA2 := xAt_next hA1 hp
        have g0 := xGo_next (xAt_p hA1) (xAt_b hA1)
        refine x_newFunctionA hA2 (fun w q S2 e k1 k2 k3 => ?_) (fun e0 e1 => ?_)
        · refine ⟨fun _ => ⟨Or.inl rfl, he w q S2 ?_ (xKf_trans g.1 (xKp_kf (xKp_trans g0.1 k1))) k2 k3⟩, fun z => absurd rfl z⟩
          rw [h4, cFuns, if_pos c]
          rcases e with ⟨e, rfl, rfl⟩ | ⟨e, e2⟩
          · rw [if_pos e]; rfl
          · rw [if_neg e, e2]; rfl
        refine ⟨fun z => absurd (show (1 : Int32) = 0 from z) (by decide), fun _ => ?_⟩
        have b1 := cBare_ok e1
        have hA3 := xAt_next hA2 b1.2.1
        have g1 := xGo_n g0 (by omega)
        refine x_bareA (lim := 4) hA3 (fun w q S2 e k1 k2 k3 => ?_) (fun e2 => ?_)
        · refine ⟨fun z => absurd rfl z, fun _ => ⟨Or.inl rfl, he w q S2 ?_ (xKf_trans g.1 (xKp_kf (xKp_trans g1.1 k1))) k2 k3⟩⟩
          rw [h4, cFuns, if_pos c, if_neg e0, e1]; simp only; rw [e]; rfl
        refine ⟨fun _ => ?_, fun z => absurd (show (1 : Int32) = 0 from z) (by decide)⟩
        have b2 := cBare_ok e2
        have g2 := xGo_n g1 (by omega)
        have hA4 := xAt_next hA3 b2.2.1
        obtain ⟨fn, hfn, hfe⟩ := nI_of (Int32.not_lt.mpr b1.2.2.1)
        have hf8 : fn < 8 := by
          have := b1.2.2.2
          rw [hfe] at this
          exact (nI_ltI (b := 8) hfn (by decide)).mp this
        have hfc : (tk (p1 + 1)).toNatClampNeg = fn := by rw [hfe, nI_clamp hfn]
        have hx : tk (p1 + 2) ≠ -1 := by
          intro z
          have := b2.2.2.1
          rw [z] at this
          exact absurd this (by decide)
        have hpf : par1 fn = -1 := by
          by_cases z : par1 fn = -1
          · exact z
          · exact absurd ⟨b1.2.2.1, b1.2.2.2, by rw [hfc]; exact z⟩ e0
        refine x_tokA hA4 (q := p1 + 1) (show S'.1 2 1 + 1 = _ by rw [xAt_p hA1, nI_1]) (by omega) ?_
        refine x_tokA hA4 (q := p1 + 2) (show S'.1 2 1 + 2 = _ by rw [xAt_p hA1, show (2 : Int32) = nI 2 from rfl, nI_add]) (by omega) ?_
        refine x_addFunction ?_
        have g3 := xGf_go g g2 (by omega)
        rw [List.append_nil, List.append_nil] at g3
        have g4 := xGf_add (n := n) (p0 := p1) g3 hf8 hx hpf (by omega)
        rw [← hfe, ← xAt_p hA1] at g4
        have hA5 := xAt_gf hA g4 b2.2.1 (by omega)
        have hB := x_blk (mn := false) (par := upd par1 fn (tk (p1 + 2))) ht 16 (Nat.le_refl _)
        have hbl : ∀ p b, p ≤ n → cLn n 8 p (cLoop tk (cStm n tk (upd par1 fn (tk (p1 + 2))) false false 16) 700 p b) := fun p b h => cBlk_ln (mk := false) ht h 700
        refine mv_deep (d := 360) (by decide) (hB _ _ (p1 + 3) l1.length trivial hA5 (fun w q S3 e k1 k2 k3 => ?_) (fun p2 l2 s2 S3 e g5 => ?_))
        · refine ⟨fun _ => ⟨Or.inl rfl, he w q S3 ?_ (xKf_trans g4.1 (xKp_kf k1)) k2 k3⟩, fun z => absurd rfl z⟩
          rw [h4, cFuns, if_pos c, if_neg e0, e1]; simp only; rw [e2]; simp only; rw [hfc, cBlk, e]; rfl
        refine ⟨fun z => absurd (show (1 : Int32) = 0 from z) (by decide), fun _ => ?_⟩
        have hl := hbl _ _ b2.2.1 _ _ _ e
        have g6 := xGf_go g4 g5 hl.1
        have hA6 := xAt_gf hA g6 hl.2.1 (by rw [List.length_append]; omega)
        refine x_passEndA hA6 (fun S4 z0 k1 k2 k3 => ?_) (fun z0 => ?_)
        · refine ⟨fun z => absurd rfl z, fun _ => ⟨Or.inl rfl, he (-11) p2 S4 ?_ (xKf_trans g6.1 (xKp_kf k1)) k2 k3⟩⟩
          rw [h4, cFuns, if_pos c, if_neg e0, e1]; simp only; rw [e2]; simp only; rw [hfc, cBlk, e]; simp only; rw [if_neg z0]; rfl
        refine ⟨fun _ => ?_, fun z => absurd (show (1 : Int32) = 0 from z) (by decide)⟩
        have hn2 : p2 < n := tk_in ht (by rw [z0]; decide)
        have k0 := xGo_next (xAt_p hA6) (xAt_b hA6)
        have el : (l1 ++ l2).length = l1.length + l2.length := List.length_append
        refine x_emitA (w := 1) k0 (by simp; omega) (by omega) (fun S5 k1 => ?_)
        refine x_emitA (w := 0) k1 (by simp; omega) (by omega) (fun S6 k2 => ?_)
        refine x_emitA (w := 17) k2 (by simp; omega) (by omega) (fun S7 k3 => ?_)
        have g7 := xGf_go g6 k3 (by omega)
        rw [List.append_nil] at g7
        have g8 : xGf S S7 (p2 + 1) (l1 ++ (l2 ++ [1, 0, 17])) (s1 ++ s2) (upd par1 fn (tk (p1 + 2))) (fs1 ++ [(fn, l1.length, p1)]) := by simpa using g7
        refine ws_iinc (y := nI (i + 1)) rfl rfl rfl (nI_succ i).symm rfl rfl (ws_goto (t := 2) rfl (by decide) (ih _ [(1, .int (nI (i + 1))), (2, .int (S'.1 2 1)), (0, .ref 2)] [] S7 (by omega) ⟨i + 1, p2 + 1, _, _, _, _, by omega, Or.inr ⟨_, rfl⟩, rfl, g8, hn2, by simp; omega, ?_⟩))
        rw [h4, cFuns, if_pos c, if_neg e0, e1]; simp only; rw [e2]; simp only; rw [hfc, cBlk, e]; simp only; rw [if_pos z0]
        have eo : (l1 ++ (l2 ++ [1, 0, 17])).length = l1.length + l2.length + 3 := by simp; omega
        rw [eo]
        match cFuns n tk false k' (upd par1 fn (tk (p1 + 2))) (p2 + 1) (l1.length + l2.length + 3) with
        | .error e => rfl
        | .ok (p5, l5, s5, par5, f5) => simp [cPreF]
      refine mv_fuel (n := f + 110) (by omega) ?_
      rcases hlv with rfl | ⟨z, rfl⟩
      · refine ⟨fun z => absurd z lt, fun _ => ?_⟩
        refine x_tokN hA1 ?_
        refine ⟨fun c => ⟨Or.inr rfl, stop c⟩, fun c => ?_⟩
        have c : tk p1 = 10 := c
        exact ws_aload_n rfl rfl rfl (ws_geti rfl rfl rfl rfl (ws_istore_n rfl rfl rfl rfl (one c _ rfl)))
      · refine ⟨fun z => absurd z lt, fun _ => ?_⟩
        refine x_tokN hA1 ?_
        refine ⟨fun c => ⟨Or.inr rfl, stop c⟩, fun c => ?_⟩
        have c : tk p1 = 10 := c
        exact ws_aload_n rfl rfl rfl (ws_geti rfl rfl rfl rfl (ws_istore_n rfl rfl rfl rfl (one c _ rfl))))
  refine ⟨120 * 10 + 2, ?_⟩
  refine ws_iconst (x := nI 0) rfl rfl rfl (ws_istore_n rfl rfl rfl rfl (kk 9 _ [(1, .int (nI 0)), (0, .ref 2)] [] S (by omega) ⟨0, 0, [], [], fun _ => -1, [], by omega, Or.inl rfl, rfl, ?_, hpn.1, by simp, ?_⟩))
  · exact ⟨⟨fun _ _ _ _ => rfl, fun _ _ _ => rfl, rfl⟩, xAt_p hA, xAt_b hA, fun i x h => by simp at h, fun _ _ _ h => by simp at h, hA.2.2.2.2.1, fun _ _ _ h => by simp at h⟩
  · rw [hR]
    match cFuns n tk false 9 (fun _ => -1) 0 0 with
    | .error e => rfl
    | .ok (p5, l5, s5, par5, f5) => rfl
end LX
