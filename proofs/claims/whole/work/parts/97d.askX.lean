/-! THE CLASS'S STORE: words that reckon, words that ask a map -/
def tV : tT → Int32
  | .leaf => 0
  | .inner _ _ v _ _ => v
def tKy : tT → Int32
  | .leaf => 0
  | .inner _ k _ _ _ => k
def tIf : tT → Int32 → Int32 → Int32
  | .leaf, a, _ => a
  | .inner _ _ _ _ _, _, b => b
theorem tIf_l {T : tT} {a b : Int32} (h : T = .leaf) : tIf T a b = a := by rw [h]; rfl
theorem tIf_n : ∀ {T : tT} {a b : Int32}, ¬ T = .leaf → tIf T a b = b
  | .leaf, _, _, h => absurd rfl h
  | .inner _ _ _ _ _, _, _, _ => rfl
section XA
variable {d : Nat} {P : Option Value → mv_S → Prop} {S0 S S' : mv_S} {σ : Nat → Nat} {sd : Int32} {rm fb B : Nat} {rets : List Nat} {K : List aI} {Ks : List (List aI)} {vs : Nat → Int32} {mp : Nat → tT} {told : List Int32} {most : Nat} {x y y2 a b : Int32} {v : Nat} {T : tT} {q : Option Int32}
theorem xTr_v : ∀ {T : tT} {c : Int32}, xTr S σ T c → xC S 16 c = tV T ∧ xC S 15 c = tKy T
  | .leaf, _, h => by
    have h : _ = (0 : Int32) := h
    subst h
    exact ⟨xC_0, xC_0⟩
  | .inner _ _ _ _ _, _, ⟨i, i1, i2, i3, i4, i5, i6, _⟩ => by
    rw [i3, xC_in i1 i2, xC_in i1 i2]
    exact ⟨i6, i5⟩
theorem xTr_8 {c : Int32} (h : xTr S σ T c) (ho : tOrd T) : tN T ≤ 800 := by
  rw [← hCs_len (by decide) h]
  exact nd_len 800 (hCs_nodup (by decide) h ho) (fun i hi => ⟨((hCs_ok (by decide) h).2 i hi).1, ((hCs_ok (by decide) h).2 i hi).2.1⟩)
/-- only rounds have changed -/
theorem xA_rg {r : Nat} (h : xA S0 S σ sd rm fb B rets K Ks vs mp told most) (g : xRg S S' r) (hr : r ≤ B) : xA S0 S' σ sd rm fb (B + 1) rets K Ks vs mp told most := by
  obtain ⟨a1, a2, a3, a4, a5, a6, a7, a8, a9, a10⟩ := h
  obtain ⟨g1, g2, g3, g4⟩ := g
  have e20 : S'.2.1 20 = S.2.1 20 := funext (fun i => g2 20 i (by decide) (by decide))
  have e15 : S'.2.1 15 = S.2.1 15 := funext (fun i => g2 15 i (by decide) (by decide))
  have e18 : S'.2.1 18 = S.2.1 18 := funext (fun i => g2 18 i (by decide) (by decide))
  have e19 : S'.2.1 19 = S.2.1 19 := funext (fun i => g2 19 i (by decide) (by decide))
  have cl : ∀ {T : tT} {c : Int32}, xCl (S.2.1 20) fb xNo S σ sd T c → xCl (S'.2.1 20) fb xNo S' σ sd T c := fun {T c} a => by
    rw [e20]
    exact xCl_go (M := 801) (by decide) (S := S) (H := xNo) (fc := fb) ⟨Nat.le_refl _, fun i _ _ => ⟨fun o a b => g2 o i (by omega) (by omega), fun b _ => g2 _ i (by have := xRw_b b; omega) (by have := xRw_b b; omega)⟩, fun b i z => z.elim⟩ a
  have zs : ∀ {Z : List (tT × Option Int32)}, xZs S σ sd fb Z → xZs S' σ sd fb Z := by
    intro Z
    induction Z with
    | nil => exact fun _ => trivial
    | cons t R ih =>
      intro z
      exact ⟨⟨by rw [g2 26 _ (by decide) (by decide)]; exact cl z.1.1, by rw [g3]; exact z.1.2⟩, ih z.2⟩
  refine ⟨⟨fun o f a b c => (g1 o f (by omega)).trans (a1.1 o f a b c), (g1 4 15 (by omega)).trans a1.2.1, fun o i a => (g2 o i (by omega) (by omega)).trans (a1.2.2 o i a)⟩, ?_, ⟨(g1 4 11 (by omega)).trans a3.1, xNs_go (fun p _ => g2 25 p (by decide) (by decide)) a3.2⟩, ⟨(g1 4 12 (by omega)).trans a4.1, zs a4.2⟩, ⟨(g1 4 13 (by omega)).trans a5.1, a5.2.1, xBs_go (fun o i _ _ => g2 o i (by omega) (by omega)) a5.2.2⟩, fun i hi => (g2 23 i (by decide) (by decide)).trans (a6 i hi), fun i hi => by rw [g2 24 i (by decide) (by decide)]; exact cl (a7 i hi), ⟨(g1 4 14 (by omega)).trans a8.1, a8.2.1, fun p x hp => (g2 31 p (by decide) (by decide)).trans (a8.2.2 p x hp)⟩, (g1 4 16 (by omega)).trans a9, ?_⟩
  · obtain ⟨h1, h2, h3, h4, h5, h6, h7, h8, r', h9, h10⟩ := a2
    refine ⟨(g1 3 12 (by omega)).trans h1, (g1 3 13 (by omega)).trans h2, h3, (g1 3 8 (by omega)).trans h4, h5, h6, ?_, ?_, r + 1, by omega, g4⟩
    · rw [e20]; exact h7
    · rw [e20]; exact h8
  · rw [e15, e18, e19]
    intro T c T' c' i j h1 h2
    refine a10 T c T' c' i j ?_ ?_
    · rcases h1 with ⟨i, i1, i2, i3⟩ | z
      · exact Or.inl ⟨i, i1, i2, by rw [i3]; exact g2 24 i (by decide) (by decide)⟩
      · exact Or.inr (xZr_go (fun p _ => g2 26 p (by decide) (by decide)) z)
    · rcases h2 with ⟨i, i1, i2, i3⟩ | z
      · exact Or.inl ⟨i, i1, i2, by rw [i3]; exact g2 24 i (by decide) (by decide)⟩
      · exact Or.inr (xZr_go (fun p _ => g2 26 p (by decide) (by decide)) z)
theorem x_popH {x : Int32} (h : xA S0 S σ sd rm fb B rets (.inl x :: K) Ks vs mp told most) (hb : (aNum K).length ≤ 40) (hP : ∀ S', xHs S S' → xA S0 S' σ sd rm fb B rets K Ks vs mp told most → P (some (.int x)) S') : mv_big layX sysX (d + 2) 107 [.ref 4] S P := by
  have ln := xBs_len h.2.2.2.2.1.2.2
  have n24 := h.2.2.2.2.1.2.1
  have e11 : S.1 4 11 = nI ((aNum (K ++ Ks.flatten)).length + 1) := h.2.2.1.1
  have ns : S.2.1 25 (aNum (K ++ Ks.flatten)).length = x ∧ xNs S (aNum (K ++ Ks.flatten)) := h.2.2.1.2
  have lt : (aNum (K ++ Ks.flatten)).length < 850 := by rw [aNum_app, List.length_append]; omega
  have eS : xPopS S = mv_pf S 4 11 (nI (aNum (K ++ Ks.flatten)).length) := by
    unfold xPopS
    rw [e11, if_pos (by rw [← nI_0]; exact nI_lt (by omega) (by omega)), nI_pred]
  have eV : xPopV S = x := by
    unfold xPopV
    rw [eS, pf_get, if_pos ⟨rfl, rfl⟩, rAt_nI lt (by decide)]; exact ns.1
  refine x_pop ?_
  rw [eV, eS]
  exact hP _ ⟨fun g => by rw [pf_get, if_neg (by omega)], fun o i _ _ => rfl⟩ (xA_num (K' := K) h rfl (fun o f a => by rw [pf_get, if_neg a]) (fun o i a => rfl) rfl (by rw [pf_get, if_pos ⟨rfl, rfl⟩]) (xNs_go (S := S) (fun p hp => rfl) ns.2))
set_option maxHeartbeats 1000000 in
set_option maxRecDepth 8000 in
theorem x_num4 (h : xA S0 S σ sd rm fb B rets (.inl b :: .inl a :: K) Ks vs mp told most) (hb : (aNum K).length ≤ 35)
    (hP : ∀ S', xA S0 S' σ sd rm fb B rets (.inl (aOp 4 a b) :: K) Ks vs mp told most → P (some (.int 1)) S') : mv_big layX sysX (d + 3) 116 [.ref 4, .int 4] S P := by
  have e : (.inl b :: .inl a :: K : List aI) = .inl b :: (.inl a :: K) := rfl
  refine ⟨60, ?_⟩
  refine ws_aload_n rfl (rfl) rfl (ws_iv rfl rfl rfl ?_)
  refine x_popA h (by show (aNum K).length + 1 ≤ 40; omega) (fun S1 h1 => ?_)
  refine ws_istore_n rfl rfl rfl rfl (ws_aload_n rfl (rfl) rfl (ws_iv rfl rfl rfl ?_))
  refine x_popA h1 (by omega) (fun S2 h2 => ?_)
  refine ws_istore_n rfl rfl rfl rfl (ws_iload_n rfl (rfl) rfl (ws_tab (t := 52) rfl rfl (by decide) (ws_aload_n rfl (rfl) rfl (ws_iload_n rfl (rfl) rfl (ws_iload_n rfl (rfl) rfl (ws_iadd rfl rfl rfl (ws_iv rfl rfl rfl ?_)))))))
  refine x_pushA h2 (by omega) (fun S3 h3 => ?_)
  refine ws_goto (t := 141) rfl (by decide) (ws_iconst (x := 1) rfl rfl rfl (ws_i rfl ?_))
  exact hP S3 h3
set_option maxHeartbeats 1000000 in
set_option maxRecDepth 8000 in
theorem x_ap4 (h : xA S0 S σ sd rm fb B rets (.inl b :: .inl a :: K) Ks vs mp told most) (hb : (aNum K).length ≤ 35)
    (hP : ∀ S', xA S0 S' σ sd rm fb B rets (.inl (aOp 4 a b) :: K) Ks vs mp told most → P (some (.int 1)) S') : mv_big layX sysX (d + 5) 114 [.ref 4, .int 4, .int y] S P := by
  refine ⟨60, ?_⟩
  refine ws_iload_n rfl (rfl) rfl (ws_iconst (x := 4) rfl rfl rfl (ws_i rfl ⟨fun z => absurd z (show ¬ (4 : Int32) < 4 by decide), fun _ => ?_⟩))
  refine ws_iload_n rfl (rfl) rfl (ws_bipush (x := 10) rfl rfl rfl (ws_i rfl ⟨fun z => absurd z (show ¬ (10 : Int32) < 4 by decide), fun _ => ?_⟩))
  refine ws_aload_n rfl (rfl) rfl (ws_iload_n rfl (rfl) rfl (ws_iv rfl rfl rfl ?_))
  exact mv_deep (d := d + 3) (by omega) (x_num4 h hb (fun S1 h1 => ws_i rfl (hP S1 h1)))
set_option maxHeartbeats 1000000 in
set_option maxRecDepth 8000 in
theorem x_num5 (h : xA S0 S σ sd rm fb B rets (.inl b :: .inl a :: K) Ks vs mp told most) (hb : (aNum K).length ≤ 35)
    (hP : ∀ S', xA S0 S' σ sd rm fb B rets (.inl (aOp 5 a b) :: K) Ks vs mp told most → P (some (.int 1)) S') : mv_big layX sysX (d + 3) 116 [.ref 4, .int 5] S P := by
  have e : (.inl b :: .inl a :: K : List aI) = .inl b :: (.inl a :: K) := rfl
  refine ⟨60, ?_⟩
  refine ws_aload_n rfl (rfl) rfl (ws_iv rfl rfl rfl ?_)
  refine x_popA h (by show (aNum K).length + 1 ≤ 40; omega) (fun S1 h1 => ?_)
  refine ws_istore_n rfl rfl rfl rfl (ws_aload_n rfl (rfl) rfl (ws_iv rfl rfl rfl ?_))
  refine x_popA h1 (by omega) (fun S2 h2 => ?_)
  refine ws_istore_n rfl rfl rfl rfl (ws_iload_n rfl (rfl) rfl (ws_tab (t := 62) rfl rfl (by decide) (ws_aload_n rfl (rfl) rfl (ws_iload_n rfl (rfl) rfl (ws_iload_n rfl (rfl) rfl (ws_isub rfl rfl rfl (ws_iv rfl rfl rfl ?_)))))))
  refine x_pushA h2 (by omega) (fun S3 h3 => ?_)
  refine ws_goto (t := 141) rfl (by decide) (ws_iconst (x := 1) rfl rfl rfl (ws_i rfl ?_))
  exact hP S3 h3
set_option maxHeartbeats 1000000 in
set_option maxRecDepth 8000 in
theorem x_ap5 (h : xA S0 S σ sd rm fb B rets (.inl b :: .inl a :: K) Ks vs mp told most) (hb : (aNum K).length ≤ 35)
    (hP : ∀ S', xA S0 S' σ sd rm fb B rets (.inl (aOp 5 a b) :: K) Ks vs mp told most → P (some (.int 1)) S') : mv_big layX sysX (d + 5) 114 [.ref 4, .int 5, .int y] S P := by
  refine ⟨60, ?_⟩
  refine ws_iload_n rfl (rfl) rfl (ws_iconst (x := 4) rfl rfl rfl (ws_i rfl ⟨fun z => absurd z (show ¬ (5 : Int32) < 4 by decide), fun _ => ?_⟩))
  refine ws_iload_n rfl (rfl) rfl (ws_bipush (x := 10) rfl rfl rfl (ws_i rfl ⟨fun z => absurd z (show ¬ (10 : Int32) < 5 by decide), fun _ => ?_⟩))
  refine ws_aload_n rfl (rfl) rfl (ws_iload_n rfl (rfl) rfl (ws_iv rfl rfl rfl ?_))
  exact mv_deep (d := d + 3) (by omega) (x_num5 h hb (fun S1 h1 => ws_i rfl (hP S1 h1)))
set_option maxHeartbeats 1000000 in
set_option maxRecDepth 8000 in
theorem x_num6 (h : xA S0 S σ sd rm fb B rets (.inl b :: .inl a :: K) Ks vs mp told most) (hb : (aNum K).length ≤ 35)
    (hP : ∀ S', xA S0 S' σ sd rm fb B rets (.inl (aOp 6 a b) :: K) Ks vs mp told most → P (some (.int 1)) S') : mv_big layX sysX (d + 3) 116 [.ref 4, .int 6] S P := by
  have e : (.inl b :: .inl a :: K : List aI) = .inl b :: (.inl a :: K) := rfl
  refine ⟨60, ?_⟩
  refine ws_aload_n rfl (rfl) rfl (ws_iv rfl rfl rfl ?_)
  refine x_popA h (by show (aNum K).length + 1 ≤ 40; omega) (fun S1 h1 => ?_)
  refine ws_istore_n rfl rfl rfl rfl (ws_aload_n rfl (rfl) rfl (ws_iv rfl rfl rfl ?_))
  refine x_popA h1 (by omega) (fun S2 h2 => ?_)
  refine ws_istore_n rfl rfl rfl rfl (ws_iload_n rfl (rfl) rfl (ws_tab (t := 72) rfl rfl (by decide) (ws_aload_n rfl (rfl) rfl (ws_iload_n rfl (rfl) rfl (ws_iload_n rfl (rfl) rfl (ws_imul rfl rfl rfl (ws_iv rfl rfl rfl ?_)))))))
  refine x_pushA h2 (by omega) (fun S3 h3 => ?_)
  refine ws_goto (t := 141) rfl (by decide) (ws_iconst (x := 1) rfl rfl rfl (ws_i rfl ?_))
  exact hP S3 h3
set_option maxHeartbeats 1000000 in
set_option maxRecDepth 8000 in
theorem x_ap6 (h : xA S0 S σ sd rm fb B rets (.inl b :: .inl a :: K) Ks vs mp told most) (hb : (aNum K).length ≤ 35)
    (hP : ∀ S', xA S0 S' σ sd rm fb B rets (.inl (aOp 6 a b) :: K) Ks vs mp told most → P (some (.int 1)) S') : mv_big layX sysX (d + 5) 114 [.ref 4, .int 6, .int y] S P := by
  refine ⟨60, ?_⟩
  refine ws_iload_n rfl (rfl) rfl (ws_iconst (x := 4) rfl rfl rfl (ws_i rfl ⟨fun z => absurd z (show ¬ (6 : Int32) < 4 by decide), fun _ => ?_⟩))
  refine ws_iload_n rfl (rfl) rfl (ws_bipush (x := 10) rfl rfl rfl (ws_i rfl ⟨fun z => absurd z (show ¬ (10 : Int32) < 6 by decide), fun _ => ?_⟩))
  refine ws_aload_n rfl (rfl) rfl (ws_iload_n rfl (rfl) rfl (ws_iv rfl rfl rfl ?_))
  exact mv_deep (d := d + 3) (by omega) (x_num6 h hb (fun S1 h1 => ws_i rfl (hP S1 h1)))
set_option maxHeartbeats 1000000 in
set_option maxRecDepth 8000 in
theorem x_num7 (h : xA S0 S σ sd rm fb B rets (.inl b :: .inl a :: K) Ks vs mp told most) (hb : (aNum K).length ≤ 35) (hF : b = 0 → ∀ S', xA S0 S' σ sd rm fb B rets K Ks vs mp told most → P (some (.int 2)) S')
    (hP : ¬ b = 0 → ∀ S', xA S0 S' σ sd rm fb B rets (.inl (aOp 7 a b) :: K) Ks vs mp told most → P (some (.int 1)) S') : mv_big layX sysX (d + 3) 116 [.ref 4, .int 7] S P := by
  have e : (.inl b :: .inl a :: K : List aI) = .inl b :: (.inl a :: K) := rfl
  refine ⟨60, ?_⟩
  refine ws_aload_n rfl (rfl) rfl (ws_iv rfl rfl rfl ?_)
  refine x_popA h (by show (aNum K).length + 1 ≤ 40; omega) (fun S1 h1 => ?_)
  refine ws_istore_n rfl rfl rfl rfl (ws_aload_n rfl (rfl) rfl (ws_iv rfl rfl rfl ?_))
  refine x_popA h1 (by omega) (fun S2 h2 => ?_)
  by_cases c : b = 0
  · skip
    refine ws_istore_n rfl rfl rfl rfl (ws_iload_n rfl (rfl) rfl (ws_tab (t := 116) rfl rfl (by decide) (ws_iload_n rfl (rfl) rfl (ws_i rfl ⟨fun z => absurd c z, fun _ => ?_⟩))))
    refine ws_iconst (x := 2) rfl rfl rfl (ws_i rfl ?_)
    exact hF c S2 h2
  · skip
    refine ws_istore_n rfl rfl rfl rfl (ws_iload_n rfl (rfl) rfl (ws_tab (t := 116) rfl rfl (by decide) (ws_iload_n rfl (rfl) rfl (ws_i rfl ⟨fun _ => ?_, fun z => absurd z c⟩))))
    refine ws_aload_n rfl (rfl) rfl (ws_iload_n rfl (rfl) rfl (ws_bipush (x := 7) rfl rfl rfl (ws_i rfl ⟨fun z => absurd rfl z, fun _ => ?_⟩)))
    refine ws_iload_n rfl (rfl) rfl (ws_iload_n rfl (rfl) rfl (ws_idiv rfl (c) rfl (ws_goto (t := 138) rfl (by decide) (ws_iv rfl rfl rfl ?_))))
    refine x_pushA h2 (by omega) (fun S3 h3 => ?_)
    refine ws_iconst (x := 1) rfl rfl rfl (ws_i rfl ?_)
    exact hP c S3 h3
set_option maxHeartbeats 1000000 in
set_option maxRecDepth 8000 in
theorem x_ap7 (h : xA S0 S σ sd rm fb B rets (.inl b :: .inl a :: K) Ks vs mp told most) (hb : (aNum K).length ≤ 35) (hF : b = 0 → ∀ S', xA S0 S' σ sd rm fb B rets K Ks vs mp told most → P (some (.int 2)) S')
    (hP : ¬ b = 0 → ∀ S', xA S0 S' σ sd rm fb B rets (.inl (aOp 7 a b) :: K) Ks vs mp told most → P (some (.int 1)) S') : mv_big layX sysX (d + 5) 114 [.ref 4, .int 7, .int y] S P := by
  refine ⟨60, ?_⟩
  refine ws_iload_n rfl (rfl) rfl (ws_iconst (x := 4) rfl rfl rfl (ws_i rfl ⟨fun z => absurd z (show ¬ (7 : Int32) < 4 by decide), fun _ => ?_⟩))
  refine ws_iload_n rfl (rfl) rfl (ws_bipush (x := 10) rfl rfl rfl (ws_i rfl ⟨fun z => absurd z (show ¬ (10 : Int32) < 7 by decide), fun _ => ?_⟩))
  refine ws_aload_n rfl (rfl) rfl (ws_iload_n rfl (rfl) rfl (ws_iv rfl rfl rfl ?_))
  exact mv_deep (d := d + 3) (by omega) (x_num7 h hb (fun c S1 h1 => ws_i rfl (hF c S1 h1)) (fun c S1 h1 => ws_i rfl (hP c S1 h1)))
set_option maxHeartbeats 1000000 in
set_option maxRecDepth 8000 in
theorem x_num8 (h : xA S0 S σ sd rm fb B rets (.inl b :: .inl a :: K) Ks vs mp told most) (hb : (aNum K).length ≤ 35) (hF : b = 0 → ∀ S', xA S0 S' σ sd rm fb B rets K Ks vs mp told most → P (some (.int 2)) S')
    (hP : ¬ b = 0 → ∀ S', xA S0 S' σ sd rm fb B rets (.inl (aOp 8 a b) :: K) Ks vs mp told most → P (some (.int 1)) S') : mv_big layX sysX (d + 3) 116 [.ref 4, .int 8] S P := by
  have e : (.inl b :: .inl a :: K : List aI) = .inl b :: (.inl a :: K) := rfl
  refine ⟨60, ?_⟩
  refine ws_aload_n rfl (rfl) rfl (ws_iv rfl rfl rfl ?_)
  refine x_popA h (by show (aNum K).length + 1 ≤ 40; omega) (fun S1 h1 => ?_)
  refine ws_istore_n rfl rfl rfl rfl (ws_aload_n rfl (rfl) rfl (ws_iv rfl rfl rfl ?_))
  refine x_popA h1 (by omega) (fun S2 h2 => ?_)
  by_cases c : b = 0
  · skip
    refine ws_istore_n rfl rfl rfl rfl (ws_iload_n rfl (rfl) rfl (ws_tab (t := 116) rfl rfl (by decide) (ws_iload_n rfl (rfl) rfl (ws_i rfl ⟨fun z => absurd c z, fun _ => ?_⟩))))
    refine ws_iconst (x := 2) rfl rfl rfl (ws_i rfl ?_)
    exact hF c S2 h2
  · skip
    refine ws_istore_n rfl rfl rfl rfl (ws_iload_n rfl (rfl) rfl (ws_tab (t := 116) rfl rfl (by decide) (ws_iload_n rfl (rfl) rfl (ws_i rfl ⟨fun _ => ?_, fun z => absurd z c⟩))))
    refine ws_aload_n rfl (rfl) rfl (ws_iload_n rfl (rfl) rfl (ws_bipush (x := 7) rfl rfl rfl (ws_i rfl ⟨fun _ => ?_, fun z => absurd z (show ¬ (8 : Int32) = 7 by decide)⟩)))
    refine ws_iload_n rfl (rfl) rfl (ws_iload_n rfl (rfl) rfl (ws_irem rfl (c) rfl (ws_iv rfl rfl rfl ?_)))
    refine x_pushA h2 (by omega) (fun S3 h3 => ?_)
    refine ws_iconst (x := 1) rfl rfl rfl (ws_i rfl ?_)
    exact hP c S3 h3
set_option maxHeartbeats 1000000 in
set_option maxRecDepth 8000 in
theorem x_ap8 (h : xA S0 S σ sd rm fb B rets (.inl b :: .inl a :: K) Ks vs mp told most) (hb : (aNum K).length ≤ 35) (hF : b = 0 → ∀ S', xA S0 S' σ sd rm fb B rets K Ks vs mp told most → P (some (.int 2)) S')
    (hP : ¬ b = 0 → ∀ S', xA S0 S' σ sd rm fb B rets (.inl (aOp 8 a b) :: K) Ks vs mp told most → P (some (.int 1)) S') : mv_big layX sysX (d + 5) 114 [.ref 4, .int 8, .int y] S P := by
  refine ⟨60, ?_⟩
  refine ws_iload_n rfl (rfl) rfl (ws_iconst (x := 4) rfl rfl rfl (ws_i rfl ⟨fun z => absurd z (show ¬ (8 : Int32) < 4 by decide), fun _ => ?_⟩))
  refine ws_iload_n rfl (rfl) rfl (ws_bipush (x := 10) rfl rfl rfl (ws_i rfl ⟨fun z => absurd z (show ¬ (10 : Int32) < 8 by decide), fun _ => ?_⟩))
  refine ws_aload_n rfl (rfl) rfl (ws_iload_n rfl (rfl) rfl (ws_iv rfl rfl rfl ?_))
  exact mv_deep (d := d + 3) (by omega) (x_num8 h hb (fun c S1 h1 => ws_i rfl (hF c S1 h1)) (fun c S1 h1 => ws_i rfl (hP c S1 h1)))
set_option maxHeartbeats 1000000 in
set_option maxRecDepth 8000 in
theorem x_num9 (h : xA S0 S σ sd rm fb B rets (.inl b :: .inl a :: K) Ks vs mp told most) (hb : (aNum K).length ≤ 35)
    (hP : ∀ S', xA S0 S' σ sd rm fb B rets (.inl (aOp 9 a b) :: K) Ks vs mp told most → P (some (.int 1)) S') : mv_big layX sysX (d + 3) 116 [.ref 4, .int 9] S P := by
  have e : (.inl b :: .inl a :: K : List aI) = .inl b :: (.inl a :: K) := rfl
  refine ⟨60, ?_⟩
  refine ws_aload_n rfl (rfl) rfl (ws_iv rfl rfl rfl ?_)
  refine x_popA h (by show (aNum K).length + 1 ≤ 40; omega) (fun S1 h1 => ?_)
  refine ws_istore_n rfl rfl rfl rfl (ws_aload_n rfl (rfl) rfl (ws_iv rfl rfl rfl ?_))
  refine x_popA h1 (by omega) (fun S2 h2 => ?_)
  by_cases c : a < b
  · skip
    refine ws_istore_n rfl rfl rfl rfl (ws_iload_n rfl (rfl) rfl (ws_tab (t := 82) rfl rfl (by decide) (ws_aload_n rfl (rfl) rfl (ws_iload_n rfl (rfl) rfl (ws_iload_n rfl (rfl) rfl (ws_i rfl ⟨fun z => absurd z (Int32.not_le.mpr c), fun _ => ?_⟩))))))
    refine ws_iconst (x := 1) rfl rfl rfl (ws_goto (t := 93) rfl (by decide) (ws_iv rfl rfl rfl ?_))
    refine x_pushA h2 (by omega) (fun S3 h3 => ?_)
    refine ws_goto (t := 141) rfl (by decide) (ws_iconst (x := 1) rfl rfl rfl (ws_i rfl ?_))
    exact hP S3 (by rw [show aOp 9 a b = (if a < b then 1 else 0) from rfl, if_pos c]; exact h3)
  · skip
    refine ws_istore_n rfl rfl rfl rfl (ws_iload_n rfl (rfl) rfl (ws_tab (t := 82) rfl rfl (by decide) (ws_aload_n rfl (rfl) rfl (ws_iload_n rfl (rfl) rfl (ws_iload_n rfl (rfl) rfl (ws_i rfl ⟨fun _ => ?_, fun z => absurd (Int32.not_lt.mp c) z⟩))))))
    refine ws_iconst (x := 0) rfl rfl rfl (ws_iv rfl rfl rfl ?_)
    refine x_pushA h2 (by omega) (fun S3 h3 => ?_)
    refine ws_goto (t := 141) rfl (by decide) (ws_iconst (x := 1) rfl rfl rfl (ws_i rfl ?_))
    exact hP S3 (by rw [show aOp 9 a b = (if a < b then 1 else 0) from rfl, if_neg c]; exact h3)
set_option maxHeartbeats 1000000 in
set_option maxRecDepth 8000 in
theorem x_ap9 (h : xA S0 S σ sd rm fb B rets (.inl b :: .inl a :: K) Ks vs mp told most) (hb : (aNum K).length ≤ 35)
    (hP : ∀ S', xA S0 S' σ sd rm fb B rets (.inl (aOp 9 a b) :: K) Ks vs mp told most → P (some (.int 1)) S') : mv_big layX sysX (d + 5) 114 [.ref 4, .int 9, .int y] S P := by
  refine ⟨60, ?_⟩
  refine ws_iload_n rfl (rfl) rfl (ws_iconst (x := 4) rfl rfl rfl (ws_i rfl ⟨fun z => absurd z (show ¬ (9 : Int32) < 4 by decide), fun _ => ?_⟩))
  refine ws_iload_n rfl (rfl) rfl (ws_bipush (x := 10) rfl rfl rfl (ws_i rfl ⟨fun z => absurd z (show ¬ (10 : Int32) < 9 by decide), fun _ => ?_⟩))
  refine ws_aload_n rfl (rfl) rfl (ws_iload_n rfl (rfl) rfl (ws_iv rfl rfl rfl ?_))
  exact mv_deep (d := d + 3) (by omega) (x_num9 h hb (fun S1 h1 => ws_i rfl (hP S1 h1)))
set_option maxHeartbeats 1000000 in
set_option maxRecDepth 8000 in
theorem x_num10 (h : xA S0 S σ sd rm fb B rets (.inl b :: .inl a :: K) Ks vs mp told most) (hb : (aNum K).length ≤ 35)
    (hP : ∀ S', xA S0 S' σ sd rm fb B rets (.inl (aOp 10 a b) :: K) Ks vs mp told most → P (some (.int 1)) S') : mv_big layX sysX (d + 3) 116 [.ref 4, .int 10] S P := by
  have e : (.inl b :: .inl a :: K : List aI) = .inl b :: (.inl a :: K) := rfl
  refine ⟨60, ?_⟩
  refine ws_aload_n rfl (rfl) rfl (ws_iv rfl rfl rfl ?_)
  refine x_popA h (by show (aNum K).length + 1 ≤ 40; omega) (fun S1 h1 => ?_)
  refine ws_istore_n rfl rfl rfl rfl (ws_aload_n rfl (rfl) rfl (ws_iv rfl rfl rfl ?_))
  refine x_popA h1 (by omega) (fun S2 h2 => ?_)
  by_cases c : a = b
  · skip
    refine ws_istore_n rfl rfl rfl rfl (ws_iload_n rfl (rfl) rfl (ws_tab (t := 99) rfl rfl (by decide) (ws_aload_n rfl (rfl) rfl (ws_iload_n rfl (rfl) rfl (ws_iload_n rfl (rfl) rfl (ws_i rfl ⟨fun z => absurd c z, fun _ => ?_⟩))))))
    refine ws_iconst (x := 1) rfl rfl rfl (ws_goto (t := 110) rfl (by decide) (ws_iv rfl rfl rfl ?_))
    refine x_pushA h2 (by omega) (fun S3 h3 => ?_)
    refine ws_goto (t := 141) rfl (by decide) (ws_iconst (x := 1) rfl rfl rfl (ws_i rfl ?_))
    exact hP S3 (by rw [show aOp 10 a b = (if a = b then 1 else 0) from rfl, if_pos c]; exact h3)
  · skip
    refine ws_istore_n rfl rfl rfl rfl (ws_iload_n rfl (rfl) rfl (ws_tab (t := 99) rfl rfl (by decide) (ws_aload_n rfl (rfl) rfl (ws_iload_n rfl (rfl) rfl (ws_iload_n rfl (rfl) rfl (ws_i rfl ⟨fun _ => ?_, fun z => absurd z c⟩))))))
    refine ws_iconst (x := 0) rfl rfl rfl (ws_iv rfl rfl rfl ?_)
    refine x_pushA h2 (by omega) (fun S3 h3 => ?_)
    refine ws_goto (t := 141) rfl (by decide) (ws_iconst (x := 1) rfl rfl rfl (ws_i rfl ?_))
    exact hP S3 (by rw [show aOp 10 a b = (if a = b then 1 else 0) from rfl, if_neg c]; exact h3)
set_option maxHeartbeats 1000000 in
set_option maxRecDepth 8000 in
theorem x_ap10 (h : xA S0 S σ sd rm fb B rets (.inl b :: .inl a :: K) Ks vs mp told most) (hb : (aNum K).length ≤ 35)
    (hP : ∀ S', xA S0 S' σ sd rm fb B rets (.inl (aOp 10 a b) :: K) Ks vs mp told most → P (some (.int 1)) S') : mv_big layX sysX (d + 5) 114 [.ref 4, .int 10, .int y] S P := by
  refine ⟨60, ?_⟩
  refine ws_iload_n rfl (rfl) rfl (ws_iconst (x := 4) rfl rfl rfl (ws_i rfl ⟨fun z => absurd z (show ¬ (10 : Int32) < 4 by decide), fun _ => ?_⟩))
  refine ws_iload_n rfl (rfl) rfl (ws_bipush (x := 10) rfl rfl rfl (ws_i rfl ⟨fun z => absurd z (show ¬ (10 : Int32) < 10 by decide), fun _ => ?_⟩))
  refine ws_aload_n rfl (rfl) rfl (ws_iload_n rfl (rfl) rfl (ws_iv rfl rfl rfl ?_))
  exact mv_deep (d := d + 3) (by omega) (x_num10 h hb (fun S1 h1 => ws_i rfl (hP S1 h1)))
set_option maxHeartbeats 1000000 in
set_option maxRecDepth 8000 in
theorem x_ap25 (h : xA S0 S σ sd rm fb B rets (.inl x :: .inr (T, q) :: K) Ks vs mp told most) (ho : tOrd T) (hb : (aNum K).length ≤ 35) (hm : (aMap K).length ≤ 16)
    (hP : ∀ S', xA S0 S' σ sd rm fb B rets (.inl (tV (tFnd x T)) :: K) Ks vs mp told most → P (some (.int 1)) S') : mv_big layX sysX (d + 6) 114 [.ref 4, .int 25, .int y] S P := by
  have ask : mv_big layX sysX (d + 5) 117 [.ref 4, .int 25] S (fun r S1 => r = none ∧ xA S0 S1 σ sd rm fb B rets (.inl (tV (tFnd x T)) :: K) Ks vs mp told most) := by
    refine ⟨60, ?_⟩
    refine ws_iload_n rfl (rfl) rfl (ws_tab (t := 32) rfl rfl (by decide) (ws_aload_n rfl (rfl) rfl (ws_aload_n rfl (rfl) rfl (ws_getr rfl rfl rfl (ws_aload_n rfl (rfl) rfl (ws_getr rfl rfl rfl (ws_aload_n rfl (rfl) rfl (ws_iv rfl rfl rfl ?_))))))))
    refine mv_deep (d := d + 2) (by omega) (x_popMapA (K := .inl x :: K) h hm (fun S1 c h1 hc => ?_))
    refine ws_aload_n rfl (rfl) rfl (ws_iv rfl rfl rfl ?_)
    refine mv_deep (d := d + 2) (by omega) (x_popH h1 (by omega) (fun S2 hh h2 => ?_))
    have t2 : xTr S2 σ T c := xCl_tr (xCl_hs hh hc)
    refine ws_iv rfl rfl rfl ?_
    refine mv_deep (d := d + 2) (by omega) (x_find ?_)
    have t3 := x_fnd (k := x) (n := 803) (by have := xTr_8 t2 ho; omega) t2
    refine ws_iv rfl rfl rfl ?_
    refine mv_deep (d := d + 1) (by omega) (x_value ?_)
    rw [(xTr_v t3).1]
    refine ws_iv rfl rfl rfl ?_
    refine mv_deep (d := d + 2) (by omega) (x_pushA h2 (by omega) (fun S3 h3 => ?_))
    refine ws_goto (t := 116) rfl (by decide) (ws_i rfl ?_)
    exact ⟨rfl, h3⟩
  refine ⟨60, ?_⟩
  refine ws_iload_n rfl (rfl) rfl (ws_iconst (x := 4) rfl rfl rfl (ws_i rfl ⟨fun z => absurd z (show ¬ (25 : Int32) < 4 by decide), fun _ => ?_⟩))
  refine ws_iload_n rfl (rfl) rfl (ws_bipush (x := 10) rfl rfl rfl (ws_i rfl ⟨fun _ => ?_, fun z => absurd (show (10 : Int32) < 25 by decide) z⟩))
  refine ws_iload_n rfl (rfl) rfl (ws_bipush (x := 22) rfl rfl rfl (ws_i rfl ⟨fun z => absurd z (show ¬ (25 : Int32) < 22 by decide), fun _ => ?_⟩))
  refine ws_iload_n rfl (rfl) rfl (ws_bipush (x := 24) rfl rfl rfl (ws_i rfl ⟨fun _ => ?_, fun z => absurd (show (24 : Int32) < 25 by decide) z⟩))
  refine ws_iload_n rfl (rfl) rfl (ws_tab (t := 243) rfl rfl (by decide) (ws_aload_n rfl (rfl) rfl (ws_iload_n rfl (rfl) rfl (ws_iv rfl rfl rfl ?_))))
  refine mv_big_mono _ _ (Nat.le_refl _) _ _ _ _ _ (fun r S1 z => ?_) ask
  obtain ⟨rfl, h1⟩ := z
  refine ws_iconst (x := 1) rfl rfl rfl (ws_i rfl ?_)
  exact hP S1 h1
set_option maxHeartbeats 1000000 in
set_option maxRecDepth 8000 in
theorem x_ap26 (h : xA S0 S σ sd rm fb B rets (.inl x :: .inr (T, q) :: K) Ks vs mp told most) (ho : tOrd T) (hb : (aNum K).length ≤ 35) (hm : (aMap K).length ≤ 16)
    (hP : ∀ S', xA S0 S' σ sd rm fb B rets (.inl (tIf (tFnd x T) 0 1) :: K) Ks vs mp told most → P (some (.int 1)) S') : mv_big layX sysX (d + 6) 114 [.ref 4, .int 26, .int y] S P := by
  have ask : mv_big layX sysX (d + 5) 117 [.ref 4, .int 26] S (fun r S1 => r = none ∧ xA S0 S1 σ sd rm fb B rets (.inl (tIf (tFnd x T) 0 1) :: K) Ks vs mp told most) := by
    refine ⟨60, ?_⟩
    refine ws_iload_n rfl (rfl) rfl (ws_tab (t := 61) rfl rfl (by decide) (ws_aload_n rfl (rfl) rfl (ws_aload_n rfl (rfl) rfl (ws_getr rfl rfl rfl (ws_aload_n rfl (rfl) rfl (ws_iv rfl rfl rfl ?_))))))
    refine mv_deep (d := d + 2) (by omega) (x_popMapA (K := .inl x :: K) h hm (fun S1 c h1 hc => ?_))
    refine ws_aload_n rfl (rfl) rfl (ws_iv rfl rfl rfl ?_)
    refine mv_deep (d := d + 2) (by omega) (x_popH h1 (by omega) (fun S2 hh h2 => ?_))
    have t2 : xTr S2 σ T c := xCl_tr (xCl_hs hh hc)
    refine ws_iv rfl rfl rfl ?_
    refine mv_deep (d := d + 2) (by omega) (x_find ?_)
    have t3 := x_fnd (k := x) (n := 803) (by have := xTr_8 t2 ho; omega) t2
    have z3 := hTr_leaf (by decide) t3
    by_cases c : tFnd x T = .leaf
    · skip
      refine ws_i rfl ⟨fun z => absurd (z3.mpr c) z, fun _ => ?_⟩
      refine ws_iconst (x := 0) rfl rfl rfl (ws_goto (t := 85) rfl (by decide) (ws_iv rfl rfl rfl ?_))
      refine mv_deep (d := d + 2) (by omega) (x_pushA h2 (by omega) (fun S3 h3 => ?_))
      refine ws_goto (t := 116) rfl (by decide) (ws_i rfl ?_)
      exact ⟨rfl, by rw [tIf_l c]; exact h3⟩
    · skip
      refine ws_i rfl ⟨fun _ => ?_, fun z => absurd (z3.mp z) c⟩
      refine ws_iconst (x := 1) rfl rfl rfl (ws_iv rfl rfl rfl ?_)
      refine mv_deep (d := d + 2) (by omega) (x_pushA h2 (by omega) (fun S3 h3 => ?_))
      refine ws_goto (t := 116) rfl (by decide) (ws_i rfl ?_)
      exact ⟨rfl, by rw [tIf_n c]; exact h3⟩
  refine ⟨60, ?_⟩
  refine ws_iload_n rfl (rfl) rfl (ws_iconst (x := 4) rfl rfl rfl (ws_i rfl ⟨fun z => absurd z (show ¬ (26 : Int32) < 4 by decide), fun _ => ?_⟩))
  refine ws_iload_n rfl (rfl) rfl (ws_bipush (x := 10) rfl rfl rfl (ws_i rfl ⟨fun _ => ?_, fun z => absurd (show (10 : Int32) < 26 by decide) z⟩))
  refine ws_iload_n rfl (rfl) rfl (ws_bipush (x := 22) rfl rfl rfl (ws_i rfl ⟨fun z => absurd z (show ¬ (26 : Int32) < 22 by decide), fun _ => ?_⟩))
  refine ws_iload_n rfl (rfl) rfl (ws_bipush (x := 24) rfl rfl rfl (ws_i rfl ⟨fun _ => ?_, fun z => absurd (show (24 : Int32) < 26 by decide) z⟩))
  refine ws_iload_n rfl (rfl) rfl (ws_tab (t := 243) rfl rfl (by decide) (ws_aload_n rfl (rfl) rfl (ws_iload_n rfl (rfl) rfl (ws_iv rfl rfl rfl ?_))))
  refine mv_big_mono _ _ (Nat.le_refl _) _ _ _ _ _ (fun r S1 z => ?_) ask
  obtain ⟨rfl, h1⟩ := z
  refine ws_iconst (x := 1) rfl rfl rfl (ws_i rfl ?_)
  exact hP S1 h1
set_option maxHeartbeats 1000000 in
set_option maxRecDepth 8000 in
theorem x_ap27 (h : xA S0 S σ sd rm fb B rets (.inr (T, q) :: K) Ks vs mp told most) (ho : tOrd T) (hb : (aNum K).length ≤ 35) (hm : (aMap K).length ≤ 16) (hB : B + 1 < 2 ^ 31)
    (hP : ∀ S', xA S0 S' σ sd rm fb (B + 1) rets (.inl (nI (tN T)) :: K) Ks vs mp told most → P (some (.int 1)) S') : mv_big layX sysX (d + 6) 114 [.ref 4, .int 27, .int y] S P := by
  have ask : mv_big layX sysX (d + 5) 117 [.ref 4, .int 27] S (fun r S1 => r = none ∧ xA S0 S1 σ sd rm fb (B + 1) rets (.inl (nI (tN T)) :: K) Ks vs mp told most) := by
    refine ⟨60, ?_⟩
    refine ws_iload_n rfl (rfl) rfl (ws_tab (t := 91) rfl rfl (by decide) (ws_aload_n rfl (rfl) rfl (ws_aload_n rfl (rfl) rfl (ws_getr rfl rfl rfl (ws_aload_n rfl (rfl) rfl (ws_iv rfl rfl rfl ?_))))))
    refine mv_deep (d := d + 2) (by omega) (x_popMapA h hm (fun S1 c h1 hc => ?_))
    have t1 : xTr S1 σ T c := xCl_tr hc
    obtain ⟨r, r1, r2⟩ := h1.2.1.2.2.2.2.2.2.2.2
    have ok := hCs_ok (by decide) t1
    refine ws_iv rfl rfl rfl ?_
    refine mv_deep (d := d + 2) (by omega) (x_sizeT (G := fun i => i ∈ hCs (S1.2.1 18) (S1.2.1 19) T c) r2 (by omega) ok.2 ok.1 (fun S2 V g1 g2 g3 g4 g5 => ?_))
    have eV : V.length = tN T := by
      rw [← hCs_len (by decide) t1]
      refine nd_same g2.1 (hCs_nodup (by decide) t1 ho) (fun i => ⟨g4 i, fun hi => ?_⟩)
      exact hCs_sub (W := fun i => i ∈ V) (by decide) (fun i hi => by
        have := g3 i hi
        rw [g1.2.1 18 i (by decide) (by decide), g1.2.1 19 i (by decide) (by decide)] at this
        exact this) t1 g5 i hi
    rw [eV]
    have h2 := xA_rg h1 g1 r1
    refine ws_iv rfl rfl rfl ?_
    refine mv_deep (d := d + 2) (by omega) (x_pushA h2 (by omega) (fun S3 h3 => ?_))
    refine ws_goto (t := 116) rfl (by decide) (ws_i rfl ?_)
    exact ⟨rfl, h3⟩
  refine ⟨60, ?_⟩
  refine ws_iload_n rfl (rfl) rfl (ws_iconst (x := 4) rfl rfl rfl (ws_i rfl ⟨fun z => absurd z (show ¬ (27 : Int32) < 4 by decide), fun _ => ?_⟩))
  refine ws_iload_n rfl (rfl) rfl (ws_bipush (x := 10) rfl rfl rfl (ws_i rfl ⟨fun _ => ?_, fun z => absurd (show (10 : Int32) < 27 by decide) z⟩))
  refine ws_iload_n rfl (rfl) rfl (ws_bipush (x := 22) rfl rfl rfl (ws_i rfl ⟨fun z => absurd z (show ¬ (27 : Int32) < 22 by decide), fun _ => ?_⟩))
  refine ws_iload_n rfl (rfl) rfl (ws_bipush (x := 24) rfl rfl rfl (ws_i rfl ⟨fun _ => ?_, fun z => absurd (show (24 : Int32) < 27 by decide) z⟩))
  refine ws_iload_n rfl (rfl) rfl (ws_tab (t := 243) rfl rfl (by decide) (ws_aload_n rfl (rfl) rfl (ws_iload_n rfl (rfl) rfl (ws_iv rfl rfl rfl ?_))))
  refine mv_big_mono _ _ (Nat.le_refl _) _ _ _ _ _ (fun r S1 z => ?_) ask
  obtain ⟨rfl, h1⟩ := z
  refine ws_iconst (x := 1) rfl rfl rfl (ws_i rfl ?_)
  exact hP S1 h1
set_option maxHeartbeats 1000000 in
set_option maxRecDepth 8000 in
theorem x_ap28 (h : xA S0 S σ sd rm fb B rets (.inl y2 :: .inl x :: .inr (T, q) :: K) Ks vs mp told most) (ho : tOrd T) (hb : (aNum K).length ≤ 35) (hm : (aMap K).length ≤ 16)
    (hP : ∀ S', xA S0 S' σ sd rm fb B rets (.inl (tIf (tFlo x .leaf T) y2 (tKy (tFlo x .leaf T))) :: K) Ks vs mp told most → P (some (.int 1)) S') : mv_big layX sysX (d + 6) 114 [.ref 4, .int 28, .int y] S P := by
  have ask : mv_big layX sysX (d + 5) 117 [.ref 4, .int 28] S (fun r S1 => r = none ∧ xA S0 S1 σ sd rm fb B rets (.inl (tIf (tFlo x .leaf T) y2 (tKy (tFlo x .leaf T))) :: K) Ks vs mp told most) := by
    refine ⟨60, ?_⟩
    have fl : mv_big layX sysX (d + 4) 118 [.ref 4] S (fun r S1 => r = none ∧ xA S0 S1 σ sd rm fb B rets (.inl (tIf (tFlo x .leaf T) y2 (tKy (tFlo x .leaf T))) :: K) Ks vs mp told most) := by
      refine ⟨60, ?_⟩
      refine ws_aload_n rfl (rfl) rfl (ws_iv rfl rfl rfl ?_)
      refine mv_deep (d := d + 2) (by omega) (x_popA (K := .inl x :: .inr (T, q) :: K) h (by show (aNum K).length + 1 ≤ 40; omega) (fun S1 h1 => ?_))
      refine ws_istore_n rfl rfl rfl rfl (ws_aload_n rfl (rfl) rfl (ws_getr rfl rfl rfl (ws_aload_n rfl (rfl) rfl (ws_iv rfl rfl rfl ?_))))
      refine mv_deep (d := d + 2) (by omega) (x_popMapA (K := .inl x :: K) h1 hm (fun S2 c h2 hc => ?_))
      refine ws_aload_n rfl (rfl) rfl (ws_iv rfl rfl rfl ?_)
      refine mv_deep (d := d + 2) (by omega) (x_popH h2 (by omega) (fun S3 hh h3 => ?_))
      have t2 : xTr S3 σ T c := xCl_tr (xCl_hs hh hc)
      refine ws_iv rfl rfl rfl ?_
      refine mv_deep (d := d + 2) (by omega) (x_floor ?_)
      have t3 := x_flo (k := x) (n := 803) (b := .leaf) (d := 0) (by have := xTr_8 t2 ho; omega) t2 rfl
      have z3 := hTr_leaf (by decide) t3
      by_cases c : tFlo x .leaf T = .leaf
      · skip
        refine ws_istore_n rfl rfl rfl rfl (ws_aload_n rfl (rfl) rfl (ws_iload_n rfl (rfl) rfl (ws_i rfl ⟨fun z => absurd (z3.mpr c) z, fun _ => ?_⟩)))
        refine ws_iload_n rfl (rfl) rfl (ws_goto (t := 38) rfl (by decide) (ws_iv rfl rfl rfl ?_))
        refine mv_deep (d := d + 2) (by omega) (x_pushA h3 (by omega) (fun S4 h4 => ?_))
        refine ws_i rfl ?_
        exact ⟨rfl, by rw [tIf_l c]; exact h4⟩
      · skip
        refine ws_istore_n rfl rfl rfl rfl (ws_aload_n rfl (rfl) rfl (ws_iload_n rfl (rfl) rfl (ws_i rfl ⟨fun _ => ?_, fun z => absurd (z3.mp z) c⟩)))
        refine ws_aload_n rfl (rfl) rfl (ws_getr rfl rfl rfl (ws_iload_n rfl (rfl) rfl (ws_iv rfl rfl rfl ?_)))
        refine mv_deep (d := d + 1) (by omega) (x_key ?_)
        rw [(xTr_v t3).2]
        refine ws_iv rfl rfl rfl ?_
        refine mv_deep (d := d + 2) (by omega) (x_pushA h3 (by omega) (fun S4 h4 => ?_))
        refine ws_i rfl ?_
        exact ⟨rfl, by rw [tIf_n c]; exact h4⟩
    refine ws_iload_n rfl (rfl) rfl (ws_tab (t := 109) rfl rfl (by decide) (ws_aload_n rfl (rfl) rfl (ws_iv rfl rfl rfl ?_)))
    refine mv_big_mono _ _ (Nat.le_refl _) _ _ _ _ _ (fun r S1 z => ?_) fl
    obtain ⟨rfl, h1⟩ := z
    refine ws_goto (t := 116) rfl (by decide) (ws_i rfl ?_)
    exact ⟨rfl, h1⟩
  refine ⟨60, ?_⟩
  refine ws_iload_n rfl (rfl) rfl (ws_iconst (x := 4) rfl rfl rfl (ws_i rfl ⟨fun z => absurd z (show ¬ (28 : Int32) < 4 by decide), fun _ => ?_⟩))
  refine ws_iload_n rfl (rfl) rfl (ws_bipush (x := 10) rfl rfl rfl (ws_i rfl ⟨fun _ => ?_, fun z => absurd (show (10 : Int32) < 28 by decide) z⟩))
  refine ws_iload_n rfl (rfl) rfl (ws_bipush (x := 22) rfl rfl rfl (ws_i rfl ⟨fun z => absurd z (show ¬ (28 : Int32) < 22 by decide), fun _ => ?_⟩))
  refine ws_iload_n rfl (rfl) rfl (ws_bipush (x := 24) rfl rfl rfl (ws_i rfl ⟨fun _ => ?_, fun z => absurd (show (24 : Int32) < 28 by decide) z⟩))
  refine ws_iload_n rfl (rfl) rfl (ws_tab (t := 243) rfl rfl (by decide) (ws_aload_n rfl (rfl) rfl (ws_iload_n rfl (rfl) rfl (ws_iv rfl rfl rfl ?_))))
  refine mv_big_mono _ _ (Nat.le_refl _) _ _ _ _ _ (fun r S1 z => ?_) ask
  obtain ⟨rfl, h1⟩ := z
  refine ws_iconst (x := 1) rfl rfl rfl (ws_i rfl ?_)
  exact hP S1 h1
end XA
