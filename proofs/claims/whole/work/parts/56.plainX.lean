/-! THE CLASS'S COMPILER DOES WHAT THE FUNCTION SAYS: parts, a plain token -/
theorem xGo_e {S T : mv_S} {p b p1 : Nat} {l : List Int32} {s} {w : Int32} (h : xGo S T p b p1 l s) (hb : b + l.length < 2 ^ 30) (hp : p ≤ p1) : xGo S (xE T w) p b p1 (l ++ [w]) s := by
  have := xGo_trans h (xGo_emit (w := w) h.2.1 h.2.2.1 hb) hp (Nat.le_refl _)
  rw [List.append_nil] at this
  exact this
theorem xGo_n {S T : mv_S} {p b p1 : Nat} {l : List Int32} {s} (h : xGo S T p b p1 l s) (hp : p ≤ p1) : xGo S (xNx T) p b (p1 + 1) l s := by
  have := xGo_trans h (xGo_next h.2.1 h.2.2.1) hp (Nat.le_succ _)
  rw [List.append_nil, List.append_nil] at this
  exact this
theorem xGo_t0 {S T U : mv_S} {p b p1 p2 : Nat} {l : List Int32} {s} (h : xGo S T p b p1 [] []) (g : xGo T U p1 b p2 l s) (hp : p ≤ p1) (hp2 : p1 ≤ p2) : xGo S U p b p2 l s := xGo_trans h g hp hp2
theorem xAt_next {S : mv_S} {n : Nat} {tk par : Nat → Int32} {mn : Bool} {p b : Nat} (h : xAt S n tk par mn p b) (hp : p < n) : xAt (xNx S) n tk par mn (p + 1) b := by
  have := xAt_pn h
  exact xAt_go h (xGo_next (xAt_p h) (xAt_b h)) hp (by simp; omega)
section LX
variable {d : Nat} {S : mv_S} {P : Option Value → mv_S → Prop} {n : Nat} {tk par : Nat → Int32} {mn : Bool} {p b : Nat}
theorem x_parts {D q : Nat} {rec : Bool → Nat → Nat → cRes} {k i0 : Int32} (hM : xDoes D 43 [.ref 2, .int k] n tk par mn (fun _ => True) (rec true)) (hN : xDoes D 42 [.ref 2, .int k] n tk par mn (fun _ => True) (rec false)) (hr : ∀ m p b, p ≤ n → cLn n 8 p (rec m p b)) (hi0 : i0 = nI q) (hq : q < 2 ^ 30) (hA : xAt S n tk par mn p b)
    (he : ∀ w q' S', cParts rec (tkMaps (tk q)).toNatClampNeg (cNums tk par q).toNatClampNeg p b = .error (w, q') → xKp S S' → S'.1 2 1 = nI q' → S'.1 2 2 = w → P (some (.int 0)) S')
    (ho : ∀ p' l s S', cParts rec (tkMaps (tk q)).toNatClampNeg (cNums tk par q).toNatClampNeg p b = .ok (p', l, s) → xGo S S' p b p' l s → P (some (.int 1)) S') : mv_big layX sysX (D + 4) 47 [.ref 2, .int i0, .int k] S P := by
  subst hi0
  obtain ⟨R, hR⟩ : ∃ R, R = cParts rec (tkMaps (tk q)).toNatClampNeg (cNums tk par q).toNatClampNeg p b := ⟨_, rfl⟩
  rw [← hR] at he ho
  obtain ⟨x, hx⟩ : ∃ x, x = cNums tk par q := ⟨_, rfl⟩
  obtain ⟨m, hm⟩ : ∃ m, m = tkMaps (tk q) := ⟨_, rfl⟩
  rw [← hx, ← hm] at hR
  obtain ⟨N, hN0⟩ : ∃ N, N = x.toNatClampNeg := ⟨_, rfl⟩
  obtain ⟨M, hM0⟩ : ∃ M, M = m.toNatClampNeg := ⟨_, rfl⟩
  rw [← hN0, ← hM0] at hR
  have hNb : N < 2 ^ 31 := by rw [hN0]; exact Int32.toNatClampNeg_lt x
  have hMb : M < 2 ^ 31 := by rw [hM0]; exact Int32.toNatClampNeg_lt m
  have hpn := xAt_pn hA
  have kk2 := mv_loop (T := tT1) (nL := 6) (z := some .boolean) (il := mX1_parts.2.2.2.2.2.2.2) (lay := layX) (sys := sysX) (d := D + 3) (P := P) (pc := 50) 60 (fun k' lv st S' => ∃ i p1 l1 s1, i + k' = N ∧ lv = [(5, .int (nI i)), (4, .int x), (3, .int m), (0, .ref 2), (1, .int (nI q)), (2, .int k)] ∧ st = [] ∧ xGo S S' p b p1 l1 s1 ∧ p ≤ p1 ∧ p1 ≤ n ∧ b + l1.length ≤ 8 * p1 ∧ R = cPre l1 s1 (cMany (rec false) k' p1 (b + l1.length))) (by
      rintro f lv st S' ⟨i, p1, l1, s1, hk, rfl, rfl, g, h1, h2, h3, h4⟩
      obtain rfl : i = N := hk
      refine ⟨fun _ => ⟨Or.inr rfl, ho p1 l1 s1 S' ?_ g⟩, fun z => absurd ((clampI hNb).mpr (Nat.le_of_eq hN0.symm)) z⟩
      rw [h4, cMany, cPre, List.append_nil, List.append_nil]) (by
      rintro k' f lv st S' ⟨i, p1, l1, s1, hk, rfl, rfl, g, h1, h2, h3, h4⟩ ih
      refine ⟨fun z => absurd ((clampI (by omega)).mp (show x ≤ nI i from z)) (by omega), fun _ => ?_⟩
      refine mv_deep (d := D) (by omega) (hN S' _ p1 (b + l1.length) trivial (xAt_go hA g h2 h3) (fun w q' S2 e k1 k2 k3 => ?_) (fun p2 l2 s2 S2 e g2 => ?_))
      · refine ⟨fun z => absurd rfl z, fun _ => ⟨Or.inl rfl, he w q' S2 ?_ (xKp_trans g.1 k1) k2 k3⟩⟩
        rw [h4]
        exact cPre_err (cThen_err e)
      · refine ⟨fun _ => ?_, fun z => absurd (show (1 : Int32) = 0 from z) (by decide)⟩
        have hl := hr false p1 _ h2 _ _ _ e
        refine ws_iinc (y := nI (i + 1)) rfl rfl rfl (nI_succ i).symm rfl rfl (ws_goto (t := 50) rfl (by decide) (ih _ [(5, .int (nI (i + 1))), (4, .int x), (3, .int m), (0, .ref 2), (1, .int (nI q)), (2, .int k)] [] S2 (by omega) ⟨i + 1, p2, l1 ++ l2, s1 ++ s2, by omega, rfl, rfl, xGo_trans g g2 h1 hl.1, by omega, hl.2.1, by rw [List.length_append]; omega, ?_⟩))
        rw [h4, cMany, cThen_pre e, cPre_pre, List.length_append, Nat.add_assoc])
  have kk1 := mv_loop (T := tT1) (nL := 6) (z := some .boolean) (il := mX1_parts.2.2.2.2.2.2.2) (lay := layX) (sys := sysX) (d := D + 3) (P := P) (pc := 15) (60 * (N + 1) + 100) (fun k' lv st S' => ∃ i p1 l1 s1, i + k' = M ∧ lv = [(4, .int (nI i)), (3, .int m), (0, .ref 2), (1, .int (nI q)), (2, .int k)] ∧ st = [] ∧ xGo S S' p b p1 l1 s1 ∧ p ≤ p1 ∧ p1 ≤ n ∧ b + l1.length ≤ 8 * p1 ∧ R = cPre l1 s1 (cThen (cMany (rec true) k' p1 (b + l1.length)) (fun p2 w => cMany (rec false) N p2 (b + l1.length + w)))) (by
      rintro f lv st S' ⟨i, p1, l1, s1, hk, rfl, rfl, g, h1, h2, h3, h4⟩
      obtain rfl : i = M := hk
      refine mv_fuel (n := 60 * (N + 1) + 60) (by omega) ?_
      refine ⟨fun _ => ?_, fun z => absurd ((clampI hMb).mpr (Nat.le_of_eq hM0.symm)) z⟩
      refine x_numbersP (xAt_go hA g h2 h3) rfl (by omega) ?_
      rw [← hx]
      refine ws_istore rfl rfl rfl rfl (ws_iconst (x := nI 0) rfl rfl rfl (ws_istore rfl rfl rfl rfl (kk2 N _ [(5, .int (nI 0)), (4, .int x), (3, .int m), (0, .ref 2), (1, .int (nI q)), (2, .int k)] [] S' (by omega) ⟨0, p1, l1, s1, by omega, rfl, rfl, g, h1, h2, h3, ?_⟩)))
      rw [h4, cMany, cThen_pre rfl]
      rw [cPre_nil]; rfl) (by
      rintro k' f lv st S' ⟨i, p1, l1, s1, hk, rfl, rfl, g, h1, h2, h3, h4⟩ ih
      refine mv_fuel (n := f + 60) (by omega) ?_
      refine ⟨fun z => absurd ((clampI (by omega)).mp (show m ≤ nI i from z)) (by omega), fun _ => ?_⟩
      refine mv_deep (d := D) (by omega) (hM S' _ p1 (b + l1.length) trivial (xAt_go hA g h2 h3) (fun w q' S2 e k1 k2 k3 => ?_) (fun p2 l2 s2 S2 e g2 => ?_))
      · refine ⟨fun z => absurd rfl z, fun _ => ⟨Or.inl rfl, he w q' S2 ?_ (xKp_trans g.1 k1) k2 k3⟩⟩
        rw [h4]
        exact cPre_err (cThen_err (cThen_err e))
      · refine ⟨fun _ => ?_, fun z => absurd (show (1 : Int32) = 0 from z) (by decide)⟩
        have hl := hr true p1 _ h2 _ _ _ e
        refine ws_iinc (y := nI (i + 1)) rfl rfl rfl (nI_succ i).symm rfl rfl (ws_goto (t := 15) rfl (by decide) (ih _ [(4, .int (nI (i + 1))), (3, .int m), (0, .ref 2), (1, .int (nI q)), (2, .int k)] [] S2 (by omega) ⟨i + 1, p2, l1 ++ l2, s1 ++ s2, by omega, rfl, rfl, xGo_trans g g2 h1 hl.1, by omega, hl.2.1, by rw [List.length_append]; omega, ?_⟩))
        rw [h4, cMany, cThen_pre e, cThen_cPre, cPre_pre, List.length_append, Nat.add_assoc]
        congr 1
        congr 1
        funext p3 w
        rw [Nat.add_assoc b, Nat.add_assoc b, Nat.add_assoc l1.length])
  refine ⟨(60 * (N + 1) + 100) * (M + 1) + 20, ?_⟩
  refine x_tokA hA rfl (by omega) ?_
  refine x_maps ?_
  rw [← hm]
  refine ws_istore_n rfl rfl rfl rfl (ws_iconst (x := nI 0) rfl rfl rfl (ws_istore rfl rfl rfl rfl (kk1 M _ [(4, .int (nI 0)), (3, .int m), (0, .ref 2), (1, .int (nI q)), (2, .int k)] [] S (by omega) ⟨0, p, [], [], by omega, rfl, rfl, xGo_refl (xAt_p hA) (xAt_b hA), Nat.le_refl _, hpn.1, hpn.2.2, ?_⟩)))
  rw [hR, cPre_nil]; rfl
end LX
