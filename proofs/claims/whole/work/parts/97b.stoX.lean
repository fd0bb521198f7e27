/-! THE CLASS'S STORE: its small methods, by what is held -/
theorem aVP_n : ∀ v, v < 14 → ∀ n, n < 25 → (if nI v < 8 then nI v else nI v + nI n * 6) = nI (aVP n v) := by decide +kernel
theorem aMP_n : ∀ v, v < 6 → ∀ n, n < 25 → (if nI v < 4 then nI v else nI v + nI n * 2) = nI (aMP n v) := by decide +kernel
theorem aVP_lt {n v : Nat} (hv : v < 14) : aVP n v < 14 + 6 * n := by unfold aVP; split <;> omega
theorem aMP_lt {n v : Nat} (hv : v < 6) : aMP n v < 6 + 2 * n := by unfold aMP; split <;> omega
theorem pl_get (S : mv_S) (q k : Nat) (x : Int64) (o f : Nat) : (mv_pl S q k x).2.2 o f = if o = q ∧ f = k then x else S.2.2 o f := by
  unfold mv_pl
  by_cases h : o = q
  · subst h
    by_cases h2 : f = k
    · subst h2; simp [va_up, vp_updL]
    · simp [va_up, vp_updL, h2]
  · simp [va_up, h]
theorem sL_nI {S : mv_S} {q n i : Nat} {x : Int64} (hi : i < n) (hn : n < 2 ^ 31) : sL S q n (nI i) x = mv_pl S q i x := by
  rw [sL_in ⟨nI_pos' (by omega), nI_lt hi hn⟩, nI_clamp (by omega)]
section XA
variable {d : Nat} {P : Option Value → mv_S → Prop} {S0 S S' : mv_S} {σ : Nat → Nat} {sd : Int32} {rm fb B : Nat} {rets : List Nat} {K : List aI} {Ks : List (List aI)} {vs : Nat → Int32} {mp : Nat → tT} {told : List Int32} {most : Nat}
theorem x_pushA {x : Int32} (h : xA S0 S σ sd rm fb B rets K Ks vs mp told most) (hb : (aNum K).length ≤ 40) (hP : ∀ S', xA S0 S' σ sd rm fb B rets (.inl x :: K) Ks vs mp told most → P none S') : mv_big layX sysX (d + 2) 106 [.ref 4, .int x] S P := by
  have ln := xBs_len h.2.2.2.2.1.2.2
  have n24 := h.2.2.2.2.1.2.1
  have e11 := h.2.2.1.1
  have lt : (aNum (K ++ Ks.flatten)).length < 850 := by rw [aNum_app, List.length_append]; omega
  refine x_push ?_
  unfold xPush
  rw [e11, if_pos (show nI _ < (850 : Int32) from nI_lt (b := 850) lt (by decide)), sR_nI lt (by decide), nI_1]
  refine hP _ (xA_num (K' := .inl x :: K) h rfl (fun o f a => by rw [pf_get, if_neg a]; rfl) (fun o i a => ?_) rfl ?_ ⟨?_, xNs_go (fun p hp => ?_) h.2.2.1.2⟩)
  · show (mv_pr S 25 (aNum (K ++ Ks.flatten)).length x).2.1 o i = _
    rw [pr_get, if_neg (fun z => a z.1)]
  · rw [pf_get, if_pos ⟨rfl, rfl⟩]; rfl
  · show (mv_pr S 25 (aNum (K ++ Ks.flatten)).length x).2.1 25 (aNum (K ++ Ks.flatten)).length = x
    rw [pr_get, if_pos ⟨rfl, rfl⟩]
  · show (mv_pr S 25 (aNum (K ++ Ks.flatten)).length x).2.1 25 p = _
    have hp : p < (aNum (K ++ Ks.flatten)).length := hp
    rw [pr_get, if_neg (fun z => by have := z.2; omega)]
theorem x_popA {x : Int32} (h : xA S0 S σ sd rm fb B rets (.inl x :: K) Ks vs mp told most) (hb : (aNum K).length ≤ 40) (hP : ∀ S', xA S0 S' σ sd rm fb B rets K Ks vs mp told most → P (some (.int x)) S') : mv_big layX sysX (d + 2) 107 [.ref 4] S P := by
  have ln := xBs_len h.2.2.2.2.1.2.2
  have n24 := h.2.2.2.2.1.2.1
  have e11 : S.1 4 11 = nI ((aNum (K ++ Ks.flatten)).length + 1) := h.2.2.1.1
  have ns : S.2.1 25 (aNum (K ++ Ks.flatten)).length = x ∧ xNs S (aNum (K ++ Ks.flatten)) := h.2.2.1.2
  have lt : (aNum (K ++ Ks.flatten)).length < 850 := by rw [aNum_app, List.length_append]; omega
  have eS : xPopS S = mv_pf S 4 11 (nI (aNum (K ++ Ks.flatten)).length) := by
    unfold xPopS
    rw [e11, if_pos (by rw [← nI_0]; exact nI_lt (by omega) (by omega)), nI_pred]
  have eV : xPopV S = x := by
    unfold xPopV
    rw [eS, pf_get, if_pos ⟨rfl, rfl⟩, rAt_nI lt (by decide)]; exact ns.1
  refine x_pop ?_
  rw [eV, eS]
  exact hP _ (xA_num (K' := K) h rfl (fun o f a => by rw [pf_get, if_neg a]) (fun o i a => rfl) rfl (by rw [pf_get, if_pos ⟨rfl, rfl⟩]) (xNs_go (S := S) (fun p hp => rfl) ns.2))
theorem x_pushMapA {T : tT} {c : Int32} (h : xA S0 S σ sd rm fb B rets K Ks vs mp told most) (hb : (aMap K).length ≤ 16) (hc : xCl (S.2.1 20) fb xNo S σ sd T c) (hr : T = .leaf ∨ xRt S (aMap (K ++ Ks.flatten)) Ks.length mp T c) (hP : ∀ S', xA S0 S' σ sd rm fb B rets (.inr (T, none) :: K) Ks vs mp told most → P none S') : mv_big layX sysX (d + 2) 108 [.ref 4, .int c] S P := by
  have ln := xBs_len h.2.2.2.2.1.2.2
  have n24 := h.2.2.2.2.1.2.1
  have e12 := h.2.2.2.1.1
  have lt : (aMap (K ++ Ks.flatten)).length < 425 := by rw [aMap_app, List.length_append]; omega
  refine x_pushMap ?_
  unfold xPushM
  rw [e12, if_pos (show nI _ < (425 : Int32) from nI_lt (b := 425) lt (by decide)), sR_nI lt (by decide), sL_nI lt (by decide), nI_1]
  obtain ⟨n, hn⟩ : ∃ n, n = (aMap (K ++ Ks.flatten)).length := ⟨_, rfl⟩
  obtain ⟨S', hS⟩ : ∃ S', S' = mv_pf (mv_pl (mv_pr S 26 n c) 27 n (-2147483648)) 4 12 (nI (n + 1)) := ⟨_, rfl⟩
  rw [← hn, ← hS]
  have f' : ∀ o f, S'.1 o f = if o = 4 ∧ f = 12 then nI (n + 1) else S.1 o f := fun o f => by rw [hS, pf_get]; rfl
  have r' : ∀ o i, S'.2.1 o i = if o = 26 ∧ i = n then c else S.2.1 o i := fun o i => by
    rw [hS]
    show (mv_pr S 26 n c).2.1 o i = _
    rw [pr_get]
  have l' : ∀ o i, S'.2.2 o i = if o = 27 ∧ i = n then -2147483648 else S.2.2 o i := fun o i => by
    rw [hS]
    show (mv_pl (mv_pr S 26 n c) 27 n (-2147483648)).2.2 o i = _
    rw [pl_get]
    rfl
  have hs : xHs S S' := ⟨fun g => by rw [f', if_neg (by omega)], fun o i _ _ => by rw [r', if_neg (by omega)]⟩
  refine hP _ (xA_map (K' := .inr (T, none) :: K) h rfl (fun o f a => by rw [f', if_neg a]) (fun o i a => by rw [r', if_neg (fun z => a z.1)]) ⟨?_, ⟨?_, ?_⟩, ?_⟩ (fun T' c' z => ?_))
  · rw [f', if_pos ⟨rfl, rfl⟩, hn]; rfl
  · show xCl _ _ _ _ _ _ T (S'.2.1 26 (aMap (K ++ Ks.flatten)).length)
    rw [r', if_pos ⟨rfl, hn.symm⟩]; exact xCl_hs hs hc
  · show S'.2.2 27 (aMap (K ++ Ks.flatten)).length = _
    rw [l', if_pos ⟨rfl, hn.symm⟩]; rfl
  · exact xZs_go hs (fun p hp => by
      have hp : p < (aMap (K ++ Ks.flatten)).length := hp
      exact ⟨by rw [r', if_neg (by omega)], by rw [l', if_neg (by omega)]⟩) h.2.2.2.1.2
  · rcases z with ⟨z1, z2⟩ | z
    · have z2 : c' = S'.2.1 26 (aMap (K ++ Ks.flatten)).length := z2
      rw [r', if_pos ⟨rfl, hn.symm⟩] at z2
      rw [z1, z2]; exact hr
    · exact Or.inr (Or.inr (xZr_go (fun p hp => by
        have hp : p < (aMap (K ++ Ks.flatten)).length := hp
        rw [r', if_neg (by omega)]) z))
/-- the map on top: its cell, and the store without it -/
theorem x_popMapR {T : tT} {o : Option Int32} (h : xA S0 S σ sd rm fb B rets (.inr (T, o) :: K) Ks vs mp told most) (hb : (aMap K).length ≤ 16) : xPopMS S = mv_pf S 4 12 (nI (aMap (K ++ Ks.flatten)).length) ∧ xPopMV S = S.2.1 26 (aMap (K ++ Ks.flatten)).length ∧ (aMap (K ++ Ks.flatten)).length < 425 := by
  have ln := xBs_len h.2.2.2.2.1.2.2
  have n24 := h.2.2.2.2.1.2.1
  have e12 : S.1 4 12 = nI ((aMap (K ++ Ks.flatten)).length + 1) := h.2.2.2.1.1
  have lt : (aMap (K ++ Ks.flatten)).length < 425 := by rw [aMap_app, List.length_append]; omega
  have eS : xPopMS S = mv_pf S 4 12 (nI (aMap (K ++ Ks.flatten)).length) := by
    unfold xPopMS
    rw [e12, if_pos (by rw [← nI_0]; exact nI_lt (by omega) (by omega)), nI_pred]
  refine ⟨eS, ?_, lt⟩
  unfold xPopMV
  rw [eS, pf_get, if_pos ⟨rfl, rfl⟩, rAt_nI lt (by decide)]
theorem xA_popM {T : tT} {o : Option Int32} (h : xA S0 S σ sd rm fb B rets (.inr (T, o) :: K) Ks vs mp told most) : xA S0 (mv_pf S 4 12 (nI (aMap (K ++ Ks.flatten)).length)) σ sd rm fb B rets K Ks vs mp told most := by
  have hs : xHs S (mv_pf S 4 12 (nI (aMap (K ++ Ks.flatten)).length)) := ⟨fun g => by rw [pf_get, if_neg (by omega)], fun o i _ _ => rfl⟩
  exact xA_map (K' := K) h rfl (fun o f a => by rw [pf_get, if_neg a]) (fun o i a => rfl) ⟨by rw [pf_get, if_pos ⟨rfl, rfl⟩], xZs_go (S := S) hs (fun p hp => ⟨rfl, rfl⟩) h.2.2.2.1.2.2⟩ (fun T' c' z => Or.inr (Or.inr (Or.inr (xZr_go (S := S) (S' := mv_pf S 4 12 (nI (aMap (K ++ Ks.flatten)).length)) (fun p hp => rfl) z))))
theorem x_popMapA {T : tT} {o : Option Int32} (h : xA S0 S σ sd rm fb B rets (.inr (T, o) :: K) Ks vs mp told most) (hb : (aMap K).length ≤ 16) (hP : ∀ S' c, xA S0 S' σ sd rm fb B rets K Ks vs mp told most → xCl (S'.2.1 20) fb xNo S' σ sd T c → P (some (.int c)) S') : mv_big layX sysX (d + 2) 109 [.ref 4] S P := by
  obtain ⟨e1, e2, _⟩ := x_popMapR h hb
  refine x_popMap ?_
  rw [e1, e2]
  have hs : xHs S (mv_pf S 4 12 (nI (aMap (K ++ Ks.flatten)).length)) := ⟨fun g => by rw [pf_get, if_neg (by omega)], fun o i _ _ => rfl⟩
  exact hP _ _ (xA_popM h) (xCl_hs hs h.2.2.2.1.2.1.1)
theorem x_numberA {v : Nat} (h : xA S0 S σ sd rm fb B rets K Ks vs mp told most) (hv : v < 14) (hP : P (some (.int (vs (aVP Ks.length v)))) S) : mv_big layX sysX (d + 2) 103 [.ref 4, .int (nI v)] S P := by
  have n24 := h.2.2.2.2.1.2.1
  have lt := aVP_lt (n := Ks.length) hv
  refine x_number ?_
  unfold xVP
  rw [h.2.2.2.2.1.1, aVP_n v hv _ (by omega), rAt_nI (by omega) (by decide), h.2.2.2.2.2.1 _ lt]
  exact hP
theorem x_setNumberA {v : Nat} {x : Int32} (h : xA S0 S σ sd rm fb B rets K Ks vs mp told most) (hv : v < 14) (hP : ∀ S', xA S0 S' σ sd rm fb B rets K Ks (aUp vs (aVP Ks.length v) x) mp told most → P none S') : mv_big layX sysX (d + 2) 104 [.ref 4, .int (nI v), .int x] S P := by
  have n24 := h.2.2.2.2.1.2.1
  have lt := aVP_lt (n := Ks.length) hv
  refine x_setNumber ?_
  unfold xVP
  rw [h.2.2.2.2.1.1, aVP_n v hv _ (by omega), sR_nI (by omega) (by decide)]
  refine hP _ (xA_var h (fun o f => rfl) (fun o i a => by rw [pr_get, if_neg (fun z => a z.1)]) rfl (fun i hi => ?_))
  rw [pr_get]
  unfold aUp
  by_cases c : i = aVP Ks.length v
  · rw [if_pos ⟨rfl, c⟩, if_pos c]
  · rw [if_neg (fun z => c z.2), if_neg c]; exact h.2.2.2.2.2.1 i hi
theorem x_treeA {v : Nat} (h : xA S0 S σ sd rm fb B rets K Ks vs mp told most) (hv : v < 6) (hP : ∀ c, xCl (S.2.1 20) fb xNo S σ sd (mp (aMP Ks.length v)) c → xRt S (aMap (K ++ Ks.flatten)) Ks.length mp (mp (aMP Ks.length v)) c → P (some (.int c)) S) : mv_big layX sysX (d + 2) 105 [.ref 4, .int (nI v)] S P := by
  have n24 := h.2.2.2.2.1.2.1
  have lt := aMP_lt (n := Ks.length) hv
  refine x_tree ?_
  unfold xMP
  rw [h.2.2.2.2.1.1, aMP_n v hv _ (by omega), rAt_nI (by omega) (by decide)]
  exact hP _ (h.2.2.2.2.2.2.1 _ lt) (Or.inl ⟨_, lt, rfl, rfl⟩)
theorem x_tellA {x : Int32} (h : xA S0 S σ sd rm fb B rets K Ks vs mp told most) (h1 : told.length = 300 → P (some (.int 4)) S) (h2 : told.length < 300 → ∀ S', xA S0 S' σ sd rm fb B rets K Ks vs mp (told ++ [x]) most → P (some (.int 1)) S') : mv_big layX sysX (d + 2) 115 [.ref 4, .int x] S P := by
  have h0 := h
  obtain ⟨a1, a2, a3, a4, a5, a6, a7, a8, a9, a10⟩ := h
  refine x_tell (fun z => ?_) (fun z => ?_)
  · rw [a8.1] at z
    refine h1 ?_
    by_cases c : told.length < 300
    · exact absurd z (nI_ge (b := 300) c (by decide))
    · have := a8.2.1
      omega
  · rw [a8.1] at z
    have lt : told.length < 300 := by
      by_cases c : told.length < 300
      · exact c
      · exact absurd z (Int32.not_lt.mpr (nI_le (b := told.length) (a := 300) (by omega) (by omega)))
    unfold xTell
    rw [a8.1, sR_nI lt (by decide), nI_1]
    obtain ⟨S', hS⟩ : ∃ S', S' = mv_pf (mv_pr S 31 told.length x) 4 14 (nI (told.length + 1)) := ⟨_, rfl⟩
    rw [← hS]
    have f' : ∀ o f, S'.1 o f = if o = 4 ∧ f = 14 then nI (told.length + 1) else S.1 o f := fun o f => by rw [hS, pf_get]; rfl
    have r' : ∀ o i, S'.2.1 o i = if o = 31 ∧ i = told.length then x else S.2.1 o i := fun o i => by
      rw [hS]
      show (mv_pr S 31 told.length x).2.1 o i = _
      rw [pr_get]
    have ff : ∀ o f, ¬ (o = 4 ∧ f = 14) → S'.1 o f = S.1 o f := fun o f a => by rw [f', if_neg a]
    have r : ∀ o i, o ≠ 31 → S'.2.1 o i = S.2.1 o i := fun o i a => by rw [r', if_neg (fun z => a z.1)]
    have l : S'.2.2 = S.2.2 := by rw [hS]; rfl
    have hs : xHs S S' := ⟨fun g => ff 3 g (by omega), fun o i _ _ => r o i (by omega)⟩
    refine h2 lt S' (xA_gen h0 ⟨fun o g a b c => ff o g (by omega), ff 4 15 (by omega), fun o i _ => r o i (by omega)⟩ hs ⟨(ff 4 11 (by omega)).trans a3.1, xNs_go (fun p _ => r 25 p (by decide)) a3.2⟩ ⟨(ff 4 12 (by omega)).trans a4.1, xZs_go hs (fun p _ => ⟨r 26 p (by decide), by rw [l]⟩) a4.2⟩ ⟨(ff 4 13 (by omega)).trans a5.1, a5.2.1, xBs_go (fun o i _ _ => r o i (by omega)) a5.2.2⟩ (fun i hi => (r 23 i (by decide)).trans (a6 i hi)) (fun i hi => by rw [r 24 i (by decide)]; exact xCl_hs hs (a7 i hi)) ⟨?_, ?_, fun p y hp => ?_⟩ ((ff 4 16 (by omega)).trans a9) (fun T c z => ?_))
    · rw [f', if_pos ⟨rfl, rfl⟩]; simp
    · simp; omega
    · by_cases c : p < told.length
      · rw [List.getElem?_append_left c] at hp
        rw [r', if_neg (by omega)]; exact a8.2.2 p y hp
      · have hlt := (List.getElem?_eq_some_iff.mp hp).1
        simp at hlt
        obtain rfl : p = told.length := by omega
        rw [stk_last] at hp
        rw [r', if_pos ⟨rfl, rfl⟩]; exact Option.some.inj hp
    · refine Or.inr ?_
      rcases z with ⟨i, i1, i2, i3⟩ | z
      · exact Or.inl ⟨i, i1, i2, by rw [i3]; exact r 24 i (by decide)⟩
      · exact Or.inr (xZr_go (fun p _ => r 26 p (by decide)) z)
end XA
