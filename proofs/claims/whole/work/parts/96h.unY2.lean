/-! THE REFERENCE'S UNION: the round that splits -/
theorem tFnd_none {k : Int32} : ∀ {T : tT}, tAll (fun q => ¬ q = k) T → tFnd k T = .leaf
  | .leaf, _ => rfl
  | .inner t k' v l r, h => by
    unfold tFnd
    rw [if_neg h.1]
    split
    · exact tFnd_none h.2.1
    · exact tFnd_none h.2.2
section YM
variable {d : Nat} {P : Option Value → mv_S → Prop} {S0 : mv_S} {σ : Nat → Nat} {st lv rm m N : Nat}
set_option maxHeartbeats 1000000 in
set_option maxRecDepth 8000 in
theorem yU_down1 {sd k v k' v' : Int32} {t t' : Nat} {l r l' r' : tT} {stk : List (Bool × Int32 × Int32 × tT × tT)} (hn : stk.length ≤ 890) (hr : xRank sd k ≤ xRank sd k') (hs : tN (.inner t k v l r : tT) ≤ 800) (hs2 : tN (.inner t' k' v' l' r' : tT) ≤ 800)
    (hf : rm < lv + (m + tSpN k' (.inner t k v l r : tT)) → ∀ x S', yFull S0 S' lv rm 401 → P (some (.int x)) S')
    (h : lv + (m + tSpN k' (.inner t k v l r : tT)) ≤ rm → yUd P d S0 σ st lv rm (m + tSpN k' (.inner t k v l r : tT)) sd (stk ++ [(false, k', v', tHi st k' (.inner t k v l r : tT), r')]) (tLo st k' (.inner t k v l r : tT)) (l')) : yUd P d S0 σ st lv rm m sd stk (.inner t k v l r : tT) (.inner t' k' v' l' r' : tT) := by
  have h' : ∃ F, lv + (m + tSpN k' (.inner t k v l r : tT)) ≤ rm → ∀ S' l0 a b g N, yUL l0 (nI (stk.length + 1)) a b g 1 → yMk S0 S' lv rm (m + tSpN k' (.inner t k v l r : tT)) N → S'.1 0 35 = sd → S'.1 0 57 = 0 → yUs S0 S' σ st N (stk ++ [(false, k', v', tHi st k' (.inner t k v l r : tT), r')]) → yV S0 S' σ st N (tLo st k' (.inner t k v l r : tT)) a → yV S0 S' σ st N (l') b → yUw P d F 19 l0 S' := by
    by_cases c : lv + (m + tSpN k' (.inner t k v l r : tT)) ≤ rm
    · obtain ⟨F, hF⟩ := h c
      rw [show (stk ++ [(false, k', v', tHi st k' (.inner t k v l r : tT), r')]).length = stk.length + 1 by simp] at hF
      exact ⟨F, fun _ => hF⟩
    · exact ⟨0, fun z => absurd z c⟩
  obtain ⟨F, hF⟩ := h'
  refine ⟨F + 200, fun S' l0 a b g N hl hm hsd h57 hus hA hB => ?_⟩
  have full0 : S'.1 0 34 = 0 := hm.2.2.2.2.1
  have hA0 := hA
  have hB0 := hB
  obtain ⟨i, i1, i2, rfl, i4, i5, i6, i7⟩ := yV_cells hA
  obtain ⟨j, j1, j2, rfl, j4, j5, j6, j7⟩ := yV_cells hB
  have ei : (nI i).toNatClampNeg = i := nI_clamp (by omega)
  have ej : (nI j).toNatClampNeg = j := nI_clamp (by omega)
  have vi : vp_in (nI i) 900 := vp_in_nI (by omega) (by decide)
  have vj : vp_in (nI j) 900 := vp_in_nI (by omega) (by decide)
  have ec : (nI stk.length).toNatClampNeg = stk.length := nI_clamp (by omega)
  have vx : vp_in (nI stk.length) 900 := vp_in_nI (by omega) (by decide)
  have n0i : ¬ nI i = 0 := nI_ne0 (by omega) (by omega)
  have n0j : ¬ nI j = 0 := nI_ne0 (by omega) (by omega)
  have o1 : ¬ (1 : Int32) = 0 := by decide
  obtain ⟨l0a, l03, l04, l05, l06, l07⟩ := hl
  refine ws_aload_n rfl (l0a) rfl (ws_getz rfl rfl (rfl) rfl (ws_i rfl ⟨fun z => absurd full0 z, fun _ => ?_⟩))
  refine ws_iload rfl (l07) rfl (ws_i rfl ⟨fun _ => ?_, fun z => absurd z o1⟩)
  refine ws_iload rfl (l07) rfl (ws_i rfl ⟨fun z => absurd z o1, fun _ => ?_⟩)
  refine ws_iload rfl (l04) rfl (ws_i rfl ⟨fun z => absurd z n0i, fun _ => ?_⟩)
  refine ws_iload rfl (l05) rfl (ws_i rfl ⟨fun _ => ?_, fun z => absurd z n0j⟩)
  refine ws_iload rfl (l07) rfl (ws_i rfl ⟨fun z => absurd z o1, fun _ => ?_⟩)
  refine ws_aload_n rfl (l0a) rfl (ws_iload rfl (l05) rfl (ws_iv rfl rfl rfl ?_))
  refine y_rankOf (sd := sd) (by omega) j4 hsd ?_
  refine ws_aload_n rfl (l0a) rfl (ws_iload rfl (l04) rfl (ws_iv rfl rfl rfl ?_))
  refine y_rankOf (sd := sd) (by omega) i4 hsd ?_
  refine ws_i rfl ⟨fun z => absurd z (Int32.not_lt.mpr hr), fun _ => ?_⟩
  refine ws_iconst (x := 1) rfl rfl rfl (ws_goto (t := 95) rfl (by decide) (ws_istore rfl rfl rfl rfl (ws_iload rfl (mv_at_me) rfl (ws_i rfl ⟨fun z => absurd z o1, fun _ => ?_⟩))))
  refine ws_iload rfl (mv_at_sv (by decide) (l05)) rfl (ws_goto (t := 109) rfl (by decide) (ws_istore rfl rfl rfl rfl (ws_aload_n rfl (mv_at_sr (by decide) (mv_at_sr (by decide) (l0a))) rfl (ws_iload rfl (mv_at_sv (by decide) (mv_at_sv (by decide) (l05))) rfl (ws_aload_n rfl (mv_at_sr (by decide) (mv_at_sr (by decide) (l0a))) rfl (ws_getr rfl rfl rfl (ws_iload rfl (mv_at_me) rfl (ws_i rfl ⟨vj, ?_⟩))))))))
  rw [ej, j4]
  refine ws_iv rfl rfl rfl ?_
  obtain ⟨cf, hcf, hcf2⟩ := y_fnd (k := k') (n := 801) (by omega) hB0.1
  refine mv_deep (d := d + 1) (by omega) (y_find hcf ?_)
  refine ws_istore rfl rfl rfl rfl (ws_aload_n rfl (mv_at_sr (by decide) (mv_at_sr (by decide) (mv_at_sr (by decide) (l0a)))) rfl (ws_getr rfl rfl rfl (ws_iload_n rfl (mv_at_sv (by decide) (mv_at_sv (by decide) (mv_at_sv (by decide) (l03)))) rfl (ws_aload_n rfl (mv_at_sr (by decide) (mv_at_sr (by decide) (mv_at_sr (by decide) (l0a)))) rfl (ws_getr rfl rfl rfl (ws_iload rfl (mv_at_sv (by decide) (mv_at_me)) rfl (ws_i rfl ⟨vj, ?_⟩)))))))
  rw [ej, j4]
  refine ws_i rfl ⟨vx, ?_⟩
  rw [ec]
  refine ?_
  have hcf3 : yTr S' (ySig S0 σ st) (.inner t' k' v' l' r') cf := by rw [tFnd, if_pos rfl] at hcf2; exact hcf2
  obtain ⟨f, f1, f2, rfl, _, f4, f5, _, _⟩ := hcf3
  have ef : (nI f).toNatClampNeg = f := nI_clamp (by omega)
  have vf : vp_in (nI f) 900 := vp_in_nI (by omega) (by decide)
  have npf : ¬ nI f ≤ 0 := nI_nle (by omega) (by omega)
  refine ws_aload_n rfl (mv_at_sr (by decide) (mv_at_sr (by decide) (mv_at_sr (by decide) (l0a)))) rfl (ws_getr rfl rfl rfl (ws_iload_n rfl (mv_at_sv (by decide) (mv_at_sv (by decide) (mv_at_sv (by decide) (l03)))) rfl (ws_iload rfl (mv_at_me) rfl (ws_i rfl ⟨fun z => absurd z npf, fun _ => ?_⟩))))
  refine ws_aload_n rfl (mv_at_sr (by decide) (mv_at_sr (by decide) (mv_at_sr (by decide) (l0a)))) rfl (ws_getr rfl rfl rfl (ws_iload rfl (mv_at_me) rfl (ws_i rfl ⟨vf, ?_⟩)))
  rw [ef, show (mv_pr S' 31 stk.length k').2.1 14 f = v' by rw [pr_get, if_neg (by omega)]; exact f5]
  refine ws_goto (t := 166) rfl (by decide) (ws_i rfl ⟨vx, ?_⟩)
  rw [ec]
  refine ws_aload_n rfl (mv_at_sr (by decide) (mv_at_sr (by decide) (mv_at_sr (by decide) (l0a)))) rfl (ws_getr rfl rfl rfl (ws_iload_n rfl (mv_at_sv (by decide) (mv_at_sv (by decide) (mv_at_sv (by decide) (l03)))) rfl (ws_iconst (x := 0) rfl rfl rfl (ws_i rfl ⟨Or.inl rfl, vx, ?_⟩))))
  rw [ec]
  refine ?_
  obtain ⟨S2, hS2⟩ : ∃ S2, S2 = mv_pr (mv_pr (mv_pr S' 31 stk.length k') 32 stk.length v') 36 stk.length 0 := ⟨_, rfl⟩
  rw [← hS2]
  have ws2 : yWs S' S2 := by rw [hS2]; exact yWs_trans (yWs_pr (by decide)) (yWs_trans (yWs_pr (by decide)) (yWs_pr (by decide)))
  have r2 : ∀ o a, S2.2.1 o a = if o = 36 ∧ a = stk.length then 0 else if o = 32 ∧ a = stk.length then v' else if o = 31 ∧ a = stk.length then k' else S'.2.1 o a := fun o a => by rw [hS2, pr_get, pr_get, pr_get]
  have f2' : ∀ o f, S2.1 o f = S'.1 o f := fun o f => by rw [hS2]; rfl
  have kq : S2.2.1 13 j = k' := by rw [ws2.2.1 13 j (by decide)]; exact j4
  refine ws_aload_n rfl (mv_at_sr (by decide) (mv_at_sr (by decide) (mv_at_sr (by decide) (l0a)))) rfl (ws_iload rfl (mv_at_sv (by decide) (mv_at_sv (by decide) (mv_at_me))) rfl (ws_i rfl ⟨fun z => absurd z o1, fun _ => ?_⟩))
  refine ws_iload rfl (mv_at_sv (by decide) (mv_at_sv (by decide) (mv_at_sv (by decide) (l04)))) rfl (ws_goto (t := 187) rfl (by decide) (ws_aload_n rfl (mv_at_sr (by decide) (mv_at_sr (by decide) (mv_at_sr (by decide) (l0a)))) rfl (ws_getr rfl rfl rfl (ws_iload rfl (mv_at_sv (by decide) (mv_at_me)) rfl (ws_i rfl ⟨vj, ?_⟩)))))
  rw [ej, kq]
  refine ws_iv rfl rfl rfl ?_
  have tail : ∀ (S3 : mv_S), (∀ S4 l4, S4 = mv_pr (mv_pr S3 33 stk.length (S3.1 0 59)) 34 stk.length (S3.2.1 16 j) → yUL l4 (nI (stk.length + 1)) (S3.1 0 58) (S3.2.1 15 j) g 1 → yUw P d (F + 10) 19 l4 S4) → yUw P d (F + 80) 197 (mv_sv 10 (.int (nI f)) (mv_sv 9 (.int (nI j)) (mv_sv 8 (.int 1) l0))) S3 := by
    intro S3 hgo
    refine ws_aload_n rfl (mv_at_sr (by decide) (mv_at_sr (by decide) (mv_at_sr (by decide) (l0a)))) rfl (ws_getr rfl rfl rfl (ws_iload_n rfl (mv_at_sv (by decide) (mv_at_sv (by decide) (mv_at_sv (by decide) (l03)))) rfl (ws_iload rfl (mv_at_sv (by decide) (mv_at_sv (by decide) (mv_at_me))) rfl (ws_i rfl ⟨fun z => absurd z o1, fun _ => ?_⟩))))
    refine ws_aload_n rfl (mv_at_sr (by decide) (mv_at_sr (by decide) (mv_at_sr (by decide) (l0a)))) rfl (ws_geti rfl rfl (rfl) rfl (ws_goto (t := 221) rfl (by decide) (ws_i rfl ⟨vx, ?_⟩)))
    rw [ec]
    refine ?_
    obtain ⟨Sa, hSa⟩ : ∃ Sa, Sa = mv_pr S3 33 stk.length (S3.1 0 59) := ⟨_, rfl⟩
    rw [← hSa]
    have ra : ∀ o a, Sa.2.1 o a = if o = 33 ∧ a = stk.length then (S3.1 0 59) else S3.2.1 o a := fun o a => by rw [hSa, pr_get]
    have fa : ∀ o f, Sa.1 o f = S3.1 o f := fun o f => by rw [hSa]; rfl
    refine ws_aload_n rfl (mv_at_sr (by decide) (mv_at_sr (by decide) (mv_at_sr (by decide) (l0a)))) rfl (ws_getr rfl rfl rfl (ws_iload_n rfl (mv_at_sv (by decide) (mv_at_sv (by decide) (mv_at_sv (by decide) (l03)))) rfl (ws_iload rfl (mv_at_sv (by decide) (mv_at_sv (by decide) (mv_at_me))) rfl (ws_i rfl ⟨fun z => absurd z o1, fun _ => ?_⟩))))
    refine ws_aload_n rfl (mv_at_sr (by decide) (mv_at_sr (by decide) (mv_at_sr (by decide) (l0a)))) rfl (ws_getr rfl rfl rfl (ws_iload rfl (mv_at_sv (by decide) (mv_at_me)) rfl (ws_i rfl ⟨vj, ?_⟩)))
    rw [ej, ra 16 j, if_neg (by omega)]
    refine ws_goto (t := 246) rfl (by decide) (ws_i rfl ⟨vx, ?_⟩)
    rw [ec]
    refine ?_
    obtain ⟨Sb, hSb⟩ : ∃ Sb, Sb = mv_pr Sa 34 stk.length (S3.2.1 16 j) := ⟨_, rfl⟩
    rw [← hSb]
    have rb : ∀ o a, Sb.2.1 o a = if o = 34 ∧ a = stk.length then (S3.2.1 16 j) else Sa.2.1 o a := fun o a => by rw [hSb, pr_get]
    have fb : ∀ o f, Sb.1 o f = S3.1 o f := fun o f => by rw [hSb]; exact fa o f
    refine ws_iload rfl (mv_at_sv (by decide) (mv_at_sv (by decide) (mv_at_me))) rfl (ws_i rfl ⟨fun z => absurd z o1, fun _ => ?_⟩)
    refine ws_aload_n rfl (mv_at_sr (by decide) (mv_at_sr (by decide) (mv_at_sr (by decide) (l0a)))) rfl (ws_geti rfl rfl (fb 0 58) rfl (ws_goto (t := 266) rfl (by decide) (ws_istore rfl rfl rfl rfl (ws_iload rfl (mv_at_sv (by decide) (mv_at_sv (by decide) (mv_at_sv (by decide) (mv_at_me)))) rfl (ws_i rfl ⟨fun z => absurd z o1, fun _ => ?_⟩)))))
    refine ws_aload_n rfl (mv_at_sr (by decide) (mv_at_sr (by decide) (mv_at_sr (by decide) (mv_at_sr (by decide) (l0a))))) rfl (ws_getr rfl rfl rfl (ws_iload rfl (mv_at_sv (by decide) (mv_at_sv (by decide) (mv_at_me))) rfl (ws_i rfl ⟨vj, ?_⟩)))
    rw [ej, rb 15 j, if_neg (by omega), ra 15 j, if_neg (by omega)]
    refine ws_goto (t := 287) rfl (by decide) (ws_istore rfl rfl rfl rfl (ws_iinc (y := nI (stk.length + 1)) rfl (mv_at_sv (by decide) (mv_at_sv (by decide) (mv_at_sv (by decide) (mv_at_sv (by decide) (mv_at_sv (by decide) (l03)))))) rfl ((nI_succ stk.length).symm) rfl rfl (ws_goto (t := 19) rfl (by decide) (?_))))
    exact mv_fuel (n := F + 10) (by omega) (hgo Sb _ (by rw [hSb, hSa]) ⟨mv_at_sr (by decide) (mv_at_sr (by decide) (mv_at_sr (by decide) (mv_at_sr (by decide) (mv_at_sr (by decide) (mv_at_sr (by decide) (l0a)))))), mv_at_me, mv_at_sv (by decide) (mv_at_sv (by decide) (mv_at_me)), mv_at_sv (by decide) (mv_at_me), mv_at_sv (by decide) (mv_at_sv (by decide) (mv_at_sv (by decide) (mv_at_sv (by decide) (mv_at_sv (by decide) (mv_at_sv (by decide) (l06)))))), mv_at_sv (by decide) (mv_at_sv (by decide) (mv_at_sv (by decide) (mv_at_sv (by decide) (mv_at_sv (by decide) (mv_at_sv (by decide) (l07))))))⟩)
  have m2 := yMk_ws hm ws2
  refine y_split (w := 0) (T := (.inner t k v l r : tT)) m2 (yV_ws hA0 ws2) (by rw [f2']; exact h57) (by omega) (fun hlt S3 g3 => ?_) (fun hle S3 N3 g3 => ?_)
  · refine mv_fuel (n := F + 80) (by omega) (tail S3 (fun S4 l4 e4 u4 => ?_))
    have g4 : yFull S0 S4 lv rm 401 := by rw [e4]; exact yFull_ws g3.1 (yWs_trans (yWs_pr (by decide)) (yWs_pr (by decide)))
    have nf : ¬ S4.1 0 34 = 0 := by rw [g4.2.2.2.2.1]; decide
    refine ws_aload_n rfl u4.1 rfl (ws_getz rfl rfl rfl rfl (ws_i rfl ⟨fun _ => ?_, fun z => absurd z nf⟩))
    exact ws_iload rfl u4.2.2.2.2.1 rfl (ws_i rfl (hf hlt g S4 g4))
  · refine mv_fuel (n := F + 80) (by omega) (tail S3 (fun S4 l4 e4 u4 => mv_fuel (n := F) (by omega) ?_))
    obtain ⟨⟨q1, q2, q3, q4, q5, q6, q7⟩, _⟩ := g3
    have ws4 : yWs S3 S4 := by rw [e4]; exact yWs_trans (yWs_pr (by decide)) (yWs_pr (by decide))
    have mono4 : ∀ T c, yV S0 S' σ st N T c → yV S0 S4 σ st N3 T c := fun T c z => yV_ws (q3 T c (yV_ws z ws2)) ws4
    have r4 : ∀ o a, S4.2.1 o a = if o = 34 ∧ a = stk.length then (S3.2.1 16 j) else if o = 33 ∧ a = stk.length then (S3.1 0 59) else S3.2.1 o a := fun o a => by rw [e4, pr_get, pr_get]
    have f4 : ∀ o f, S4.1 o f = S3.1 o f := fun o f => by rw [e4]; rfl
    have hQ := q3 _ _ (yV_ws hB0 ws2)
    obtain ⟨i', a1, a2, a3, a4, a5, a6, a7⟩ := yV_cells hQ
    obtain rfl : j = i' := by
      have := congrArg Int32.toNatClampNeg a3
      rw [nI_clamp (by omega), nI_clamp (by omega)] at this
      exact this
    have sd3 : S3.1 0 35 = sd := by
      have e1 := q1.1.1 0 35 (by decide)
      have e2 := hm.1.1 0 35 (by decide)
      rw [e1, ← e2]; exact hsd
    refine hF hle S4 l4 _ _ g N3 u4 (yMk_ws q1 ws4) (by rw [f4]; exact sd3) (by rw [f4]; exact q6) ?_ ?_ ?_
    · intro n b' k1 v1 X1 Y1 hi
      by_cases c : n < stk.length
      · rw [List.getElem?_append_left c] at hi
        obtain ⟨g1, g2, g3, g4, g5⟩ := hus n b' k1 v1 X1 Y1 hi
        have rq : ∀ o, 31 ≤ o → o ≤ 36 → S4.2.1 o n = S'.2.1 o n := fun o o1 o2 => by
          rw [r4, if_neg (by omega), if_neg (by omega), q7 o n o1 o2, r2, if_neg (by omega), if_neg (by omega), if_neg (by omega)]
        rw [rq 31 (by decide) (by decide), rq 32 (by decide) (by decide), rq 33 (by decide) (by decide), rq 34 (by decide) (by decide), rq 35 (by decide) (by decide), rq 36 (by decide) (by decide)]
        exact ⟨g1, g2, g3, fun z => ⟨mono4 _ _ (g4 z).1, mono4 _ _ (g4 z).2⟩, fun z => mono4 _ _ (g5 z)⟩
      · have hlt := (List.getElem?_eq_some_iff.mp hi).1
        simp at hlt
        have en : n = stk.length := by omega
        subst en
        rw [stk_last] at hi
        simp only [Option.some.injEq, Prod.mk.injEq] at hi
        obtain ⟨rfl, rfl, rfl, rfl, rfl⟩ := hi
        refine ⟨?_, ?_, ?_, fun _ => ⟨?_, ?_⟩, fun z => by cases z⟩
        · rw [r4, if_neg (by omega), if_neg (by omega), q7 31 _ (by decide) (by decide), r2, if_neg (by omega), if_neg (by omega), if_pos ⟨rfl, rfl⟩]
        · rw [r4, if_neg (by omega), if_neg (by omega), q7 32 _ (by decide) (by decide), r2, if_neg (by omega), if_pos ⟨rfl, rfl⟩]
        · rw [r4, if_neg (by omega), if_neg (by omega), q7 36 _ (by decide) (by decide), r2, if_pos ⟨rfl, rfl⟩]; rfl
        · rw [r4, if_neg (by omega), if_pos ⟨rfl, rfl⟩]; exact yV_ws q5 ws4
        · rw [r4, if_pos ⟨rfl, rfl⟩]; exact yV_ws a7 ws4
    · exact yV_ws q4 ws4
    · exact yV_ws a6 ws4
set_option maxHeartbeats 1000000 in
set_option maxRecDepth 8000 in
theorem yU_down2 {sd k v k' v' : Int32} {t t' : Nat} {l r l' r' : tT} {stk : List (Bool × Int32 × Int32 × tT × tT)} (hn : stk.length ≤ 890) (hr : xRank sd k' < xRank sd k) (hs : tN (.inner t k v l r : tT) ≤ 800) (hs2 : tN (.inner t' k' v' l' r' : tT) ≤ 800) (hno : tFnd k (.inner t' k' v' l' r' : tT) = .leaf)
    (hf : rm < lv + (m + tSpN k (.inner t' k' v' l' r' : tT)) → ∀ x S', yFull S0 S' lv rm 401 → P (some (.int x)) S')
    (h : lv + (m + tSpN k (.inner t' k' v' l' r' : tT)) ≤ rm → yUd P d S0 σ st lv rm (m + tSpN k (.inner t' k' v' l' r' : tT)) sd (stk ++ [(false, k, v, r, tHi st k (.inner t' k' v' l' r' : tT))]) (l) (tLo st k (.inner t' k' v' l' r' : tT))) : yUd P d S0 σ st lv rm m sd stk (.inner t k v l r : tT) (.inner t' k' v' l' r' : tT) := by
  have h' : ∃ F, lv + (m + tSpN k (.inner t' k' v' l' r' : tT)) ≤ rm → ∀ S' l0 a b g N, yUL l0 (nI (stk.length + 1)) a b g 1 → yMk S0 S' lv rm (m + tSpN k (.inner t' k' v' l' r' : tT)) N → S'.1 0 35 = sd → S'.1 0 57 = 0 → yUs S0 S' σ st N (stk ++ [(false, k, v, r, tHi st k (.inner t' k' v' l' r' : tT))]) → yV S0 S' σ st N (l) a → yV S0 S' σ st N (tLo st k (.inner t' k' v' l' r' : tT)) b → yUw P d F 19 l0 S' := by
    by_cases c : lv + (m + tSpN k (.inner t' k' v' l' r' : tT)) ≤ rm
    · obtain ⟨F, hF⟩ := h c
      rw [show (stk ++ [(false, k, v, r, tHi st k (.inner t' k' v' l' r' : tT))]).length = stk.length + 1 by simp] at hF
      exact ⟨F, fun _ => hF⟩
    · exact ⟨0, fun z => absurd z c⟩
  obtain ⟨F, hF⟩ := h'
  refine ⟨F + 200, fun S' l0 a b g N hl hm hsd h57 hus hA hB => ?_⟩
  have full0 : S'.1 0 34 = 0 := hm.2.2.2.2.1
  have hA0 := hA
  have hB0 := hB
  obtain ⟨i, i1, i2, rfl, i4, i5, i6, i7⟩ := yV_cells hA
  obtain ⟨j, j1, j2, rfl, j4, j5, j6, j7⟩ := yV_cells hB
  have ei : (nI i).toNatClampNeg = i := nI_clamp (by omega)
  have ej : (nI j).toNatClampNeg = j := nI_clamp (by omega)
  have vi : vp_in (nI i) 900 := vp_in_nI (by omega) (by decide)
  have vj : vp_in (nI j) 900 := vp_in_nI (by omega) (by decide)
  have ec : (nI stk.length).toNatClampNeg = stk.length := nI_clamp (by omega)
  have vx : vp_in (nI stk.length) 900 := vp_in_nI (by omega) (by decide)
  have n0i : ¬ nI i = 0 := nI_ne0 (by omega) (by omega)
  have n0j : ¬ nI j = 0 := nI_ne0 (by omega) (by omega)
  have o1 : ¬ (1 : Int32) = 0 := by decide
  obtain ⟨l0a, l03, l04, l05, l06, l07⟩ := hl
  refine ws_aload_n rfl (l0a) rfl (ws_getz rfl rfl (rfl) rfl (ws_i rfl ⟨fun z => absurd full0 z, fun _ => ?_⟩))
  refine ws_iload rfl (l07) rfl (ws_i rfl ⟨fun _ => ?_, fun z => absurd z o1⟩)
  refine ws_iload rfl (l07) rfl (ws_i rfl ⟨fun z => absurd z o1, fun _ => ?_⟩)
  refine ws_iload rfl (l04) rfl (ws_i rfl ⟨fun z => absurd z n0i, fun _ => ?_⟩)
  refine ws_iload rfl (l05) rfl (ws_i rfl ⟨fun _ => ?_, fun z => absurd z n0j⟩)
  refine ws_iload rfl (l07) rfl (ws_i rfl ⟨fun z => absurd z o1, fun _ => ?_⟩)
  refine ws_aload_n rfl (l0a) rfl (ws_iload rfl (l05) rfl (ws_iv rfl rfl rfl ?_))
  refine y_rankOf (sd := sd) (by omega) j4 hsd ?_
  refine ws_aload_n rfl (l0a) rfl (ws_iload rfl (l04) rfl (ws_iv rfl rfl rfl ?_))
  refine y_rankOf (sd := sd) (by omega) i4 hsd ?_
  refine ws_i rfl ⟨fun _ => ?_, fun z => absurd hr z⟩
  refine ws_iconst (x := 0) rfl rfl rfl (ws_istore rfl rfl rfl rfl (ws_iload rfl (mv_at_me) rfl (ws_i rfl ⟨fun _ => ?_, fun z => absurd rfl z⟩)))
  refine ws_iload rfl (mv_at_sv (by decide) (l04)) rfl (ws_istore rfl rfl rfl rfl (ws_aload_n rfl (mv_at_sr (by decide) (mv_at_sr (by decide) (l0a))) rfl (ws_iload rfl (mv_at_sv (by decide) (mv_at_sv (by decide) (l05))) rfl (ws_aload_n rfl (mv_at_sr (by decide) (mv_at_sr (by decide) (l0a))) rfl (ws_getr rfl rfl rfl (ws_iload rfl (mv_at_me) rfl (ws_i rfl ⟨vi, ?_⟩)))))))
  rw [ei, i4]
  refine ws_iv rfl rfl rfl ?_
  obtain ⟨cf, hcf, hcf2⟩ := y_fnd (k := k) (n := 801) (by omega) hB0.1
  refine mv_deep (d := d + 1) (by omega) (y_find hcf ?_)
  refine ws_istore rfl rfl rfl rfl (ws_aload_n rfl (mv_at_sr (by decide) (mv_at_sr (by decide) (mv_at_sr (by decide) (l0a)))) rfl (ws_getr rfl rfl rfl (ws_iload_n rfl (mv_at_sv (by decide) (mv_at_sv (by decide) (mv_at_sv (by decide) (l03)))) rfl (ws_aload_n rfl (mv_at_sr (by decide) (mv_at_sr (by decide) (mv_at_sr (by decide) (l0a)))) rfl (ws_getr rfl rfl rfl (ws_iload rfl (mv_at_sv (by decide) (mv_at_me)) rfl (ws_i rfl ⟨vi, ?_⟩)))))))
  rw [ei, i4]
  refine ws_i rfl ⟨vx, ?_⟩
  rw [ec]
  refine ?_
  have cf0 : cf = 0 := by rw [hno] at hcf2; exact hcf2
  subst cf0
  refine ws_aload_n rfl (mv_at_sr (by decide) (mv_at_sr (by decide) (mv_at_sr (by decide) (l0a)))) rfl (ws_getr rfl rfl rfl (ws_iload_n rfl (mv_at_sv (by decide) (mv_at_sv (by decide) (mv_at_sv (by decide) (l03)))) rfl (ws_iload rfl (mv_at_me) rfl (ws_i rfl ⟨fun _ => ?_, fun z => absurd (show (0 : Int32) ≤ 0 by decide) z⟩))))
  refine ws_aload_n rfl (mv_at_sr (by decide) (mv_at_sr (by decide) (mv_at_sr (by decide) (l0a)))) rfl (ws_getr rfl rfl rfl (ws_iload rfl (mv_at_sv (by decide) (mv_at_me)) rfl (ws_i rfl ⟨vi, ?_⟩)))
  rw [ei, show (mv_pr S' 31 stk.length k).2.1 14 i = v by rw [pr_get, if_neg (by omega)]; exact i5]
  refine ws_i rfl ⟨vx, ?_⟩
  rw [ec]
  refine ws_aload_n rfl (mv_at_sr (by decide) (mv_at_sr (by decide) (mv_at_sr (by decide) (l0a)))) rfl (ws_getr rfl rfl rfl (ws_iload_n rfl (mv_at_sv (by decide) (mv_at_sv (by decide) (mv_at_sv (by decide) (l03)))) rfl (ws_iconst (x := 0) rfl rfl rfl (ws_i rfl ⟨Or.inl rfl, vx, ?_⟩))))
  rw [ec]
  refine ?_
  obtain ⟨S2, hS2⟩ : ∃ S2, S2 = mv_pr (mv_pr (mv_pr S' 31 stk.length k) 32 stk.length v) 36 stk.length 0 := ⟨_, rfl⟩
  rw [← hS2]
  have ws2 : yWs S' S2 := by rw [hS2]; exact yWs_trans (yWs_pr (by decide)) (yWs_trans (yWs_pr (by decide)) (yWs_pr (by decide)))
  have r2 : ∀ o a, S2.2.1 o a = if o = 36 ∧ a = stk.length then 0 else if o = 32 ∧ a = stk.length then v else if o = 31 ∧ a = stk.length then k else S'.2.1 o a := fun o a => by rw [hS2, pr_get, pr_get, pr_get]
  have f2' : ∀ o f, S2.1 o f = S'.1 o f := fun o f => by rw [hS2]; rfl
  have kq : S2.2.1 13 i = k := by rw [ws2.2.1 13 i (by decide)]; exact i4
  refine ws_aload_n rfl (mv_at_sr (by decide) (mv_at_sr (by decide) (mv_at_sr (by decide) (l0a)))) rfl (ws_iload rfl (mv_at_sv (by decide) (mv_at_sv (by decide) (mv_at_me))) rfl (ws_i rfl ⟨fun _ => ?_, fun z => absurd rfl z⟩))
  refine ws_iload rfl (mv_at_sv (by decide) (mv_at_sv (by decide) (mv_at_sv (by decide) (l05)))) rfl (ws_aload_n rfl (mv_at_sr (by decide) (mv_at_sr (by decide) (mv_at_sr (by decide) (l0a)))) rfl (ws_getr rfl rfl rfl (ws_iload rfl (mv_at_sv (by decide) (mv_at_me)) rfl (ws_i rfl ⟨vi, ?_⟩))))
  rw [ei, kq]
  refine ws_iv rfl rfl rfl ?_
  have tail : ∀ (S3 : mv_S), (∀ S4 l4, S4 = mv_pr (mv_pr S3 33 stk.length (S3.2.1 16 i)) 34 stk.length (S3.1 0 59) → yUL l4 (nI (stk.length + 1)) (S3.2.1 15 i) (S3.1 0 58) g 1 → yUw P d (F + 10) 19 l4 S4) → yUw P d (F + 80) 197 (mv_sv 10 (.int 0) (mv_sv 9 (.int (nI i)) (mv_sv 8 (.int 0) l0))) S3 := by
    intro S3 hgo
    refine ws_aload_n rfl (mv_at_sr (by decide) (mv_at_sr (by decide) (mv_at_sr (by decide) (l0a)))) rfl (ws_getr rfl rfl rfl (ws_iload_n rfl (mv_at_sv (by decide) (mv_at_sv (by decide) (mv_at_sv (by decide) (l03)))) rfl (ws_iload rfl (mv_at_sv (by decide) (mv_at_sv (by decide) (mv_at_me))) rfl (ws_i rfl ⟨fun _ => ?_, fun z => absurd rfl z⟩))))
    refine ws_aload_n rfl (mv_at_sr (by decide) (mv_at_sr (by decide) (mv_at_sr (by decide) (l0a)))) rfl (ws_getr rfl rfl rfl (ws_iload rfl (mv_at_sv (by decide) (mv_at_me)) rfl (ws_i rfl ⟨vi, ?_⟩)))
    rw [ei]
    refine ws_i rfl ⟨vx, ?_⟩
    rw [ec]
    refine ?_
    obtain ⟨Sa, hSa⟩ : ∃ Sa, Sa = mv_pr S3 33 stk.length (S3.2.1 16 i) := ⟨_, rfl⟩
    rw [← hSa]
    have ra : ∀ o a, Sa.2.1 o a = if o = 33 ∧ a = stk.length then (S3.2.1 16 i) else S3.2.1 o a := fun o a => by rw [hSa, pr_get]
    have fa : ∀ o f, Sa.1 o f = S3.1 o f := fun o f => by rw [hSa]; rfl
    refine ws_aload_n rfl (mv_at_sr (by decide) (mv_at_sr (by decide) (mv_at_sr (by decide) (l0a)))) rfl (ws_getr rfl rfl rfl (ws_iload_n rfl (mv_at_sv (by decide) (mv_at_sv (by decide) (mv_at_sv (by decide) (l03)))) rfl (ws_iload rfl (mv_at_sv (by decide) (mv_at_sv (by decide) (mv_at_me))) rfl (ws_i rfl ⟨fun _ => ?_, fun z => absurd rfl z⟩))))
    refine ws_aload_n rfl (mv_at_sr (by decide) (mv_at_sr (by decide) (mv_at_sr (by decide) (l0a)))) rfl (ws_geti rfl rfl (fa 0 59) rfl (ws_i rfl ⟨vx, ?_⟩))
    rw [ec]
    refine ?_
    obtain ⟨Sb, hSb⟩ : ∃ Sb, Sb = mv_pr Sa 34 stk.length (S3.1 0 59) := ⟨_, rfl⟩
    rw [← hSb]
    have rb : ∀ o a, Sb.2.1 o a = if o = 34 ∧ a = stk.length then (S3.1 0 59) else Sa.2.1 o a := fun o a => by rw [hSb, pr_get]
    have fb : ∀ o f, Sb.1 o f = S3.1 o f := fun o f => by rw [hSb]; exact fa o f
    refine ws_iload rfl (mv_at_sv (by decide) (mv_at_sv (by decide) (mv_at_me))) rfl (ws_i rfl ⟨fun _ => ?_, fun z => absurd rfl z⟩)
    refine ws_aload_n rfl (mv_at_sr (by decide) (mv_at_sr (by decide) (mv_at_sr (by decide) (l0a)))) rfl (ws_getr rfl rfl rfl (ws_iload rfl (mv_at_sv (by decide) (mv_at_me)) rfl (ws_i rfl ⟨vi, ?_⟩)))
    rw [ei, rb 15 i, if_neg (by omega), ra 15 i, if_neg (by omega)]
    refine ws_istore rfl rfl rfl rfl (ws_iload rfl (mv_at_sv (by decide) (mv_at_sv (by decide) (mv_at_sv (by decide) (mv_at_me)))) rfl (ws_i rfl ⟨fun _ => ?_, fun z => absurd rfl z⟩))
    refine ws_aload_n rfl (mv_at_sr (by decide) (mv_at_sr (by decide) (mv_at_sr (by decide) (mv_at_sr (by decide) (l0a))))) rfl (ws_geti rfl rfl (fb 0 58) rfl (ws_istore rfl rfl rfl rfl (ws_iinc (y := nI (stk.length + 1)) rfl (mv_at_sv (by decide) (mv_at_sv (by decide) (mv_at_sv (by decide) (mv_at_sv (by decide) (mv_at_sv (by decide) (l03)))))) rfl ((nI_succ stk.length).symm) rfl rfl (ws_goto (t := 19) rfl (by decide) (?_)))))
    exact mv_fuel (n := F + 10) (by omega) (hgo Sb _ (by rw [hSb, hSa]) ⟨mv_at_sr (by decide) (mv_at_sr (by decide) (mv_at_sr (by decide) (mv_at_sr (by decide) (mv_at_sr (by decide) (mv_at_sr (by decide) (l0a)))))), mv_at_me, mv_at_sv (by decide) (mv_at_sv (by decide) (mv_at_me)), mv_at_sv (by decide) (mv_at_me), mv_at_sv (by decide) (mv_at_sv (by decide) (mv_at_sv (by decide) (mv_at_sv (by decide) (mv_at_sv (by decide) (mv_at_sv (by decide) (l06)))))), mv_at_sv (by decide) (mv_at_sv (by decide) (mv_at_sv (by decide) (mv_at_sv (by decide) (mv_at_sv (by decide) (mv_at_sv (by decide) (l07))))))⟩)
  have m2 := yMk_ws hm ws2
  refine y_split (w := 0) (T := (.inner t' k' v' l' r' : tT)) m2 (yV_ws hB0 ws2) (by rw [f2']; exact h57) (by omega) (fun hlt S3 g3 => ?_) (fun hle S3 N3 g3 => ?_)
  · refine mv_fuel (n := F + 80) (by omega) (tail S3 (fun S4 l4 e4 u4 => ?_))
    have g4 : yFull S0 S4 lv rm 401 := by rw [e4]; exact yFull_ws g3.1 (yWs_trans (yWs_pr (by decide)) (yWs_pr (by decide)))
    have nf : ¬ S4.1 0 34 = 0 := by rw [g4.2.2.2.2.1]; decide
    refine ws_aload_n rfl u4.1 rfl (ws_getz rfl rfl rfl rfl (ws_i rfl ⟨fun _ => ?_, fun z => absurd z nf⟩))
    exact ws_iload rfl u4.2.2.2.2.1 rfl (ws_i rfl (hf hlt g S4 g4))
  · refine mv_fuel (n := F + 80) (by omega) (tail S3 (fun S4 l4 e4 u4 => mv_fuel (n := F) (by omega) ?_))
    obtain ⟨⟨q1, q2, q3, q4, q5, q6, q7⟩, _⟩ := g3
    have ws4 : yWs S3 S4 := by rw [e4]; exact yWs_trans (yWs_pr (by decide)) (yWs_pr (by decide))
    have mono4 : ∀ T c, yV S0 S' σ st N T c → yV S0 S4 σ st N3 T c := fun T c z => yV_ws (q3 T c (yV_ws z ws2)) ws4
    have r4 : ∀ o a, S4.2.1 o a = if o = 34 ∧ a = stk.length then (S3.1 0 59) else if o = 33 ∧ a = stk.length then (S3.2.1 16 i) else S3.2.1 o a := fun o a => by rw [e4, pr_get, pr_get]
    have f4 : ∀ o f, S4.1 o f = S3.1 o f := fun o f => by rw [e4]; rfl
    have hQ := q3 _ _ (yV_ws hA0 ws2)
    obtain ⟨i', a1, a2, a3, a4, a5, a6, a7⟩ := yV_cells hQ
    obtain rfl : i = i' := by
      have := congrArg Int32.toNatClampNeg a3
      rw [nI_clamp (by omega), nI_clamp (by omega)] at this
      exact this
    have sd3 : S3.1 0 35 = sd := by
      have e1 := q1.1.1 0 35 (by decide)
      have e2 := hm.1.1 0 35 (by decide)
      rw [e1, ← e2]; exact hsd
    refine hF hle S4 l4 _ _ g N3 u4 (yMk_ws q1 ws4) (by rw [f4]; exact sd3) (by rw [f4]; exact q6) ?_ ?_ ?_
    · intro n b' k1 v1 X1 Y1 hi
      by_cases c : n < stk.length
      · rw [List.getElem?_append_left c] at hi
        obtain ⟨g1, g2, g3, g4, g5⟩ := hus n b' k1 v1 X1 Y1 hi
        have rq : ∀ o, 31 ≤ o → o ≤ 36 → S4.2.1 o n = S'.2.1 o n := fun o o1 o2 => by
          rw [r4, if_neg (by omega), if_neg (by omega), q7 o n o1 o2, r2, if_neg (by omega), if_neg (by omega), if_neg (by omega)]
        rw [rq 31 (by decide) (by decide), rq 32 (by decide) (by decide), rq 33 (by decide) (by decide), rq 34 (by decide) (by decide), rq 35 (by decide) (by decide), rq 36 (by decide) (by decide)]
        exact ⟨g1, g2, g3, fun z => ⟨mono4 _ _ (g4 z).1, mono4 _ _ (g4 z).2⟩, fun z => mono4 _ _ (g5 z)⟩
      · have hlt := (List.getElem?_eq_some_iff.mp hi).1
        simp at hlt
        have en : n = stk.length := by omega
        subst en
        rw [stk_last] at hi
        simp only [Option.some.injEq, Prod.mk.injEq] at hi
        obtain ⟨rfl, rfl, rfl, rfl, rfl⟩ := hi
        refine ⟨?_, ?_, ?_, fun _ => ⟨?_, ?_⟩, fun z => by cases z⟩
        · rw [r4, if_neg (by omega), if_neg (by omega), q7 31 _ (by decide) (by decide), r2, if_neg (by omega), if_neg (by omega), if_pos ⟨rfl, rfl⟩]
        · rw [r4, if_neg (by omega), if_neg (by omega), q7 32 _ (by decide) (by decide), r2, if_neg (by omega), if_pos ⟨rfl, rfl⟩]
        · rw [r4, if_neg (by omega), if_neg (by omega), q7 36 _ (by decide) (by decide), r2, if_pos ⟨rfl, rfl⟩]; rfl
        · rw [r4, if_neg (by omega), if_pos ⟨rfl, rfl⟩]; exact yV_ws a7 ws4
        · rw [r4, if_pos ⟨rfl, rfl⟩]; exact yV_ws q5 ws4
    · exact yV_ws a6 ws4
    · exact yV_ws q4 ws4
end YM
