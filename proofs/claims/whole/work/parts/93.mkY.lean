/-! THE REFERENCE MAKES CELLS. S0: the store when the making began, its live cells marked (row 17), lv of them; m made, N the next cell; all others are of step st -/
/-- cells not live among the k from a on -/
def lcF (f : Nat → Int32) : Nat → Nat → Nat
  | _, 0 => 0
  | a, k + 1 => (if f a = 0 then 1 else 0) + lcF f (a + 1) k
theorem lcF_ex {f : Nat → Int32} : ∀ k a, 1 ≤ lcF f a k → ∃ j, j < k ∧ f (a + j) = 0 ∧ (∀ i, i < j → ¬ f (a + i) = 0) ∧ lcF f a k = 1 + lcF f (a + j + 1) (k - j - 1)
  | 0, _, h => by simp [lcF] at h
  | k + 1, a, h => by
    unfold lcF at h
    by_cases c : f a = 0
    · refine ⟨0, by omega, c, fun i hi => by omega, ?_⟩
      rw [show lcF f a (k + 1) = (if f a = 0 then 1 else 0) + lcF f (a + 1) k from rfl, if_pos c]
      simp
    · rw [if_neg c, Nat.zero_add] at h
      obtain ⟨j, h1, h2, h3, h4⟩ := lcF_ex k (a + 1) h
      refine ⟨j + 1, by omega, by rw [show a + (j + 1) = a + 1 + j by omega]; exact h2, fun i hi => ?_, ?_⟩
      · match i with
        | 0 => exact c
        | i + 1 =>
          rw [show a + (i + 1) = a + 1 + i by omega]
          exact h3 i (by omega)
      · rw [lcF, if_neg c, h4]
        rw [show a + 1 + j + 1 = a + (j + 1) + 1 by omega, show k - j - 1 = k + 1 - (j + 1) - 1 by omega]
        omega
def ySig (S0 : mv_S) (σ : Nat → Nat) (st : Nat) : Nat → Nat := fun i => if S0.2.1 17 i = 0 then st else σ i
/-- what the making leaves as it was -/
def yFm (S0 S : mv_S) : Prop := (∀ o f, (o = 0 → f ≠ 31 ∧ f ≠ 32 ∧ f ≠ 34 ∧ f ≠ 57 ∧ f ≠ 58 ∧ f ≠ 59) → S.1 o f = S0.1 o f) ∧ (∀ o i, ¬ (13 ≤ o ∧ o ≤ 16) → ¬ (30 ≤ o ∧ o ≤ 36) → S.2.1 o i = S0.2.1 o i) ∧ S.2.2 = S0.2.2 ∧ (∀ i o, ¬ S0.2.1 17 i = 0 → 13 ≤ o → o ≤ 16 → S.2.1 o i = S0.2.1 o i)
/-- m cells are made, N is the next that may be free -/
def yMk (S0 S : mv_S) (lv rm m N : Nat) : Prop := yFm S0 S ∧ S0.1 0 30 = nI lv ∧ S0.1 0 36 = nI rm ∧ rm ≤ 400 ∧ S.1 0 34 = 0 ∧ S.1 0 32 = nI m ∧ lv + m ≤ rm ∧ S.1 0 31 = nI N ∧ 1 ≤ N ∧ N ≤ 900 ∧ lcF (S0.2.1 17) N (900 - N) + m + lv = 899
/-- there was no room -/
def yFull (S0 S : mv_S) (lv rm bd : Nat) : Prop := yFm S0 S ∧ S0.1 0 30 = nI lv ∧ S0.1 0 36 = nI rm ∧ rm ≤ 400 ∧ S.1 0 34 = 1 ∧ ∃ m, S.1 0 32 = nI m ∧ m ≤ bd ∧ rm < lv + m
/-- a tree of live cells and of cells that are made -/
def yV (S0 S : mv_S) (σ : Nat → Nat) (st N : Nat) (T : tT) (c : Int32) : Prop := yTr S (ySig S0 σ st) T c ∧ ∀ i, i ∈ hCs (S.2.1 15) (S.2.1 16) T c → ¬ S0.2.1 17 i = 0 ∨ i < N
theorem yV_cells {S0 S : mv_S} {σ : Nat → Nat} {st N : Nat} {s : Nat} {k v : Int32} {l r : tT} {c : Int32} (h : yV S0 S σ st N (.inner s k v l r) c) : ∃ i, 1 ≤ i ∧ i ≤ 899 ∧ c = nI i ∧ S.2.1 13 i = k ∧ S.2.1 14 i = v ∧ yV S0 S σ st N l (S.2.1 15 i) ∧ yV S0 S σ st N r (S.2.1 16 i) := by
  obtain ⟨⟨i, h1, h2, rfl, h3, h4, h5, h6, h7⟩, hc⟩ := h
  have ei : (nI i).toNatClampNeg = i := nI_clamp (by omega)
  simp only [hCs, ei] at hc
  exact ⟨i, h1, h2, rfl, h4, h5, ⟨h6, fun j hj => hc j (by simp [hj])⟩, ⟨h7, fun j hj => hc j (by simp [hj])⟩⟩
theorem pf_pf (S : mv_S) (q k : Nat) (x y : Int32) : mv_pf (mv_pf S q k x) q k y = mv_pf S q k y := by
  have h : (mv_pf (mv_pf S q k x) q k y).1 = (mv_pf S q k y).1 := by
    funext o f
    rw [pf_get, pf_get, pf_get]
    split <;> rfl
  exact Prod.ext h rfl
theorem pf_self {S : mv_S} {q k : Nat} {x : Int32} (h : S.1 q k = x) : mv_pf S q k x = S := by
  have h : (mv_pf S q k x).1 = S.1 := by
    funext o f
    rw [pf_get]
    by_cases c : o = q ∧ f = k
    · rw [if_pos c, c.1, c.2, h]
    · rw [if_neg c]
  exact Prod.ext h rfl
section YM
variable {d : Nat} {P : Option Value → mv_S → Prop} {S0 S : mv_S} {σ : Nat → Nat} {st lv rm m N : Nat}
theorem pf4 (S : mv_S) (j : Nat) (k v a b : Int32) (o i : Nat) : (mv_pr (mv_pr (mv_pr (mv_pr S 13 j k) 14 j v) 15 j a) 16 j b).2.1 o i = if o = 16 ∧ i = j then b else if o = 15 ∧ i = j then a else if o = 14 ∧ i = j then v else if o = 13 ∧ i = j then k else S.2.1 o i := by
  rw [pr_get, pr_get, pr_get, pr_get]
/-- the store with a cell made -/
def yMc (S : mv_S) (m j : Nat) (k v a b : Int32) : mv_S := mv_pr (mv_pr (mv_pr (mv_pr (mv_pf (mv_pf S 0 32 (nI (m + 1))) 0 31 (nI (j + 1))) 13 j k) 14 j v) 15 j a) 16 j b
theorem yMc_f (S : mv_S) (m j : Nat) (k v a b : Int32) (o f : Nat) : (yMc S m j k v a b).1 o f = if o = 0 ∧ f = 31 then nI (j + 1) else if o = 0 ∧ f = 32 then nI (m + 1) else S.1 o f := by
  show (mv_pf (mv_pf S 0 32 (nI (m + 1))) 0 31 (nI (j + 1))).1 o f = _
  rw [pf_get, pf_get]
theorem yMc_r (S : mv_S) (m j : Nat) (k v a b : Int32) (o i : Nat) : (yMc S m j k v a b).2.1 o i = if o = 16 ∧ i = j then b else if o = 15 ∧ i = j then a else if o = 14 ∧ i = j then v else if o = 13 ∧ i = j then k else S.2.1 o i := by
  unfold yMc
  rw [pf4]
  rfl
theorem yV_mono {T : tT} {c k v a b : Int32} {j : Nat} (hj : S0.2.1 17 j = 0) (hN : N ≤ j) (h : yV S0 S σ st N T c) : yV S0 (yMc S m j k v a b) σ st (j + 1) T c := by
  have key := hTr_congr (K' := (yMc S m j k v a b).2.1 13) (V' := (yMc S m j k v a b).2.1 14) (A' := (yMc S m j k v a b).2.1 15) (B' := (yMc S m j k v a b).2.1 16) (σ' := ySig S0 σ st) (by decide) (fun i hi => by
    have : i ≠ j := by
      rcases h.2 i hi with z | z
      · exact fun e => z (by rw [e]; exact hj)
      · omega
    rw [yMc_r, yMc_r, yMc_r, yMc_r]
    refine ⟨?_, ?_, ?_, ?_, rfl⟩ <;> (rw [if_neg (by omega), if_neg (by omega), if_neg (by omega), if_neg (by omega)])) h.1
  refine ⟨key.1, fun i hi => ?_⟩
  rw [key.2] at hi
  rcases h.2 i hi with z | z
  · exact Or.inl z
  · exact Or.inr (by omega)
set_option maxHeartbeats 400000 in
theorem y_cell {k v a b : Int32} {L R : tT} (h : yMk S0 S lv rm m N) (hL : yV S0 S σ st N L a) (hR : yV S0 S σ st N R b)
    (hf : rm < lv + (m + 1) → ∀ S', yFull S0 S' lv rm 401 → (∀ o i, S'.2.1 o i = S.2.1 o i) → (∀ f, f ≠ 32 → f ≠ 34 → S'.1 0 f = S.1 0 f) → P (some (.int 0)) S')
    (ho : lv + (m + 1) ≤ rm → ∀ j, N ≤ j → S0.2.1 17 j = 0 → yMk S0 (yMc S m j k v a b) lv rm (m + 1) (j + 1) → yV S0 (yMc S m j k v a b) σ st (j + 1) (.inner st k v L R) (nI j) → P (some (.int (nI j))) (yMc S m j k v a b)) : mv_big layY sysY (d + 1) 33 [.ref 0, .int k, .int v, .int a, .int b] S P := by
  obtain ⟨h1, h2, h3, h4, h5, h6, h7, h8, h9, h10, h11⟩ := h
  have e30 : S.1 0 30 = nI lv := by rw [h1.1 0 30 (by decide)]; exact h2
  have e36 : S.1 0 36 = nI rm := by rw [h1.1 0 36 (by decide)]; exact h3
  have e17 : ∀ i, S.2.1 17 i = S0.2.1 17 i := fun i => h1.2.1 17 i (by decide) (by decide)
  obtain ⟨S1, hS1⟩ : ∃ S1, S1 = mv_pf S 0 32 (S.1 0 32 + 1) := ⟨_, rfl⟩
  have f1 : ∀ o f, S1.1 o f = if o = 0 ∧ f = 32 then nI (m + 1) else S.1 o f := fun o f => by rw [hS1, pf_get, h6, nI_1]
  have es : S1.1 0 30 + S1.1 0 32 = nI (lv + (m + 1)) := by
    rw [f1, f1, if_neg (by decide), if_pos ⟨rfl, rfl⟩, e30, nI_add]
  have er : S1.1 0 36 = nI rm := by rw [f1, if_neg (by decide)]; exact e36
  by_cases c : lv + (m + 1) ≤ rm
  · have hx : 1 ≤ lcF (S0.2.1 17) N (900 - N) := by omega
    obtain ⟨j, j1, j2, j3, j4⟩ := lcF_ex (900 - N) N hx
    have ho := ho c (N + j) (by omega) j2
    have full0 : S1.1 0 34 = 0 := by rw [f1, if_neg (by decide)]; exact h5
    have mk : yMk S0 (yMc S m (N + j) k v a b) lv rm (m + 1) (N + j + 1) := by
      refine ⟨⟨fun o f z => ?_, fun o i z z2 => ?_, h1.2.2.1, fun i o z z2 z3 => ?_⟩, h2, h3, h4, ?_, ?_, c, ?_, by omega, by omega, ?_⟩
      · rw [yMc_f, if_neg (fun y => by have := z y.1; omega), if_neg (fun y => by have := z y.1; omega)]; exact h1.1 o f z
      · rw [yMc_r, if_neg (by omega), if_neg (by omega), if_neg (by omega), if_neg (by omega)]; exact h1.2.1 o i z z2
      · have : i ≠ N + j := fun e => z (by rw [e]; exact j2)
        rw [yMc_r, if_neg (by omega), if_neg (by omega), if_neg (by omega), if_neg (by omega)]; exact h1.2.2.2 i o z z2 z3
      · rw [yMc_f, if_neg (by decide), if_neg (by decide)]; exact h5
      · rw [yMc_f, if_neg (by decide), if_pos ⟨rfl, rfl⟩]
      · rw [yMc_f, if_pos ⟨rfl, rfl⟩]
      · rw [show 900 - (N + j + 1) = 900 - N - j - 1 by omega]; omega
    have tr : yV S0 (yMc S m (N + j) k v a b) σ st (N + j + 1) (.inner st k v L R) (nI (N + j)) := by
      have m1 := yV_mono (m := m) (k := k) (v := v) (a := a) (b := b) j2 (Nat.le_add_right N j) hL
      have m2 := yV_mono (m := m) (k := k) (v := v) (a := a) (b := b) j2 (Nat.le_add_right N j) hR
      have ei : (nI (N + j)).toNatClampNeg = N + j := nI_clamp (by omega)
      have r15 : (yMc S m (N + j) k v a b).2.1 15 (N + j) = a := by rw [yMc_r, if_neg (by omega), if_pos ⟨rfl, rfl⟩]
      have r16 : (yMc S m (N + j) k v a b).2.1 16 (N + j) = b := by rw [yMc_r, if_pos ⟨rfl, rfl⟩]
      refine ⟨⟨N + j, by omega, by omega, rfl, ?_, ?_, ?_, by rw [r15]; exact m1.1, by rw [r16]; exact m2.1⟩, fun i hi => ?_⟩
      · show (if S0.2.1 17 (N + j) = 0 then st else _) = st
        rw [if_pos j2]
      · rw [yMc_r, if_neg (by omega), if_neg (by omega), if_neg (by omega), if_pos ⟨rfl, rfl⟩]
      · rw [yMc_r, if_neg (by omega), if_neg (by omega), if_pos ⟨rfl, rfl⟩]
      · simp only [hCs, ei, r15, r16, List.mem_cons, List.mem_append] at hi
        rcases hi with hi | hi | hi
        · exact Or.inr (by omega)
        · exact m1.2 i hi
        · exact m2.2 i hi
    have ho := ho mk tr
    have loop := mv_loop (T := tT11) (nL := 6) (z := some .int) (il := mX11_cell.2.2.2.2.2.2.2) (lay := layY) (sys := sysY) (d := d) (P := P) (pc := 40) 60 (fun k' lv' st' S' => ∃ i, i + k' = j ∧ lv' = [(0, .ref 0), (1, .int k), (2, .int v), (3, .int a), (4, .int b)] ∧ st' = [] ∧ S' = mv_pf S1 0 31 (nI (N + i))) (by
        rintro f lv' st' S' ⟨i, hi, rfl, rfl, rfl⟩
        obtain rfl : i = j := hi
        have n1 : (mv_pf S1 0 31 (nI (N + i))).1 0 31 = nI (N + i) := by rw [pf_get, if_pos ⟨rfl, rfl⟩]
        have vN : vp_in (nI (N + i)) 900 := vp_in_nI (by omega) (by decide)
        have z17 : (mv_pf S1 0 31 (nI (N + i))).2.1 17 ((mv_pf S1 0 31 (nI (N + i))).1 0 31).toNatClampNeg = 0 := by
          rw [n1, nI_clamp (by omega)]
          show S1.2.1 17 (N + i) = 0
          rw [hS1]
          show S.2.1 17 (N + i) = 0
          rw [e17]; exact j2
        refine ⟨by rw [n1]; exact vN, fun _ => ⟨by rw [n1]; exact vN, by rw [n1]; exact vN, by rw [n1]; exact vN, by rw [n1]; exact vN, ?_⟩, fun z => absurd z17 z⟩
        have eS : mv_pf (mv_pf S1 0 31 (nI (N + i))) 0 31 ((mv_pf S1 0 31 (nI (N + i))).1 0 31 + 1) = mv_pf (mv_pf S 0 32 (nI (m + 1))) 0 31 (nI (N + i + 1)) := by
          rw [n1, nI_1, pf_pf, hS1, h6, nI_1]
        have goal2 : P (some (.int (nI (N + i)))) (mv_pr (mv_pr (mv_pr (mv_pr (mv_pf (mv_pf S1 0 31 (nI (N + i))) 0 31 ((mv_pf S1 0 31 (nI (N + i))).1 0 31 + 1)) 13 (nI (N + i)).toNatClampNeg k) 14 (nI (N + i)).toNatClampNeg v) 15 (nI (N + i)).toNatClampNeg a) 16 (nI (N + i)).toNatClampNeg b) := by
          rw [eS, nI_clamp (by omega)]
          exact ho
        rw [n1]
        rw [n1] at goal2
        exact goal2) (by
        rintro k' f lv' st' S' ⟨i, hi, rfl, rfl, rfl⟩ ih
        have n1 : (mv_pf S1 0 31 (nI (N + i))).1 0 31 = nI (N + i) := by rw [pf_get, if_pos ⟨rfl, rfl⟩]
        have z17 : ¬ (mv_pf S1 0 31 (nI (N + i))).2.1 17 ((mv_pf S1 0 31 (nI (N + i))).1 0 31).toNatClampNeg = 0 := by
          rw [n1, nI_clamp (by omega)]
          show ¬ S1.2.1 17 (N + i) = 0
          rw [hS1]
          show ¬ S.2.1 17 (N + i) = 0
          rw [e17]; exact j3 i (by omega)
        refine ⟨by rw [n1]; exact vp_in_nI (by omega) (by decide), fun z => absurd z z17, fun _ => ?_⟩
        have eS : mv_pf (mv_pf S1 0 31 (nI (N + i))) 0 31 ((mv_pf S1 0 31 (nI (N + i))).1 0 31 + 1) = mv_pf S1 0 31 (nI (N + (i + 1))) := by
          rw [n1, nI_1, pf_pf]; rfl
        have := fun n' hn => ih n' [(0, .ref 0), (1, .int k), (2, .int v), (3, .int a), (4, .int b)] [] (mv_pf S1 0 31 (nI (N + (i + 1)))) hn ⟨i + 1, by omega, rfl, rfl, rfl⟩
        rw [← eS] at this
        refine ws_aload_n rfl rfl rfl (ws_dup_r rfl rfl (ws_geti rfl rfl rfl rfl (ws_iconst (x := 1) rfl rfl rfl (ws_iadd rfl rfl rfl (ws_puti rfl rfl rfl (ws_goto (t := 40) rfl (by decide) (this _ (by omega))))))))
      )
    refine ⟨60 * (j + 1) + 20, ?_⟩
    refine ws_aload_n rfl rfl rfl (ws_dup_r rfl rfl (ws_geti rfl rfl rfl rfl (ws_iconst (x := 1) rfl rfl rfl (ws_iadd rfl rfl rfl (ws_puti rfl rfl rfl ?_)))))
    rw [← hS1]
    refine ws_aload_n rfl rfl rfl (ws_geti rfl rfl rfl rfl (ws_aload_n rfl rfl rfl (ws_geti rfl rfl rfl rfl (ws_iadd rfl es rfl (ws_aload_n rfl rfl rfl (ws_geti rfl rfl er rfl (ws_i rfl ⟨fun _ => ?_, fun z => absurd (nI_le c (by omega)) z⟩)))))))
    refine ws_aload_n rfl rfl rfl (ws_getz rfl rfl rfl rfl (ws_i rfl ⟨fun _ => ?_, fun z => absurd full0 z⟩))
    exact loop j _ [(0, .ref 0), (1, .int k), (2, .int v), (3, .int a), (4, .int b)] [] S1 (by omega) ⟨0, by omega, rfl, rfl, (pf_self (by rw [f1, if_neg (by decide)]; exact h8)).symm⟩
  · refine ⟨60, ?_⟩
    refine ws_aload_n rfl rfl rfl (ws_dup_r rfl rfl (ws_geti rfl rfl rfl rfl (ws_iconst (x := 1) rfl rfl rfl (ws_iadd rfl rfl rfl (ws_puti rfl rfl rfl ?_)))))
    rw [← hS1]
    refine ws_aload_n rfl rfl rfl (ws_geti rfl rfl rfl rfl (ws_aload_n rfl rfl rfl (ws_geti rfl rfl rfl rfl (ws_iadd rfl es rfl (ws_aload_n rfl rfl rfl (ws_geti rfl rfl er rfl (ws_i rfl ⟨fun z => absurd ((nI_leI (by omega) (by omega)).mp z) c, fun _ => ?_⟩)))))))
    refine ws_aload_n rfl rfl rfl (ws_iconst (x := 1) rfl rfl rfl (ws_putz rfl rfl (Or.inr rfl) rfl ?_))
    have f2 : ∀ o f, (mv_pf S1 0 34 1).1 o f = if o = 0 ∧ f = 34 then 1 else if o = 0 ∧ f = 32 then nI (m + 1) else S.1 o f := fun o f => by rw [pf_get, f1]
    refine ws_aload_n rfl rfl rfl (ws_getz rfl rfl rfl rfl (ws_i rfl ⟨fun z => ?_, fun _ => ?_⟩))
    · have z : (mv_pf S1 0 34 1).1 0 34 = 0 := z
      rw [pf_get, if_pos ⟨rfl, rfl⟩] at z
      exact absurd z (by decide)
    · refine hf (by omega) (mv_pf S1 0 34 1) ⟨⟨fun o f z => ?_, fun o i z z2 => ?_, ?_, fun i o z z2 z3 => ?_⟩, h2, h3, h4, by rw [pf_get, if_pos ⟨rfl, rfl⟩], m + 1, by rw [f2, if_neg (by decide), if_pos ⟨rfl, rfl⟩], by omega, by omega⟩ (fun o i => by rw [hS1]; rfl) (fun f z1 z2 => by rw [f2, if_neg (fun y => z2 y.2), if_neg (fun y => z1 y.2)])
      · rw [f2, if_neg (fun y => by have := z y.1; omega), if_neg (fun y => by have := z y.1; omega)]; exact h1.1 o f z
      · rw [hS1]; exact h1.2.1 o i z z2
      · rw [hS1]; exact h1.2.2.1
      · rw [hS1]; exact h1.2.2.2 i o z z2 z3
end YM
