/-! THE REFERENCE'S UNION: its four rounds -/
theorem mv_at_sv {lv : List (Nat × Value)} {i j : Nat} {x : Value} {y : Int32} (hij : i ≠ j) (h : mv_at j lv = some (.int y)) : mv_at j (mv_sv i x lv) = some (.int y) := by
  have e : Nat.beq i j = false := by
    cases c : Nat.beq i j
    · rfl
    · exact absurd (Nat.eq_of_beq_eq_true c) hij
  show (bif Nat.beq i j then _ else mv_at j (lv.filter _)) = _
  rw [e]
  show mv_at j (lv.filter _) = _
  induction lv with
  | nil => cases h
  | cons q r ih =>
    obtain ⟨a, b⟩ := q
    unfold mv_at at h
    cases c : Nat.beq a j
    · rw [c] at h
      simp only [List.filter]
      split
      · unfold mv_at
        rw [c]
        exact ih h
      · exact ih h
    · rw [c] at h
      have ha := Nat.eq_of_beq_eq_true c
      subst ha
      have hb : b = .int y := by simpa using h
      subst hb
      have k : (!(a == i) && !(a + 1 == i && (Value.int y).category == 2)) = true := by
        have : (a == i) = false := by simp; omega
        rw [this]
        simp [Value.category]
      simp only [List.filter, k]
      unfold mv_at
      rw [c]
      rfl
theorem mv_at_sr {lv : List (Nat × Value)} {i j : Nat} {x : Value} {y : Nat} (hij : i ≠ j) (h : mv_at j lv = some (.ref y)) : mv_at j (mv_sv i x lv) = some (.ref y) := by
  have e : Nat.beq i j = false := by
    cases c : Nat.beq i j
    · rfl
    · exact absurd (Nat.eq_of_beq_eq_true c) hij
  show (bif Nat.beq i j then _ else mv_at j (lv.filter _)) = _
  rw [e]
  show mv_at j (lv.filter _) = _
  induction lv with
  | nil => cases h
  | cons q r ih =>
    obtain ⟨a, b⟩ := q
    unfold mv_at at h
    cases c : Nat.beq a j
    · rw [c] at h
      simp only [List.filter]
      split
      · unfold mv_at
        rw [c]
        exact ih h
      · exact ih h
    · rw [c] at h
      have ha := Nat.eq_of_beq_eq_true c
      subst ha
      have hb : b = .ref y := by simpa using h
      subst hb
      have k : (!(a == i) && !(a + 1 == i && (Value.ref y).category == 2)) = true := by
        have : (a == i) = false := by simp; omega
        rw [this]
        simp [Value.category]
      simp only [List.filter, k]
      unfold mv_at
      rw [c]
      rfl
theorem mv_at_me {lv : List (Nat × Value)} {i : Nat} {x : Value} : mv_at i (mv_sv i x lv) = some x := by
  show (bif Nat.beq i i then some x else _) = _
  rw [Nat.beq_refl]; rfl
def tOr (A B : tT) : tT :=
  match A with
  | .leaf => B
  | .inner t k v l r => .inner t k v l r
theorem tOr_l {A B : tT} (h : A = .leaf) : tOr A B = B := by subst h; rfl
theorem tOr_r {A B : tT} (h : ¬ A = .leaf) : tOr A B = A := by
  match A, h with
  | .leaf, h => exact absurd rfl h
  | .inner t k v l r, _ => rfl
/-- the locals of union's loop -/
def yUL (l : List (Nat × Value)) (n s t g dn : Int32) : Prop := mv_at 0 l = some (.ref 0) ∧ mv_at 3 l = some (.int n) ∧ mv_at 4 l = some (.int s) ∧ mv_at 5 l = some (.int t) ∧ mv_at 6 l = some (.int g) ∧ mv_at 7 l = some (.int dn)
/-- the rows of what waits, one by one: (its second is at work, key, value, (first to come, second to come) or (what came, nothing)) -/
def yUs (S0 S' : mv_S) (σ : Nat → Nat) (st N : Nat) (stk : List (Bool × Int32 × Int32 × tT × tT)) : Prop :=
  ∀ i b k v X Y, stk[i]? = some (b, k, v, X, Y) → S'.2.1 31 i = k ∧ S'.2.1 32 i = v ∧ S'.2.1 36 i = (if b then 1 else 0) ∧ (b = false → yV S0 S' σ st N X (S'.2.1 33 i) ∧ yV S0 S' σ st N Y (S'.2.1 34 i)) ∧ (b = true → yV S0 S' σ st N X (S'.2.1 35 i))
section YM
variable {d : Nat} {P : Option Value → mv_S → Prop} {S0 : mv_S} {σ : Nat → Nat} {st lv rm m N : Nat}
abbrev yUw (P : Option Value → mv_S → Prop) (d F pc : Nat) (l : List (Nat × Value)) (S : mv_S) : Prop := mv_wp layY sysY tT11 11 (some .int) mX11_union.2.2.2.2.2.2.2 (mv_big layY sysY (d + 2)) P F pc l [] S
/-- down with A and B; up with G -/
def yUd (P : Option Value → mv_S → Prop) (d : Nat) (S0 : mv_S) (σ : Nat → Nat) (st lv rm m : Nat) (sd : Int32) (stk : List (Bool × Int32 × Int32 × tT × tT)) (A B : tT) : Prop := ∃ F, ∀ S' l a b g N, yUL l (nI stk.length) a b g 1 → yMk S0 S' lv rm m N → S'.1 0 35 = sd → S'.1 0 57 = 0 → yUs S0 S' σ st N stk → yV S0 S' σ st N A a → yV S0 S' σ st N B b → yUw P d F 19 l S'
def yUu (P : Option Value → mv_S → Prop) (d : Nat) (S0 : mv_S) (σ : Nat → Nat) (st lv rm m : Nat) (sd : Int32) (stk : List (Bool × Int32 × Int32 × tT × tT)) (G : tT) : Prop := ∃ F, ∀ S' l a b g N, yUL l (nI stk.length) a b g 0 → yMk S0 S' lv rm m N → S'.1 0 35 = sd → S'.1 0 57 = 0 → yUs S0 S' σ st N stk → yV S0 S' σ st N G g → yUw P d F 19 l S'
set_option maxHeartbeats 600000 in
set_option maxRecDepth 8000 in
theorem yU_end {sd : Int32} {G : tT} (h : ∀ S' N g, yMk S0 S' lv rm m N → S'.1 0 35 = sd → yV S0 S' σ st N G g → P (some (.int g)) S') : yUu P d S0 σ st lv rm m sd [] G := by
  refine ⟨20, fun S' l a b g N hl hm hsd _ _ hG => ?_⟩
  have full0 : S'.1 0 34 = 0 := hm.2.2.2.2.1
  refine ws_aload_n rfl hl.1 rfl (ws_getz rfl rfl rfl rfl (ws_i rfl ⟨fun z => absurd full0 z, fun _ => ?_⟩))
  refine ws_iload rfl hl.2.2.2.2.2 rfl (ws_i rfl ⟨fun z => absurd rfl z, fun _ => ?_⟩)
  refine ws_iload_n rfl hl.2.1 rfl (ws_i rfl ⟨fun _ => ?_, fun z => absurd (show nI 0 ≤ 0 by decide) z⟩)
  exact ws_iload rfl hl.2.2.2.2.1 rfl (ws_i rfl (h S' N g hm hsd hG))
set_option maxHeartbeats 600000 in
set_option maxRecDepth 8000 in
theorem yU_leaf {sd : Int32} {stk : List (Bool × Int32 × Int32 × tT × tT)} {A B : tT} (hAB : A = .leaf ∨ B = .leaf) (h : yUu P d S0 σ st lv rm m sd stk (tOr A B)) : yUd P d S0 σ st lv rm m sd stk A B := by
  obtain ⟨F, hF⟩ := h
  refine ⟨F + 20, fun S' l a b g N hl hm hsd h57 hus hA hB => ?_⟩
  have full0 : S'.1 0 34 = 0 := hm.2.2.2.2.1
  have go : ∀ x : Int32, yV S0 S' σ st N (tOr A B) x → yUw P d (F + 3) 64 (mv_sv 6 (.int x) l) S' := by
    intro x hx
    refine ws_iconst (x := 0) rfl rfl rfl (ws_istore rfl rfl rfl rfl (ws_goto (t := 19) rfl (by decide) (hF S' _ a b x N ⟨?_, ?_, ?_, ?_, ?_, mv_at_me⟩ hm hsd h57 hus hx)))
    · exact mv_at_sr (by decide) (mv_at_sr (by decide) hl.1)
    · exact mv_at_sv (by decide) (mv_at_sv (by decide) hl.2.1)
    · exact mv_at_sv (by decide) (mv_at_sv (by decide) hl.2.2.1)
    · exact mv_at_sv (by decide) (mv_at_sv (by decide) hl.2.2.2.1)
    · exact mv_at_sv (by decide) mv_at_me
  have ha : a = 0 ↔ A = .leaf := hTr_leaf (by decide) hA.1
  have hb : b = 0 ↔ B = .leaf := hTr_leaf (by decide) hB.1
  refine ws_aload_n rfl hl.1 rfl (ws_getz rfl rfl rfl rfl (ws_i rfl ⟨fun z => absurd full0 z, fun _ => ?_⟩))
  refine ws_iload rfl hl.2.2.2.2.2 rfl (ws_i rfl ⟨fun _ => ?_, fun z => absurd (show (1 : Int32) = 0 from z) (by decide)⟩)
  refine ws_iload rfl hl.2.2.2.2.2 rfl (ws_i rfl ⟨fun z => absurd (show (1 : Int32) = 0 from z) (by decide), fun _ => ?_⟩)
  by_cases cA : A = .leaf
  · rw [tOr_l cA] at go
    have a0 := ha.mpr cA
    subst a0
    refine ws_iload rfl hl.2.2.1 rfl (ws_i rfl ⟨fun _ => ?_, fun z => absurd rfl z⟩)
    refine ws_iload rfl hl.2.2.1 rfl (ws_i rfl ⟨fun z => absurd rfl z, fun _ => ?_⟩)
    exact ws_iload rfl hl.2.2.2.1 rfl (ws_goto (t := 62) rfl (by decide) (ws_istore rfl rfl rfl rfl (mv_fuel (by omega) (go b hB))))
  · rw [tOr_r cA] at go
    have a0 : ¬ a = 0 := fun z => cA (ha.mp z)
    have cB := hAB.elim (fun z => absurd z cA) id
    have b0 := hb.mpr cB
    subst b0
    refine ws_iload rfl hl.2.2.1 rfl (ws_i rfl ⟨fun z => absurd z a0, fun _ => ?_⟩)
    refine ws_iload rfl hl.2.2.2.1 rfl (ws_i rfl ⟨fun z => absurd rfl z, fun _ => ?_⟩)
    refine ws_iload rfl hl.2.2.1 rfl (ws_i rfl ⟨fun _ => ?_, fun z => absurd z a0⟩)
    exact ws_iload rfl hl.2.2.1 rfl (ws_istore rfl rfl rfl rfl (mv_fuel (by omega) (go a hA)))
theorem yUs_ws {S' S2 : mv_S} {stk : List (Bool × Int32 × Int32 × tT × tT)} {N2 : Nat} (h : yUs S0 S' σ st N stk) (mono : ∀ T c, yV S0 S' σ st N T c → yV S0 S2 σ st N2 T c) (hr : ∀ o i, 31 ≤ o → o ≤ 36 → i < stk.length → S2.2.1 o i = S'.2.1 o i) : yUs S0 S2 σ st N2 stk := by
  intro i b k v X Y hi
  have hlt := (List.getElem?_eq_some_iff.mp hi).1
  obtain ⟨h1, h2, h3, h4, h5⟩ := h i b k v X Y hi
  rw [hr 31 i (by decide) (by decide) hlt, hr 32 i (by decide) (by decide) hlt, hr 33 i (by decide) (by decide) hlt, hr 34 i (by decide) (by decide) hlt, hr 35 i (by decide) (by decide) hlt, hr 36 i (by decide) (by decide) hlt]
  exact ⟨h1, h2, h3, fun z => ⟨mono _ _ (h4 z).1, mono _ _ (h4 z).2⟩, fun z => mono _ _ (h5 z)⟩
theorem stk_last {α : Type} {stk : List α} {x : α} : (stk ++ [x])[stk.length]? = some x := by simp
set_option maxHeartbeats 600000 in
set_option maxRecDepth 8000 in
theorem yU_second {sd k v : Int32} {stk : List (Bool × Int32 × Int32 × tT × tT)} {X Y G : tT} (hn : stk.length ≤ 890) (h : yUd P d S0 σ st lv rm m sd (stk ++ [(true, k, v, G, .leaf)]) X Y) : yUu P d S0 σ st lv rm m sd (stk ++ [(false, k, v, X, Y)]) G := by
  obtain ⟨F, hF⟩ := h
  refine ⟨F + 60, fun S' l a b g N hl hm hsd h57 hus hG => ?_⟩
  have full0 : S'.1 0 34 = 0 := hm.2.2.2.2.1
  have e1 : (stk ++ [(false, k, v, X, Y)]).length = stk.length + 1 := by simp
  have e2 : (stk ++ [(true, k, v, G, Std.DTreeMap.Internal.Impl.leaf)]).length = stk.length + 1 := by simp
  rw [e1] at hl
  rw [e2] at hF
  obtain ⟨s1, s2, s3, s4, _⟩ := hus stk.length false k v X Y stk_last
  have s4 := s4 rfl
  have s3 : S'.2.1 36 stk.length = 0 := s3
  have ix : nI (stk.length + 1) - 1 = nI stk.length := nI_pred _
  have ec : (nI stk.length).toNatClampNeg = stk.length := nI_clamp (by omega)
  have vx : vp_in (nI stk.length) 900 := vp_in_nI (by omega) (by decide)
  refine ws_aload_n rfl hl.1 rfl (ws_getz rfl rfl rfl rfl (ws_i rfl ⟨fun z => absurd full0 z, fun _ => ?_⟩))
  refine ws_iload rfl hl.2.2.2.2.2 rfl (ws_i rfl ⟨fun z => absurd rfl z, fun _ => ?_⟩)
  refine ws_iload_n rfl hl.2.1 rfl (ws_i rfl ⟨fun z => absurd z (nI_nle (by omega) (by omega)), fun _ => ?_⟩)
  refine ws_iload rfl hl.2.2.2.2.2 rfl (ws_i rfl ⟨fun _ => ?_, fun z => absurd rfl z⟩)
  refine ws_iload rfl hl.2.2.2.2.2 rfl (ws_i rfl ⟨fun _ => ?_, fun z => absurd rfl z⟩)
  refine ws_aload_n rfl hl.1 rfl (ws_getr rfl rfl rfl (ws_iload_n rfl hl.2.1 rfl (ws_iconst (x := 1) rfl rfl rfl (ws_isub rfl ix rfl (ws_i rfl ⟨vx, ?_⟩)))))
  rw [ec, s3]
  refine ws_i rfl ⟨fun z => absurd rfl z, fun _ => ?_⟩
  refine ws_aload_n rfl hl.1 rfl (ws_getr rfl rfl rfl (ws_iload_n rfl hl.2.1 rfl (ws_iconst (x := 1) rfl rfl rfl (ws_isub rfl ix rfl (ws_iconst (x := 1) rfl rfl rfl (ws_i rfl ⟨Or.inr rfl, vx, ?_⟩))))))
  refine ws_aload_n rfl hl.1 rfl (ws_getr rfl rfl rfl (ws_iload_n rfl hl.2.1 rfl (ws_iconst (x := 1) rfl rfl rfl (ws_isub rfl ix rfl (ws_iload rfl hl.2.2.2.2.1 rfl (ws_i rfl ⟨vx, ?_⟩))))))
  rw [ec]
  obtain ⟨S2, hS2⟩ : ∃ S2, S2 = mv_pr (mv_pr S' 36 stk.length 1) 35 stk.length g := ⟨_, rfl⟩
  rw [← hS2]
  have ws2 : yWs S' S2 := by rw [hS2]; exact yWs_trans (yWs_pr (by decide)) (yWs_pr (by decide))
  have r2 : ∀ o i, S2.2.1 o i = if o = 35 ∧ i = stk.length then g else if o = 36 ∧ i = stk.length then 1 else S'.2.1 o i := fun o i => by rw [hS2, pr_get, pr_get]
  refine ws_aload_n rfl hl.1 rfl (ws_getr rfl rfl rfl (ws_iload_n rfl hl.2.1 rfl (ws_iconst (x := 1) rfl rfl rfl (ws_isub rfl ix rfl (ws_i rfl ⟨vx, ?_⟩)))))
  rw [ec, r2, if_neg (by omega), if_neg (by omega)]
  refine ws_istore rfl rfl rfl rfl ?_
  refine ws_aload_n rfl (mv_at_sr (by decide) hl.1) rfl (ws_getr rfl rfl rfl (ws_iload_n rfl (mv_at_sv (by decide) hl.2.1) rfl (ws_iconst (x := 1) rfl rfl rfl (ws_isub rfl ix rfl (ws_i rfl ⟨vx, ?_⟩)))))
  rw [ec, r2, if_neg (by omega), if_neg (by omega)]
  refine ws_istore rfl rfl rfl rfl (ws_iconst (x := 1) rfl rfl rfl (ws_istore rfl rfl rfl rfl (ws_goto (t := 19) rfl (by decide) (mv_fuel (n := F) (by omega) ?_))))
  refine hF S2 _ (S'.2.1 33 stk.length) (S'.2.1 34 stk.length) g N ⟨?_, ?_, ?_, ?_, ?_, mv_at_me⟩ (yMk_ws hm ws2) (by rw [ws2.1 0 35 (by decide)]; exact hsd) (by rw [hS2]; exact h57) ?_ (yV_ws s4.1 ws2) (yV_ws s4.2 ws2)
  · exact mv_at_sr (by decide) (mv_at_sr (by decide) (mv_at_sr (by decide) hl.1))
  · exact mv_at_sv (by decide) (mv_at_sv (by decide) (mv_at_sv (by decide) hl.2.1))
  · exact mv_at_sv (by decide) (mv_at_sv (by decide) mv_at_me)
  · exact mv_at_sv (by decide) mv_at_me
  · exact mv_at_sv (by decide) (mv_at_sv (by decide) (mv_at_sv (by decide) hl.2.2.2.2.1))
  · intro i b' k' v' X' Y' hi
    by_cases c : i < stk.length
    · rw [List.getElem?_append_left c] at hi
      obtain ⟨h1, h2, h3, h4, h5⟩ := hus i b' k' v' X' Y' (by rw [List.getElem?_append_left c]; exact hi)
      have rq : ∀ o, S2.2.1 o i = S'.2.1 o i := fun o => by rw [r2, if_neg (by omega), if_neg (by omega)]
      rw [rq 31, rq 32, rq 33, rq 34, rq 35, rq 36]
      exact ⟨h1, h2, h3, fun z => ⟨yV_ws (h4 z).1 ws2, yV_ws (h4 z).2 ws2⟩, fun z => yV_ws (h5 z) ws2⟩
    · have hlt := (List.getElem?_eq_some_iff.mp hi).1
      simp at hlt
      have ei : i = stk.length := by omega
      subst ei
      rw [stk_last] at hi
      simp only [Option.some.injEq, Prod.mk.injEq] at hi
      obtain ⟨rfl, rfl, rfl, rfl, rfl⟩ := hi
      refine ⟨?_, ?_, ?_, (fun z => by cases z), fun _ => ?_⟩
      · rw [r2, if_neg (by omega), if_neg (by omega)]; exact s1
      · rw [r2, if_neg (by omega), if_neg (by omega)]; exact s2
      · rw [r2, if_neg (by omega), if_pos ⟨rfl, rfl⟩]; rfl
      · rw [r2, if_pos ⟨rfl, rfl⟩]; exact yV_ws hG ws2
set_option maxHeartbeats 600000 in
set_option maxRecDepth 8000 in
theorem yU_cell {sd k v : Int32} {stk : List (Bool × Int32 × Int32 × tT × tT)} {X Y G : tT} (hn : stk.length ≤ 890) (hf : rm < lv + (m + 1) → ∀ x S', yFull S0 S' lv rm 401 → P (some (.int x)) S') (h : lv + (m + 1) ≤ rm → yUu P d S0 σ st lv rm (m + 1) sd stk (.inner st k v X G)) : yUu P d S0 σ st lv rm m sd (stk ++ [(true, k, v, X, Y)]) G := by
  have h' : ∃ F, lv + (m + 1) ≤ rm → ∀ S' l a b g N, yUL l (nI stk.length) a b g 0 → yMk S0 S' lv rm (m + 1) N → S'.1 0 35 = sd → S'.1 0 57 = 0 → yUs S0 S' σ st N stk → yV S0 S' σ st N (.inner st k v X G) g → yUw P d F 19 l S' := by
    by_cases c : lv + (m + 1) ≤ rm
    · obtain ⟨F, hF⟩ := h c
      exact ⟨F, fun _ => hF⟩
    · exact ⟨0, fun z => absurd z c⟩
  obtain ⟨F, hF⟩ := h'
  refine ⟨F + 60, fun S' l a b g N hl hm hsd h57 hus hG => ?_⟩
  have full0 : S'.1 0 34 = 0 := hm.2.2.2.2.1
  have e1 : (stk ++ [(true, k, v, X, Y)]).length = stk.length + 1 := by simp
  rw [e1] at hl
  obtain ⟨s1, s2, s3, _, s5⟩ := hus stk.length true k v X Y stk_last
  have s5 := s5 rfl
  have s3 : S'.2.1 36 stk.length = 1 := s3
  have ix : nI (stk.length + 1) - 1 = nI stk.length := nI_pred _
  have ec : (nI stk.length).toNatClampNeg = stk.length := nI_clamp (by omega)
  have vx : vp_in (nI stk.length) 900 := vp_in_nI (by omega) (by decide)
  refine ws_aload_n rfl hl.1 rfl (ws_getz rfl rfl rfl rfl (ws_i rfl ⟨fun z => absurd full0 z, fun _ => ?_⟩))
  refine ws_iload rfl hl.2.2.2.2.2 rfl (ws_i rfl ⟨fun z => absurd rfl z, fun _ => ?_⟩)
  refine ws_iload_n rfl hl.2.1 rfl (ws_i rfl ⟨fun z => absurd z (nI_nle (by omega) (by omega)), fun _ => ?_⟩)
  refine ws_iload rfl hl.2.2.2.2.2 rfl (ws_i rfl ⟨fun _ => ?_, fun z => absurd rfl z⟩)
  refine ws_iload rfl hl.2.2.2.2.2 rfl (ws_i rfl ⟨fun _ => ?_, fun z => absurd rfl z⟩)
  refine ws_aload_n rfl hl.1 rfl (ws_getr rfl rfl rfl (ws_iload_n rfl hl.2.1 rfl (ws_iconst (x := 1) rfl rfl rfl (ws_isub rfl ix rfl (ws_i rfl ⟨vx, ?_⟩)))))
  rw [ec, s3]
  refine ws_i rfl ⟨fun _ => ?_, fun z => absurd (show (1 : Int32) = 0 from z) (by decide)⟩
  have ix2 : nI (stk.length + 1) + Int32.ofInt (-1) = nI stk.length := by
    rw [show Int32.ofInt (-1) = -1 from rfl, ← Int32.sub_eq_add_neg]; exact ix
  refine ws_iinc (y := nI stk.length) rfl hl.2.1 rfl ix2 rfl rfl ?_
  have a0 : mv_at 0 (mv_sv 3 (.int (nI stk.length)) l) = some (.ref 0) := mv_at_sr (by decide) hl.1
  refine ws_aload_n rfl a0 rfl (ws_aload_n rfl a0 rfl (ws_getr rfl rfl rfl (ws_iload_n rfl mv_at_me rfl (ws_i rfl ⟨vx, ?_⟩))))
  refine ws_aload_n rfl a0 rfl (ws_getr rfl rfl rfl (ws_iload_n rfl mv_at_me rfl (ws_i rfl ⟨vx, ?_⟩)))
  refine ws_aload_n rfl a0 rfl (ws_getr rfl rfl rfl (ws_iload_n rfl mv_at_me rfl (ws_i rfl ⟨vx, ?_⟩)))
  rw [ec, s1, s2]
  refine ws_iload rfl (mv_at_sv (by decide) hl.2.2.2.2.1) rfl (ws_iv rfl rfl rfl ?_)
  refine y_cell hm s5 hG (fun hlt S2 g1 _ _ => ?_) (fun hle j hj hj0 hmk htr => ?_)
  · have nf : ¬ S2.1 0 34 = 0 := by rw [g1.2.2.2.2.1]; decide
    refine ws_istore rfl rfl rfl rfl (ws_goto (t := 19) rfl (by decide) ?_)
    refine ws_aload_n rfl (mv_at_sr (by decide) a0) rfl (ws_getz rfl rfl rfl rfl (ws_i rfl ⟨fun _ => ?_, fun z => absurd z nf⟩))
    exact ws_iload rfl mv_at_me rfl (ws_i rfl (hf hlt 0 S2 g1))
  · refine ws_istore rfl rfl rfl rfl (ws_goto (t := 19) rfl (by decide) (mv_fuel (n := F) (by omega) ?_))
    refine hF hle _ _ a b (nI j) (j + 1) ⟨?_, ?_, ?_, ?_, mv_at_me, ?_⟩ hmk ?_ ?_ (yUs_ws (N := N) (stk := stk) (fun i b' k' v' X' Y' hi => hus i b' k' v' X' Y' (by rw [List.getElem?_append_left (List.getElem?_eq_some_iff.mp hi).1]; exact hi)) (fun T c z => yV_mono hj0 hj z) (fun o i o1 o2 _ => by rw [yMc_r, if_neg (by omega), if_neg (by omega), if_neg (by omega), if_neg (by omega)])) htr
    · exact mv_at_sr (by decide) a0
    · exact mv_at_sv (by decide) mv_at_me
    · exact mv_at_sv (by decide) (mv_at_sv (by decide) hl.2.2.1)
    · exact mv_at_sv (by decide) (mv_at_sv (by decide) hl.2.2.2.1)
    · exact mv_at_sv (by decide) (mv_at_sv (by decide) hl.2.2.2.2.2)
    · rw [yMc_f, if_neg (by decide), if_neg (by decide)]; exact hsd
    · rw [yMc_f, if_neg (by decide), if_neg (by decide)]; exact h57
end YM
