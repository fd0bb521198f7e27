/-! MARKING -/
theorem nd_len : ∀ (n : Nat) {V : List Nat}, V.Nodup → (∀ i, i ∈ V → 1 ≤ i ∧ i ≤ n) → V.length ≤ n
  | 0, V, _, h => by
    cases V with
    | nil => simp
    | cons a t =>
      have := h a (by simp)
      omega
  | n + 1, V, nd, h => by
    by_cases c : (n + 1) ∈ V
    · have e := List.length_erase_of_mem c
      have q := nd_len n (nd.erase (n + 1)) (fun i hi => by
        have hh := nd.mem_erase_iff.mp hi
        have h1 := h i hh.2
        have h2 := hh.1
        omega)
      omega
    · have q := nd_len n nd (fun i hi => by
        have h1 := h i hi
        have h2 : i ≠ n + 1 := fun e => c (by rw [← e]; exact hi)
        omega)
      omega
theorem nd_same {α : Type} {V W : List α} (h1 : V.Nodup) (h2 : W.Nodup) (h : ∀ a, a ∈ V ↔ a ∈ W) : V.length = W.length := ((List.perm_ext_iff_of_nodup h1 h2).mpr h).length_eq
/-- nothing, or a cell of G -/
def hOk (M : Nat) (G : Nat → Prop) (c : Int32) : Prop := c = 0 ∨ ∃ i, c = nI i ∧ 1 ≤ i ∧ i ≤ M ∧ G i
theorem hOk_imp {M : Nat} {G G' : Nat → Prop} {c : Int32} (h : ∀ i, G i → G' i) : hOk M G c → hOk M G' c
  | Or.inl z => Or.inl z
  | Or.inr ⟨i, a, b, e, g⟩ => Or.inr ⟨i, a, b, e, h i g⟩
theorem hCs_ok {K V A B : Nat → Int32} {σ : Nat → Nat} {M : Nat} (hM : M < 2 ^ 31) : ∀ {T : tT} {c : Int32}, hTr K V A B σ M T c → hOk M (fun i => i ∈ hCs A B T c) c ∧ (∀ i, i ∈ hCs A B T c → 1 ≤ i ∧ i ≤ M ∧ hOk M (fun i => i ∈ hCs A B T c) (A i) ∧ hOk M (fun i => i ∈ hCs A B T c) (B i))
  | .leaf, _, h => ⟨Or.inl h, fun i hi => by cases hi⟩
  | .inner s k v l r, c, h => by
    obtain ⟨i, i1, i2, rfl, h1, h2, h3, h4, h5⟩ := h
    have ei : (nI i).toNatClampNeg = i := nI_clamp (by omega)
    simp only [hCs, ei]
    obtain ⟨a1, a2⟩ := hCs_ok hM h4
    obtain ⟨b1, b2⟩ := hCs_ok hM h5
    have la : ∀ x, hOk M (fun i => i ∈ hCs A B l (A i)) x → True := fun _ _ => trivial
    have ul : ∀ {x}, hOk M (fun j => j ∈ hCs A B l (A i)) x → hOk M (fun j => j ∈ i :: (hCs A B l (A i) ++ hCs A B r (B i))) x := fun {x} => hOk_imp (fun j hj => List.mem_cons_of_mem _ (List.mem_append.mpr (Or.inl hj)))
    have ur : ∀ {x}, hOk M (fun j => j ∈ hCs A B r (B i)) x → hOk M (fun j => j ∈ i :: (hCs A B l (A i) ++ hCs A B r (B i))) x := fun {x} => hOk_imp (fun j hj => List.mem_cons_of_mem _ (List.mem_append.mpr (Or.inr hj)))
    refine ⟨Or.inr ⟨i, rfl, i1, i2, by simp⟩, fun j hj => ?_⟩
    rcases List.mem_cons.mp hj with rfl | hj
    · exact ⟨i1, i2, ul a1, ur b1⟩
    · rcases List.mem_append.mp hj with hj | hj
      · obtain ⟨q1, q2, q3, q4⟩ := a2 j hj
        exact ⟨q1, q2, ul q3, ul q4⟩
      · obtain ⟨q1, q2, q3, q4⟩ := b2 j hj
        exact ⟨q1, q2, ur q3, ur q4⟩
theorem hCs_sub {K V A B : Nat → Int32} {σ : Nat → Nat} {M : Nat} (hM : M < 2 ^ 31) {W : Nat → Prop} (hW : ∀ i, W i → hOk M W (A i) ∧ hOk M W (B i)) : ∀ {T : tT} {c : Int32}, hTr K V A B σ M T c → hOk M W c → ∀ i, i ∈ hCs A B T c → W i
  | .leaf, _, _, _, i, hi => by cases hi
  | .inner s k v l r, c, h, hc, j, hj => by
    obtain ⟨i, i1, i2, rfl, h1, h2, h3, h4, h5⟩ := h
    have ei : (nI i).toNatClampNeg = i := nI_clamp (by omega)
    simp only [hCs, ei] at hj
    have wi : W i := by
      rcases hc with z | ⟨i', e, a, b, w⟩
      · exact absurd z (nI_ne0 (by omega) (by omega))
      · rw [(nI_eq (by omega) (by omega)).mp e]; exact w
    rcases List.mem_cons.mp hj with rfl | hj
    · exact wi
    · rcases List.mem_append.mp hj with hj | hj
      · exact hCs_sub hM hW h4 (hW i wi).1 j hj
      · exact hCs_sub hM hW h5 (hW i wi).2 j hj
theorem nI_dec (n : Nat) : nI (n + 1) + Int32.ofInt (-1) = nI n := by
  rw [show Int32.ofInt (-1) = -1 by decide, ← Int32.sub_eq_add_neg]; exact nI_pred n
/-- the cells V are marked in this round -/
def xMd (S : mv_S) (V : List Nat) : Prop := V.Nodup ∧ (∀ i, i ∈ V → 1 ≤ i ∧ i ≤ 800) ∧ S.1 3 11 = nI V.length ∧ (∀ i, 1 ≤ i → i ≤ 800 → (S.2.1 21 i = S.1 3 10 ↔ i ∈ V))
/-- only marks have changed -/
def xRf (S S' : mv_S) : Prop := (∀ o f, ¬ (o = 3 ∧ f = 11) → S'.1 o f = S.1 o f) ∧ (∀ o i, o ≠ 21 → o ≠ 22 → S'.2.1 o i = S.2.1 o i) ∧ S'.2.2 = S.2.2 ∧ (∀ i, S'.2.1 21 i = S.2.1 21 i ∨ S'.2.1 21 i = S.1 3 10)
theorem xRf_refl {S : mv_S} : xRf S S := ⟨fun _ _ _ => rfl, fun _ _ _ _ => rfl, rfl, fun _ => Or.inl rfl⟩
theorem xRf_trans {S S' S2 : mv_S} (h : xRf S S') (g : xRf S' S2) : xRf S S2 := by
  refine ⟨fun o f a => (g.1 o f a).trans (h.1 o f a), fun o i a b => (g.2.1 o i a b).trans (h.2.1 o i a b), g.2.2.1.trans h.2.2.1, fun i => ?_⟩
  rcases g.2.2.2 i with z | z
  · rw [z]; exact h.2.2.2 i
  · exact Or.inr (z.trans (h.1 3 10 (by omega)))
def xCd (S : mv_S) (V : List Nat) : Prop := ∀ i, i ∈ V → hOk 800 (fun i => i ∈ V) (S.2.1 18 i) ∧ hOk 800 (fun i => i ∈ V) (S.2.1 19 i)
theorem xCd_go {S S' : mv_S} {V : List Nat} (g : xRf S S') (h : xCd S V) : xCd S' V := fun i hi => by
  rw [g.2.1 18 i (by decide) (by decide), g.2.1 19 i (by decide) (by decide)]; exact h i hi
section XR
variable {d : Nat} {P : Option Value → mv_S → Prop} {S S' : mv_S} {G : Nat → Prop} {V0 V : List Nat} {c0 c : Int32}
abbrev xNw (P : Option Value → mv_S → Prop) (d F pc : Nat) (l : List (Nat × Value)) (st : List Value) (S : mv_S) : Prop := mv_wp layX sysX tT0 5 none mX0_reach.2.2.2.2.2.2.2 (mv_big layX sysX d) P F pc l st S
def xNL (l : List (Nat × Value)) (n : Nat) (c : Int32) (i : Nat) : Prop := mv_at 0 l = some (.ref 3) ∧ mv_at 2 l = some (.int (nI n)) ∧ mv_at 3 l = some (.int c) ∧ mv_at 4 l = some (.int (nI i))
/-- what is still to be seen -/
def xNz (S : mv_S) (c0 : Int32) (V : List Nat) (x : Int32) : Prop := x = c0 ∨ ∃ i, i ∈ V ∧ (x = S.2.1 18 i ∨ x = S.2.1 19 i)
def xNi (S S' : mv_S) (G : Nat → Prop) (V0 V : List Nat) (c0 c : Int32) (n i : Nat) : Prop := xRf S S' ∧ xMd S' V ∧ (∀ i, i ∈ V0 → i ∈ V) ∧ (∀ i, i ∈ V → i ∈ V0 ∨ G i) ∧ n ≤ V.length ∧ hOk 800 G c ∧ (∀ p, p < n → hOk 800 G (S'.2.1 22 p)) ∧ (∀ x, xNz S c0 V x → hOk 800 (fun i => i ∈ V) x ∨ x = c ∨ ∃ p, p < n ∧ S'.2.1 22 p = x) ∧ i + 3 * (800 - V.length) + 2 * n + (if c = 0 then 0 else 1) ≤ 2409
theorem xN_mark {j n i : Nat} {S2 : mv_S} (hG : ∀ i, G i → 1 ≤ i ∧ i ≤ 800 ∧ hOk 800 G (S.2.1 18 i) ∧ hOk 800 G (S.2.1 19 i)) (h : xNi S S' G V0 V c0 (nI j) n i) (hj : G j) (nj : ¬ j ∈ V)
    (f2 : ∀ o f, S2.1 o f = if o = 3 ∧ f = 11 then nI (V.length + 1) else S'.1 o f) (r2 : ∀ o i, S2.2.1 o i = if o = 22 ∧ i = n then S.2.1 19 j else if o = 21 ∧ i = j then S'.1 3 10 else S'.2.1 o i) (l2 : S2.2.2 = S'.2.2) : xNi S S2 G V0 (j :: V) c0 (S.2.1 18 j) (n + 1) (i + 1) := by
  obtain ⟨h1, h2, h3, h4, h5, h6, h7, h8, h9⟩ := h
  obtain ⟨j1, j2, j3, j4⟩ := hG j hj
  have nd : (j :: V).Nodup := List.nodup_cons.mpr ⟨nj, h2.1⟩
  have bd : ∀ i, i ∈ j :: V → 1 ≤ i ∧ i ≤ 800 := fun i hi => by
    rcases List.mem_cons.mp hi with rfl | hi
    · exact ⟨j1, j2⟩
    · exact h2.2.1 i hi
  have le := nd_len 800 nd bd
  simp only [List.length_cons] at le
  have e10 : S2.1 3 10 = S'.1 3 10 := by rw [f2, if_neg (by omega)]
  have up : ∀ {x}, hOk 800 (fun i => i ∈ V) x → hOk 800 (fun i => i ∈ j :: V) x := fun {x} => hOk_imp (fun i hi => List.mem_cons_of_mem _ hi)
  refine ⟨⟨fun o f a => by rw [f2, if_neg a]; exact h1.1 o f a, fun o i a b => by rw [r2, if_neg (fun z => b z.1), if_neg (fun z => a z.1)]; exact h1.2.1 o i a b, l2.trans h1.2.2.1, fun i => ?_⟩, ⟨nd, bd, by rw [f2, if_pos ⟨rfl, rfl⟩, List.length_cons], fun i i1 i2 => ?_⟩, fun i hi => List.mem_cons_of_mem _ (h3 i hi), fun i hi => ?_, by rw [List.length_cons]; omega, j3, fun p hp => ?_, fun x hx => ?_, ?_⟩
  · rw [r2, if_neg (by omega)]
    split
    · exact Or.inr (h1.1 3 10 (by omega))
    · exact h1.2.2.2 i
  · rw [e10, r2, if_neg (by omega)]
    by_cases e : i = j
    · rw [if_pos ⟨rfl, e⟩, e]; simp
    · rw [if_neg (fun z => e z.2), h2.2.2.2 i i1 i2, List.mem_cons]
      exact ⟨Or.inr, fun z => z.resolve_left e⟩
  · rcases List.mem_cons.mp hi with rfl | hi
    · exact Or.inr hj
    · exact h4 i hi
  · rw [r2]
    by_cases e : p = n
    · rw [if_pos ⟨rfl, e⟩]; exact j4
    · rw [if_neg (fun z => e z.2), if_neg (by omega)]; exact h7 p (by omega)
  · have old : xNz S c0 V x → hOk 800 (fun i => i ∈ j :: V) x ∨ x = S.2.1 18 j ∨ ∃ p, p < n + 1 ∧ S2.2.1 22 p = x := fun z => by
      rcases h8 x z with y | y | ⟨p, p1, p2⟩
      · exact Or.inl (up y)
      · exact Or.inl (Or.inr ⟨j, y, j1, j2, by simp⟩)
      · exact Or.inr (Or.inr ⟨p, by omega, by rw [r2, if_neg (by omega), if_neg (by omega)]; exact p2⟩)
    rcases hx with z | ⟨q, q1, q2⟩
    · exact old (Or.inl z)
    · rcases List.mem_cons.mp q1 with rfl | q1
      · rcases q2 with q2 | q2
        · exact Or.inr (Or.inl q2)
        · exact Or.inr (Or.inr ⟨n, by omega, by rw [r2, if_pos ⟨rfl, rfl⟩]; exact q2.symm⟩)
      · exact old (Or.inr ⟨q, q1, q2⟩)
  · rw [if_neg (nI_ne0 (by omega) (by omega))] at h9
    rw [List.length_cons]
    split <;> omega
theorem xN_pop {n i : Nat} (h : xNi S S' G V0 V c0 c (n + 1) i) (hc : hOk 800 (fun i => i ∈ V) c) : xNi S S' G V0 V c0 (S'.2.1 22 n) n (i + 1) := by
  obtain ⟨h1, h2, h3, h4, h5, h6, h7, h8, h9⟩ := h
  refine ⟨h1, h2, h3, h4, by omega, h7 n (by omega), fun p hp => h7 p (by omega), fun x hx => ?_, ?_⟩
  · rcases h8 x hx with z | z | ⟨p, p1, p2⟩
    · exact Or.inl z
    · rw [z]; exact Or.inl hc
    · by_cases e : p = n
      · rw [e] at p2; exact Or.inr (Or.inl p2.symm)
      · exact Or.inr (Or.inr ⟨p, by omega, p2⟩)
  · split at h9 <;> split <;> omega
theorem xN_nil {i : Nat} (h : xNi S S' G V0 V c0 c 0 i) (hc : hOk 800 (fun i => i ∈ V) c) (hc0 : ¬ c = 0) : xNi S S' G V0 V c0 0 0 (i + 1) := by
  obtain ⟨h1, h2, h3, h4, h5, h6, h7, h8, h9⟩ := h
  refine ⟨h1, h2, h3, h4, by omega, Or.inl rfl, fun p hp => absurd hp (by omega), fun x hx => ?_, ?_⟩
  · rcases h8 x hx with z | z | ⟨p, p1, p2⟩
    · exact Or.inl z
    · rw [z]; exact Or.inl hc
    · omega
  · rw [if_neg hc0] at h9
    rw [if_pos rfl]
    omega
def xNe (S : mv_S) (G : Nat → Prop) (V0 : List Nat) (c0 : Int32) (P : Option Value → mv_S → Prop) : Prop := ∀ S' V, xRf S S' → xMd S' V → xCd S' V → (∀ i, i ∈ V0 → i ∈ V) → (∀ i, i ∈ V → i ∈ V0 ∨ G i) → hOk 800 (fun i => i ∈ V) c0 → P none S'
theorem xN_end {i : Nat} (h : xNi S S' G V0 V c0 c 0 i) (hc : c = 0) (hP : xNe S G V0 c0 P) : P none S' := by
  obtain ⟨h1, h2, h3, h4, h5, h6, h7, h8, h9⟩ := h
  have al : ∀ x, xNz S c0 V x → hOk 800 (fun i => i ∈ V) x := fun x hx => by
    rcases h8 x hx with z | z | ⟨p, p1, p2⟩
    · exact z
    · exact Or.inl (z.trans hc)
    · omega
  exact hP S' V h1 h2 (xCd_go h1 (fun i hi => ⟨al _ (Or.inr ⟨i, hi, Or.inl rfl⟩), al _ (Or.inr ⟨i, hi, Or.inr rfl⟩)⟩)) h3 h4 (al _ (Or.inl rfl))
set_option maxHeartbeats 1000000 in
set_option maxRecDepth 8000 in
theorem xN_loop (hG : ∀ i, G i → 1 ≤ i ∧ i ≤ 800 ∧ hOk 800 G (S.2.1 18 i) ∧ hOk 800 G (S.2.1 19 i)) (hP : xNe S G V0 c0 P) : ∀ (k i n : Nat) (l : List (Nat × Value)) (c : Int32) (S' : mv_S) (V : List Nat), i + k = 2409 → xNL l n c i → xNi S S' G V0 V c0 c n i → xNw P d (70 * k + 40) 7 l [] S'
  | 0, i, n, l, c, S', V, hk, hl, h => by
    obtain rfl : i = 2409 := by omega
    have h9 := h.2.2.2.2.2.2.2.2
    have hc : c = 0 := by
      by_cases z : c = 0
      · exact z
      · rw [if_neg z] at h9; omega
    obtain rfl : n = 0 := by omega
    obtain ⟨l0, l2, l3, l4⟩ := hl
    refine ws_iload rfl (l4) rfl (ws_sipush (x := 2409) rfl rfl rfl (ws_i rfl ⟨fun _ => ?_, fun z => absurd (show (2409 : Int32) ≤ nI 2409 by decide) z⟩))
    refine ws_i rfl ?_
    exact xN_end h hc hP
  | k + 1, i, n, l, c, S', V, hk, hl, h => by
    have h0 := h
    have nd8 := nd_len 800 h.2.1.1 h.2.1.2.1
    have hn8 := h.2.2.2.2.1
    obtain ⟨l0, l2, l3, l4⟩ := hl
    have lt : ¬ (2409 : Int32) ≤ nI i := nI_ge (b := 2409) (by omega) (by decide)
    refine mv_fuel (n := 70 * k + 40 + 70) (by omega) ?_
    refine ws_iload rfl (l4) rfl (ws_sipush (x := 2409) rfl rfl rfl (ws_i rfl ⟨fun z => absurd z lt, fun _ => ?_⟩))
    by_cases hc : c = 0
    · subst hc
      cases n with
      | zero =>
        refine ws_iload_n rfl (l3) rfl (ws_i rfl ⟨fun z => absurd rfl z, fun _ => ?_⟩)
        refine ws_iload_n rfl (l2) rfl (ws_i rfl ⟨fun _ => ?_, fun z => absurd (show nI 0 ≤ 0 by decide) z⟩)
        refine ws_i rfl ?_
        exact xN_end h rfl hP
      | succ m =>
        have vm : vp_in (nI m) 803 := vp_in_nI (by omega) (by decide)
        have ecm : (nI m).toNatClampNeg = m := nI_clamp (by omega)
        have gt : ¬ nI (m + 1) ≤ 0 := fun z => absurd z (by rw [← nI_0]; exact nI_ge (by omega) (by omega))
        refine ws_iload_n rfl (l3) rfl (ws_i rfl ⟨fun z => absurd rfl z, fun _ => ?_⟩)
        refine ws_iload_n rfl (l2) rfl (ws_i rfl ⟨fun z => absurd z gt, fun _ => ?_⟩)
        refine ws_iload_n rfl (l3) rfl (ws_i rfl ⟨fun _ => ?_, fun z => absurd (show (0 : Int32) ≤ 0 by decide) z⟩)
        refine ws_iload_n rfl (l2) rfl (ws_i rfl ⟨fun z => absurd z gt, fun _ => ?_⟩)
        refine ws_iinc (y := nI m) rfl (l2) rfl ((nI_dec m)) rfl rfl (ws_aload_n rfl (mv_at_sr (by decide) (l0)) rfl (ws_getr rfl rfl rfl (ws_iload_n rfl (mv_at_me) rfl (ws_i rfl ⟨vm, ?_⟩))))
        rw [ecm]
        refine ws_istore_n rfl rfl rfl rfl (ws_goto (t := 118) rfl (by decide) (ws_iinc (y := nI (i + 1)) rfl (mv_at_sv (by decide) (mv_at_sv (by decide) (l4))) rfl ((nI_succ i).symm) rfl rfl (ws_goto (t := 7) rfl (by decide) (?_))))
        exact mv_fuel (n := 70 * k + 40) (by omega) (xN_loop hG hP k (i + 1) m _ _ _ _ (by omega) ⟨mv_at_sr (by decide) (mv_at_sr (by decide) (mv_at_sr (by decide) (l0))), mv_at_sv (by decide) (mv_at_sv (by decide) (mv_at_me)), mv_at_sv (by decide) (mv_at_me), mv_at_me⟩ (xN_pop h (Or.inl rfl)))
    · obtain ⟨j, rfl, j1, j2, hj⟩ := h.2.2.2.2.2.1.resolve_left hc
      have vj : vp_in (nI j) 803 := vp_in_nI (by omega) (by decide)
      have ecj : (nI j).toNatClampNeg = j := nI_clamp (by omega)
      have g1 : ¬ nI j ≤ 0 := fun z => absurd z (by rw [← nI_0]; exact nI_ge (by omega) (by omega))
      have g2 : ¬ (803 : Int32) ≤ nI j := nI_ge (b := 803) (by omega) (by decide)
      have g3 : ¬ (803 : Int32) ≤ nI n := nI_ge (b := 803) (by omega) (by decide)
      refine ws_iload_n rfl (l3) rfl (ws_i rfl ⟨fun _ => ?_, fun z => absurd z hc⟩)
      refine ws_iload_n rfl (l3) rfl (ws_i rfl ⟨fun z => absurd z g1, fun _ => ?_⟩)
      refine ws_iload_n rfl (l3) rfl (ws_sipush (x := 803) rfl rfl rfl (ws_i rfl ⟨fun z => absurd z g2, fun _ => ?_⟩))
      refine ws_iload_n rfl (l2) rfl (ws_sipush (x := 803) rfl rfl rfl (ws_i rfl ⟨fun z => absurd z g3, fun _ => ?_⟩))
      refine ws_aload_n rfl (l0) rfl (ws_getr rfl rfl rfl (ws_iload_n rfl (l3) rfl (ws_i rfl ⟨vj, ?_⟩)))
      rw [ecj]
      refine ws_aload_n rfl (l0) rfl (ws_geti rfl rfl (rfl) rfl (?_))
      by_cases hm : j ∈ V
      · have em : S'.2.1 21 j = S'.1 3 10 := (h.2.1.2.2.2 j j1 j2).mpr hm
        have ok : hOk 800 (fun i => i ∈ V) (nI j) := Or.inr ⟨j, rfl, j1, j2, hm⟩
        refine ws_i rfl ⟨fun _ => ?_, fun z => absurd em z⟩
        cases n with
        | zero =>
          refine ws_iload_n rfl (l2) rfl (ws_i rfl ⟨fun _ => ?_, fun z => absurd (show nI 0 ≤ 0 by decide) z⟩)
          refine ws_iconst (x := 0) rfl rfl rfl (ws_istore_n rfl rfl rfl rfl (ws_iinc (y := nI (i + 1)) rfl (mv_at_sv (by decide) (l4)) rfl ((nI_succ i).symm) rfl rfl (ws_goto (t := 7) rfl (by decide) (?_))))
          exact mv_fuel (n := 70 * k + 40) (by omega) (xN_loop hG hP k (i + 1) 0 _ 0 _ _ (by omega) ⟨mv_at_sr (by decide) (mv_at_sr (by decide) (l0)), mv_at_sv (by decide) (mv_at_sv (by decide) (l2)), mv_at_sv (by decide) (mv_at_me), mv_at_me⟩ (xN_nil h ok hc))
        | succ m =>
          have vm : vp_in (nI m) 803 := vp_in_nI (by omega) (by decide)
          have ecm : (nI m).toNatClampNeg = m := nI_clamp (by omega)
          have gt : ¬ nI (m + 1) ≤ 0 := fun z => absurd z (by rw [← nI_0]; exact nI_ge (by omega) (by omega))
          refine ws_iload_n rfl (l2) rfl (ws_i rfl ⟨fun z => absurd z gt, fun _ => ?_⟩)
          refine ws_iinc (y := nI m) rfl (l2) rfl ((nI_dec m)) rfl rfl (ws_aload_n rfl (mv_at_sr (by decide) (l0)) rfl (ws_getr rfl rfl rfl (ws_iload_n rfl (mv_at_me) rfl (ws_i rfl ⟨vm, ?_⟩))))
          rw [ecm]
          refine ws_istore_n rfl rfl rfl rfl (ws_goto (t := 118) rfl (by decide) (ws_iinc (y := nI (i + 1)) rfl (mv_at_sv (by decide) (mv_at_sv (by decide) (l4))) rfl ((nI_succ i).symm) rfl rfl (ws_goto (t := 7) rfl (by decide) (?_))))
          exact mv_fuel (n := 70 * k + 40) (by omega) (xN_loop hG hP k (i + 1) m _ _ _ _ (by omega) ⟨mv_at_sr (by decide) (mv_at_sr (by decide) (mv_at_sr (by decide) (l0))), mv_at_sv (by decide) (mv_at_sv (by decide) (mv_at_me)), mv_at_sv (by decide) (mv_at_me), mv_at_me⟩ (xN_pop h ok))
      · have em : ¬ S'.2.1 21 j = S'.1 3 10 := fun z => hm ((h.2.1.2.2.2 j j1 j2).mp z)
        have h11 : S'.1 3 11 = nI V.length := h.2.1.2.2.1
        have vn : vp_in (nI n) 803 := vp_in_nI (by omega) (by decide)
        have ecn : (nI n).toNatClampNeg = n := nI_clamp (by omega)
        have q18 : S'.2.1 18 j = S.2.1 18 j := h.1.2.1 18 j (by decide) (by decide)
        have q19 : S'.2.1 19 j = S.2.1 19 j := h.1.2.1 19 j (by decide) (by decide)
        refine ws_i rfl ⟨fun z => absurd z em, fun _ => ?_⟩
        refine ws_aload_n rfl (l0) rfl (ws_getr rfl rfl rfl (ws_iload_n rfl (l3) rfl (ws_aload_n rfl (l0) rfl (ws_geti rfl rfl (rfl) rfl (ws_i rfl ⟨vj, ?_⟩)))))
        rw [ecj]
        refine ws_aload_n rfl (l0) rfl (ws_dup_r rfl rfl (ws_geti rfl rfl (h11) rfl (ws_iconst (x := 1) rfl rfl rfl (ws_iadd rfl (nI_1 _) rfl (?_)))))
        refine ws_puti rfl rfl rfl ?_
        obtain ⟨S1, hS1⟩ : ∃ S1, S1 = mv_pf (mv_pr S' 21 j (S'.1 3 10)) 3 11 (nI (V.length + 1)) := ⟨_, rfl⟩
        rw [← hS1]
        have r1 : ∀ o i, S1.2.1 o i = if o = 21 ∧ i = j then S'.1 3 10 else S'.2.1 o i := fun o i => by
          rw [hS1]
          show (mv_pr S' 21 j (S'.1 3 10)).2.1 o i = _
          rw [pr_get]
        refine ws_aload_n rfl (l0) rfl (ws_getr rfl rfl rfl (ws_iload_n rfl (l2) rfl (ws_aload_n rfl (l0) rfl (ws_getr rfl rfl rfl (ws_iload_n rfl (l3) rfl (ws_i rfl ⟨vj, ?_⟩))))))
        rw [ecj, r1, if_neg (by omega), q19]
        refine ws_i rfl ⟨vn, ?_⟩
        rw [ecn]
        refine ws_iinc (y := nI (n + 1)) rfl (l2) rfl ((nI_succ n).symm) rfl rfl (?_)
        obtain ⟨S2, hS2⟩ : ∃ S2, S2 = mv_pr S1 22 n (S.2.1 19 j) := ⟨_, rfl⟩
        rw [← hS2]
        have r2 : ∀ o i, S2.2.1 o i = if o = 22 ∧ i = n then S.2.1 19 j else if o = 21 ∧ i = j then S'.1 3 10 else S'.2.1 o i := fun o i => by rw [hS2, pr_get, r1]
        have f2 : ∀ o f, S2.1 o f = if o = 3 ∧ f = 11 then nI (V.length + 1) else S'.1 o f := fun o f => by
          rw [hS2]
          show S1.1 o f = _
          rw [hS1, pf_get]
          rfl
        refine ws_aload_n rfl (mv_at_sr (by decide) (l0)) rfl (ws_getr rfl rfl rfl (ws_iload_n rfl (mv_at_sv (by decide) (l3)) rfl (ws_i rfl ⟨vj, ?_⟩)))
        rw [ecj, r2, if_neg (by omega), if_neg (by omega), q18]
        refine ws_istore_n rfl rfl rfl rfl (ws_goto (t := 118) rfl (by decide) (ws_iinc (y := nI (i + 1)) rfl (mv_at_sv (by decide) (mv_at_sv (by decide) (l4))) rfl ((nI_succ i).symm) rfl rfl (ws_goto (t := 7) rfl (by decide) (?_))))
        exact mv_fuel (n := 70 * k + 40) (by omega) (xN_loop hG hP k (i + 1) (n + 1) _ _ _ _ (by omega) ⟨mv_at_sr (by decide) (mv_at_sr (by decide) (mv_at_sr (by decide) (l0))), mv_at_sv (by decide) (mv_at_sv (by decide) (mv_at_me)), mv_at_sv (by decide) (mv_at_me), mv_at_me⟩ (xN_mark hG h hj hm f2 r2 (by rw [hS2, hS1]; rfl)))
set_option maxHeartbeats 1000000 in
set_option maxRecDepth 8000 in
theorem x_reach (hG : ∀ i, G i → 1 ≤ i ∧ i ≤ 800 ∧ hOk 800 G (S.2.1 18 i) ∧ hOk 800 G (S.2.1 19 i)) (hV : xMd S V0) (hC : xCd S V0) (hc : hOk 800 G c0) (hP : xNe S G V0 c0 P) : mv_big layX sysX (d + 1) 19 [.ref 3, .int c0] S P := by
  refine ⟨70 * 2409 + 40 + 20, ?_⟩
  refine ws_iconst (x := 0) rfl rfl rfl (ws_istore_n rfl rfl rfl rfl (ws_iload_n rfl rfl rfl (ws_istore_n rfl rfl rfl rfl (ws_iconst (x := 0) rfl rfl rfl (ws_istore rfl rfl rfl rfl ?_)))))
  refine mv_fuel (n := 70 * 2409 + 40) (by omega) (xN_loop hG hP 2409 0 0 _ c0 S V0 (by omega) ⟨rfl, rfl, rfl, rfl⟩ ⟨xRf_refl, hV, fun _ h => h, fun _ h => Or.inl h, by omega, hc, fun p hp => absurd hp (by omega), fun x hx => ?_, ?_⟩)
  · rcases hx with z | ⟨i, i1, i2⟩
    · exact Or.inr (Or.inl z)
    · obtain ⟨a, b⟩ := hC i i1
      rcases i2 with z | z
      · rw [z]; exact Or.inl a
      · rw [z]; exact Or.inl b
  · split <;> omega
end XR
