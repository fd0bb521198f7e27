/-! WHAT THE FACE SHOWS: maps, live cells -/
/-- the n-th part on from C, by keys -/
def tNt (R : tT) : Nat → tT → tT
  | 0, C => C
  | n + 1, C => tSel C C (tNt R n (tNx (some (tKy C)) R))
def tNth (i : Int32) (R : tT) : tT := if i < 0 then .leaf else tNt R i.toNatClampNeg (tNx none R)
/-- parts with a key above k -/
def tGt (k : Int32) : tT → Nat
  | .leaf => 0
  | .inner _ k' _ l r => (if k < k' then 1 else 0) + tGt k l + tGt k r
theorem tGt_le (k : Int32) : ∀ T, tGt k T ≤ tN T
  | .leaf => Nat.le_refl _
  | .inner _ k' _ l r => by
    have h1 := tGt_le k l
    have h2 := tGt_le k r
    rw [tGt, tN]
    split <;> omega
theorem tGt_if {a b : Int32} (h : a < b) (k : Int32) : (if b < k then 1 else 0) ≤ (if a < k then 1 else 0 : Nat) := by
  by_cases c : b < k
  · rw [if_pos c, if_pos (Int32.lt_trans h c)]; exact Nat.le_refl _
  · rw [if_neg c]; exact Nat.zero_le _
theorem tGt_mono {a b : Int32} (h : a < b) : ∀ T, tGt b T ≤ tGt a T
  | .leaf => Nat.le_refl _
  | .inner _ k' _ l r => by
    have h1 := tGt_mono h l
    have h2 := tGt_mono h r
    have h3 := tGt_if h k'
    rw [tGt, tGt]
    omega
theorem tGt_abv {a : Int32} : ∀ T b, tAbv (aP (some a)) (aD (some a)) b T = b ∨ (a < tKy (tAbv (aP (some a)) (aD (some a)) b T) ∧ tGt (tKy (tAbv (aP (some a)) (aD (some a)) b T)) T < tGt a T)
  | .leaf, b => Or.inl rfl
  | .inner s k' v l r, b => by
    unfold tAbv
    by_cases c : a < k'
    · rw [show aD (some a) k' = .isTrue c from by show (inferInstanceAs (Decidable (a < k')) : Decidable (a < k')) = _; exact Subsingleton.elim _ _]
      refine Or.inr ?_
      show a < tKy (tAbv (aP (some a)) (aD (some a)) (.inner s k' v l r) l) ∧ tGt (tKy (tAbv (aP (some a)) (aD (some a)) (.inner s k' v l r) l)) (.inner s k' v l r) < tGt a (.inner s k' v l r)
      rcases tGt_abv l (.inner s k' v l r) with e | ⟨e1, e2⟩
      · rw [e]
        refine ⟨c, ?_⟩
        show tGt k' (.inner s k' v l r) < _
        have h1 := tGt_mono c l
        have h2 := tGt_mono c r
        rw [tGt, tGt, if_pos c, if_neg Int32.lt_irrefl]
        omega
      · refine ⟨e1, ?_⟩
        have h2 := tGt_mono e1 r
        have h3 := tGt_if e1 k'
        rw [tGt, tGt]
        omega
    · rw [show aD (some a) k' = .isFalse c from by show (inferInstanceAs (Decidable (a < k')) : Decidable (a < k')) = _; exact Subsingleton.elim _ _]
      show tAbv (aP (some a)) (aD (some a)) b r = b ∨ (a < tKy (tAbv (aP (some a)) (aD (some a)) b r) ∧ tGt (tKy (tAbv (aP (some a)) (aD (some a)) b r)) (.inner s k' v l r) < tGt a (.inner s k' v l r))
      rcases tGt_abv r b with e | ⟨e1, e2⟩
      · exact Or.inl e
      · refine Or.inr ⟨e1, ?_⟩
        have h2 := tGt_mono e1 l
        have h3 := tGt_if e1 k'
        rw [tGt, tGt]
        omega
/-- behind the last key there is none -/
theorem tNt_end {R : tT} : ∀ (n : Nat) (C : tT), C = .leaf ∨ tGt (tKy C) R < n → tNt R n C = .leaf
  | 0, C, h => h.elim id (fun z => absurd z (Nat.not_lt_zero _))
  | n + 1, C, h => by
    rw [tNt]
    by_cases e : C = .leaf
    · rw [tSel_l e]; exact e
    · rw [tSel_n e]
      refine tNt_end n _ ?_
      rcases tGt_abv (a := tKy C) R .leaf with z | ⟨_, z2⟩
      · exact Or.inl z
      · refine Or.inr ?_
        have h : tGt (tKy C) R < n + 1 := h.resolve_left e
        show tGt (tKy (tAbv (aP (some (tKy C))) (aD (some (tKy C))) .leaf R)) R < n
        omega
/-- the class's store: variables, maps, what was told -/
def xVe (S : mv_S) (σ : Nat → Nat) (vs : Nat → Int32) (mp : Nat → tT) (told : List Int32) (most B : Nat) : Prop := (∀ i, i < 8 → S.2.1 23 i = vs i) ∧ (∀ i, i < 4 → xTr S σ (mp i) (S.2.1 24 i)) ∧ (S.1 4 14 = nI told.length ∧ told.length ≤ 300 ∧ ∀ p x, told[p]? = some x → S.2.1 31 p = x) ∧ S.1 4 16 = nI most ∧ ∃ r, r ≤ B ∧ xRo S r
def yVe (T : mv_S) (σ : Nat → Nat) (vs : Nat → Int32) (mp : Nat → tT) (told : List Int32) (most : Nat) : Prop := (∀ i, i < 8 → T.2.1 19 i = vs i) ∧ (∀ i, i < 4 → yTr T σ (mp i) (T.2.1 20 i)) ∧ (T.1 0 50 = nI told.length ∧ told.length ≤ 300 ∧ ∀ p x, told[p]? = some x → T.2.1 29 p = x) ∧ T.1 0 33 = nI most
def mOk (mp : Nat → tT) : Prop := ∀ i, i < 4 → tOrd (mp i) ∧ tN (mp i) ≤ 400
theorem pick_4 {w : Int32} {a b c e f : Int} (h0 : ¬ w = 0) (h1 : ¬ w = 1) (h2 : ¬ w = 2) (h3 : ¬ w = 3) : mv_pick w f (mv_tb 0 [a, b, c, e]) = f := by
  show (if w = Int32.ofInt 0 then a else if w = Int32.ofInt (0 + 1) then b else if w = Int32.ofInt (0 + 1 + 1) then c else if w = Int32.ofInt (0 + 1 + 1 + 1) then e else f) = f
  rw [if_neg (show ¬ w = Int32.ofInt 0 from h0), if_neg (show ¬ w = Int32.ofInt (0 + 1) from h1), if_neg (show ¬ w = Int32.ofInt (0 + 1 + 1) from h2), if_neg (show ¬ w = Int32.ofInt (0 + 1 + 1 + 1) from h3)]
section FX
variable {d : Nat} {P : Option Value → mv_S → Prop} {S : mv_S} {σ : Nat → Nat} {vs : Nat → Int32} {mp : Nat → tT} {told : List Int32} {most B : Nat} {m w i : Int32}
theorem x_ntN {R : tT} {t : Int32} (hR : xTr S σ R t) (hn : tN R ≤ 400) : ∀ (n : Nat) (C : tT) (c : Int32), xTr S σ C c → xTr S σ (tNt R n C) (xNthN n S t c)
  | 0, C, c, h => h
  | n + 1, C, c, h => by
    have z0 := hTr_leaf (by decide) h
    rw [tNt, xNthN]
    by_cases e : C = .leaf
    · rw [if_pos (z0.mpr e), tSel_l e]; exact h
    · rw [if_neg (fun z => e (z0.mp z)), tSel_n e]
      refine x_ntN hR hn n _ _ ?_
      have := x_abv (p := aP (some (tKy C))) (D := aD (some (tKy C))) (q := aNx (some (tKy C))) (aP_x (some (tKy C))) (n := 803) (by omega) hR (show xTr S σ .leaf 0 from rfl)
      rw [(xTr_v h).2]
      exact this
theorem x_ntT {R : tT} {t : Int32} (hR : xTr S σ R t) (hn : tN R ≤ 400) : xTr S σ (tNth i R) (xNth S t i) := by
  unfold tNth xNth
  by_cases c : i < 0
  · rw [if_pos c, if_pos c]; rfl
  · rw [if_neg c, if_neg c]
    by_cases c8 : 800 ≤ i
    · obtain ⟨N, hN, rfl⟩ := nI_of c
      have h8 := (nI_leI (a := 800) (by decide) hN).mp c8
      have h9 := tGt_le (tKy (tNx none R)) R
      rw [if_pos c8, nI_clamp hN, tNt_end N _ (Or.inr (by omega))]; rfl
    rw [if_neg c8]
    refine x_ntN hR hn _ _ _ ?_
    exact x_abv (p := aP none) (D := aD none) (q := aNx none) (aP_x none) (n := 803) (by omega) hR (show xTr S σ .leaf 0 from rfl)
set_option maxHeartbeats 1000000 in
set_option maxRecDepth 8000 in
theorem x_mapG (V : xVe S σ vs mp told most B) (ok : mOk mp) (hB : B + 5 < 2 ^ 31) (hbad : ¬ ((0 ≤ m ∧ m < 4) ∧ (0 ≤ w ∧ w < 4)) → P (some (.int (-2))) S) (h0 : ∀ j, j < 4 → m = nI j → w = 0 → ∀ S' r, r ≤ B → xRg S S' r → P (some (.int (nI (tN (mp j))))) S') (h1 : ∀ j, j < 4 → m = nI j → w = 1 → P (some (.int (tKy (tNth i (mp j))))) S) (h2 : ∀ j, j < 4 → m = nI j → w = 2 → P (some (.int (tV (tNth i (mp j))))) S) (h3 : ∀ j, j < 4 → m = nI j → w = 3 → P (some (.int (tKy (mp j)))) S) : mv_big layX sysX (d + 5) 169 [.ref 0, .int m, .int w, .int i] S P := by
  refine ⟨80, ?_⟩
  by_cases c0 : m < 0
  · refine ws_iload_n rfl (rfl) rfl (ws_i rfl ⟨fun _ => ?_, fun z => absurd c0 z⟩)
    refine ws_bipush (x := (-2)) rfl rfl rfl (ws_i rfl ?_)
    exact hbad (fun z => absurd z.1.1 (Int32.not_le.mpr c0))
  by_cases c4 : m < 4
  rotate_left
  · refine ws_iload_n rfl (rfl) rfl (ws_i rfl ⟨fun z => absurd z c0, fun _ => ?_⟩)
    refine ws_iload_n rfl (rfl) rfl (ws_iconst (x := 4) rfl rfl rfl (ws_i rfl ⟨fun z => absurd z c4, fun _ => ?_⟩))
    refine ws_bipush (x := (-2)) rfl rfl rfl (ws_i rfl ?_)
    exact hbad (fun z => c4 z.1.2)
  obtain ⟨v1, v2⟩ := aN_of (n := 4) rfl (by decide) (Int32.not_lt.mp c0) c4
  have tr := V.2.1 _ v2
  have oj := ok _ v2
  have eT : rAt 54 (S.2.1 24) (xMP S m) = S.2.1 24 m.toNatClampNeg := by
    unfold xMP
    rw [if_pos c4]
    rw [show rAt 54 (S.2.1 24) m = rAt 54 (S.2.1 24) (nI m.toNatClampNeg) by rw [← v1], rAt_nI (by omega) (by decide)]
  refine ws_iload_n rfl (rfl) rfl (ws_i rfl ⟨fun z => absurd z c0, fun _ => ?_⟩)
  refine ws_iload_n rfl (rfl) rfl (ws_iconst (x := 4) rfl rfl rfl (ws_i rfl ⟨fun _ => ?_, fun z => absurd c4 z⟩))
  refine ws_aload_n rfl (rfl) rfl (ws_getr rfl rfl rfl (ws_iload_n rfl (rfl) rfl (ws_iv rfl rfl rfl ?_)))
  refine mv_deep (d := d + 2) (by omega) (x_tree ?_)
  rw [eT]
  by_cases w0 : w = 0
  · subst w0
    refine ws_istore rfl rfl rfl rfl (ws_iload_n rfl (rfl) rfl (ws_tab (t := 52) rfl rfl (by decide) (ws_aload_n rfl (rfl) rfl (ws_getr rfl rfl rfl (ws_iload rfl (rfl) rfl (ws_iv rfl rfl rfl ?_))))))
    obtain ⟨r, r1, r2⟩ := V.2.2.2.2
    have okc := hCs_ok (by decide) tr
    refine mv_deep (d := d + 2) (by omega) (x_sizeT (G := fun i => i ∈ hCs (S.2.1 18) (S.2.1 19) (mp m.toNatClampNeg) (S.2.1 24 m.toNatClampNeg)) r2 (by omega) okc.2 okc.1 (fun S2 V g1 g2 g3 g4 g5 => ?_))
    have eV : V.length = tN (mp m.toNatClampNeg) := by
      rw [← hCs_len (by decide) tr]
      refine nd_same g2.1 (hCs_nodup (by decide) tr oj.1) (fun i => ⟨g4 i, fun hi => ?_⟩)
      exact hCs_sub (W := fun i => i ∈ V) (by decide) (fun i hi => by
        have := g3 i hi
        rw [g1.2.1 18 i (by decide) (by decide), g1.2.1 19 i (by decide) (by decide)] at this
        exact this) tr g5 i hi
    rw [eV]
    refine ws_i rfl ?_
    exact h0 _ v2 v1 rfl S2 r r1 g1
  by_cases w1 : w = 1
  · subst w1
    refine ws_istore rfl rfl rfl rfl (ws_iload_n rfl (rfl) rfl (ws_tab (t := 62) rfl rfl (by decide) (ws_aload_n rfl (rfl) rfl (ws_getr rfl rfl rfl (ws_aload_n rfl (rfl) rfl (ws_getr rfl rfl rfl (ws_iload rfl (rfl) rfl (ws_iload_n rfl (rfl) rfl (ws_iv rfl rfl rfl ?_)))))))))
    refine mv_deep (d := d + 3) (by omega) (x_nth ?_)
    refine ws_iv rfl rfl rfl ?_
    refine mv_deep (d := d + 1) (by omega) (x_key ?_)
    rw [(xTr_v (x_ntT (i := i) tr oj.2)).2]
    refine ws_i rfl ?_
    exact h1 _ v2 v1 rfl
  by_cases w2 : w = 2
  · subst w2
    refine ws_istore rfl rfl rfl rfl (ws_iload_n rfl (rfl) rfl (ws_tab (t := 80) rfl rfl (by decide) (ws_aload_n rfl (rfl) rfl (ws_getr rfl rfl rfl (ws_aload_n rfl (rfl) rfl (ws_getr rfl rfl rfl (ws_iload rfl (rfl) rfl (ws_iload_n rfl (rfl) rfl (ws_iv rfl rfl rfl ?_)))))))))
    refine mv_deep (d := d + 3) (by omega) (x_nth ?_)
    refine ws_iv rfl rfl rfl ?_
    refine mv_deep (d := d + 1) (by omega) (x_value ?_)
    rw [(xTr_v (x_ntT (i := i) tr oj.2)).1]
    refine ws_i rfl ?_
    exact h2 _ v2 v1 rfl
  by_cases w3 : w = 3
  · subst w3
    refine ws_istore rfl rfl rfl rfl (ws_iload_n rfl (rfl) rfl (ws_tab (t := 98) rfl rfl (by decide) (ws_aload_n rfl (rfl) rfl (ws_getr rfl rfl rfl (ws_iload rfl (rfl) rfl (ws_iv rfl rfl rfl ?_))))))
    refine mv_deep (d := d + 1) (by omega) (x_key ?_)
    rw [(xTr_v tr).2]
    refine ws_i rfl ?_
    exact h3 _ v2 v1 rfl
  refine ws_istore rfl rfl rfl rfl (ws_iload_n rfl (rfl) rfl (ws_tab (t := 108) rfl rfl ?_ ?_))
  · show (23 : Int) + mv_pick w 85 (mv_tb 0 [29, 39, 57, 75]) = 108
    rw [pick_4 w0 w1 w2 w3]; rfl
  · refine ws_bipush (x := (-2)) rfl rfl rfl (ws_i rfl ?_)
    refine hbad (fun z => ?_)
    obtain ⟨u1, u2⟩ := aN_of (n := 4) rfl (by decide) z.2.1 z.2.2
    have : w.toNatClampNeg = 0 ∨ w.toNatClampNeg = 1 ∨ w.toNatClampNeg = 2 ∨ w.toNatClampNeg = 3 := by omega
    rcases this with e | e | e | e <;> rw [e] at u1
    · exact w0 u1
    · exact w1 u1
    · exact w2 u1
    · exact w3 u1
set_option maxHeartbeats 1000000 in
set_option maxRecDepth 8000 in
theorem x_liveG {r t cs : Nat} {rt : tT → Int32 → Prop} {Ln : List (Nat × Int32)} (hR : xRo S r) (hr : r + 1 < 2 ^ 31) (tr : ∀ T c, rt T c → xTr S σ T c) (inj : hInj (S.2.1 15) (S.2.1 18) (S.2.1 19) σ rt) (hcs : cs ≤ 24) (ht : t ≤ 425) (e13 : S.1 4 13 = nI cs) (e12 : S.1 4 12 = nI t) (h24 : ∀ p, p < 6 + 2 * cs → S.2.1 24 p = 0 ∨ ∃ T, rt T (S.2.1 24 p)) (h26 : ∀ p, p < t → ∃ T, rt T (S.2.1 26 p)) (bk : ∀ T c, rt T c → (∃ p, p < 6 + 2 * cs ∧ c = S.2.1 24 p) ∨ ∃ p, p < t ∧ c = S.2.1 26 p) (hL : hNs (fun T => ∃ c, rt T c) Ln) (hP : ∀ S', xRg S S' r → P (some (.int (nI Ln.length))) S') : mv_big layX sysX (d + 3) 122 [.ref 4] S P := by
  refine ⟨20, ?_⟩
  refine ws_aload_n rfl (rfl) rfl (ws_iv rfl rfl rfl ?_)
  have ok : ∀ {T : tT} {c : Int32}, rt T c → hOk 800 (fun i => ∃ T c, rt T c ∧ i ∈ hCs (S.2.1 18) (S.2.1 19) T c) c := fun {T c} z => hOk_imp (fun i hi => ⟨T, c, z, hi⟩) (hCs_ok (by decide) (tr T c z)).1
  have hG : ∀ i, (∃ T c, rt T c ∧ i ∈ hCs (S.2.1 18) (S.2.1 19) T c) → 1 ≤ i ∧ i ≤ 800 ∧ hOk 800 (fun i => ∃ T c, rt T c ∧ i ∈ hCs (S.2.1 18) (S.2.1 19) T c) (S.2.1 18 i) ∧ hOk 800 (fun i => ∃ T c, rt T c ∧ i ∈ hCs (S.2.1 18) (S.2.1 19) T c) (S.2.1 19 i) := fun i hi => by
    obtain ⟨T, c, h1, h2⟩ := hi
    obtain ⟨q1, q2, q3, q4⟩ := (hCs_ok (by decide) (tr T c h1)).2 i h2
    exact ⟨q1, q2, hOk_imp (fun i hi => ⟨T, c, h1, hi⟩) q3, hOk_imp (fun i hi => ⟨T, c, h1, hi⟩) q4⟩
  refine mv_deep (d := d + 2) (by omega) (x_reachAll (G := fun i => ∃ T c, rt T c ∧ i ∈ hCs (S.2.1 18) (S.2.1 19) T c) hR hr hG hcs ht e13 e12 (fun p hp => ?_) (fun p hp => ?_) (fun S2 V g1 g2 g3 g4 g5 => ?_))
  · rcases h24 p hp with z | ⟨T, z⟩
    · exact Or.inl z
    · exact ok z
  · obtain ⟨T, z⟩ := h26 p hp
    exact ok z
  have mem : ∀ i, i ∈ V ↔ ∃ T c, rt T c ∧ i ∈ hCs (S.2.1 18) (S.2.1 19) T c := fun i => ⟨g4 i, fun hi => by
    obtain ⟨T, c, h1, h2⟩ := hi
    refine hCs_sub (W := fun i => i ∈ V) (by decide) (fun j hj => ?_) (tr T c h1) (g5 c ?_) i h2
    · have := g3 j hj
      rw [g1.2.1 18 j (by decide) (by decide), g1.2.1 19 j (by decide) (by decide)] at this
      exact this
    · rcases bk T c h1 with ⟨p, p1, p2⟩ | ⟨p, p1, p2⟩
      · exact Or.inl ⟨p, p1, p2⟩
      · exact Or.inr ⟨p, p1, p2⟩⟩
  have eV : V.length = Ln.length := h_cnt (by decide) tr inj g2.1 mem hL
  refine ws_aload_n rfl (rfl) rfl (ws_getr rfl rfl rfl (ws_iv rfl rfl rfl ?_))
  refine mv_deep (d := d + 1) (by omega) (x_reached ?_)
  rw [g2.2.2.1, eV]
  refine ws_i rfl ?_
  exact hP S2 g1
end FX
section FY
variable {d : Nat} {P : Option Value → mv_S → Prop} {T0 T : mv_S} {σ : Nat → Nat} {vs : Nat → Int32} {mp : Nat → tT} {told : List Int32} {most : Nat} {m w i : Int32}
theorem yTr_pos {U : tT} {c : Int32} (h : yTr T σ U c) : (c ≤ 0 ↔ U = .leaf) ∧ (¬ U = .leaf → ∃ j, 1 ≤ j ∧ j ≤ 899 ∧ c = nI j ∧ T.2.1 13 j = tKy U ∧ T.2.1 14 j = tV U) := by
  rcases yTr_v h with ⟨e1, e2⟩ | ⟨e1, j, j1, j2, e2, e3, e4⟩
  · exact ⟨⟨fun _ => e1, fun _ => by rw [e2]; decide⟩, fun z => absurd e1 z⟩
  · refine ⟨⟨fun z => ?_, fun z => absurd z e1⟩, fun _ => ⟨j, j1, j2, e2, e3, e4⟩⟩
    rw [e2] at z
    exact absurd z (nI_nle (by omega) (by omega))
abbrev yMw (P : Option Value → mv_S → Prop) (d F pc : Nat) (l : List (Nat × Value)) (st : List Value) (S : mv_S) : Prop := mv_wp layY sysY tT11 7 (some .int) mX11_map.2.2.2.2.2.2.2 (mv_big layY sysY (d + 1)) P F pc l st S
def yMl (l : List (Nat × Value)) (w i t c k : Int32) : Prop := mv_at 0 l = some (.ref 0) ∧ mv_at 2 l = some (.int w) ∧ mv_at 3 l = some (.int i) ∧ mv_at 4 l = some (.int t) ∧ mv_at 5 l = some (.int c) ∧ mv_at 6 l = some (.int k)
set_option maxHeartbeats 1000000 in
set_option maxRecDepth 8000 in
theorem y_mpL {R : tT} {t : Int32} {ni : Nat} (hR : yTr T σ R t) (hn : tN R ≤ 400) (hi : ni < 2 ^ 31) (hK : ∀ l c k, yMl l w (nI ni) t c k → yTr T σ (tNt R 0 (.leaf)) 0 → ∀ C, yTr T σ C c → C = tNt R ni (tNx none R) → yMw P d 60 116 l [] T) : ∀ (j k : Nat) (l : List (Nat × Value)) (C : tT) (c : Int32), k + j = ni → yMl l w (nI ni) t c (nI k) → yTr T σ C c → tNt R j C = tNt R ni (tNx none R) → yMw P d (60 * j + 100) 83 l [] T := by
  intro j
  induction j with
  | zero =>
    intro k l C c hk hl hC e
    have hl0 := hl
    obtain ⟨z0, z2, z3, z4, z5, z6⟩ := hl
    refine ws_iload rfl (z6) rfl (ws_iload_n rfl (z3) rfl (ws_i rfl ⟨fun _ => ?_, fun z => absurd (nI_le (show ni ≤ k by omega) (by omega)) z⟩))
    exact mv_fuel (n := 60) (by omega) (hK l c (nI k) hl0 rfl C hC e)
  | succ j ih =>
    intro k l C c hk hl hC e
    have hl0 := hl
    obtain ⟨z0, z2, z3, z4, z5, z6⟩ := hl
    obtain ⟨y1, y2⟩ := yTr_pos hC
    rw [tNt] at e
    refine ws_iload rfl (z6) rfl (ws_iload_n rfl (z3) rfl (ws_i rfl ⟨fun z => absurd z (nI_ge (show k < ni by omega) (by omega)), fun _ => ?_⟩))
    by_cases c0 : C = .leaf
    · rw [tSel_l c0] at e
      refine ws_iload rfl (z5) rfl (ws_i rfl ⟨fun _ => ?_, fun z => absurd (y1.mpr c0) z⟩)
      exact mv_fuel (n := 60) (by omega) (hK l c (nI k) hl0 rfl C hC e)
    · rw [tSel_n c0] at e
      obtain ⟨j0, j1, j2, ec, ek, ev⟩ := y2 c0
      refine ws_iload rfl (z5) rfl (ws_i rfl ⟨fun z => absurd (y1.mp z) c0, fun _ => ?_⟩)
      refine ws_aload_n rfl (z0) rfl (ws_iload rfl (z4) rfl (ws_aload_n rfl (z0) rfl (ws_getr rfl rfl rfl (ws_iload rfl (z5) rfl (ws_i rfl ⟨(by rw [ec]; exact vp_in_nI (by omega) (by decide)), ?_⟩)))))
      refine ws_iconst (x := 0) rfl rfl rfl (ws_iv rfl rfl rfl ?_)
      rw [ec, nI_clamp (by omega), ek]
      obtain ⟨c', a1, a2⟩ := y_abv (p := aP (some (tKy C))) (D := aD (some (tKy C))) (k := tKy C) (al := 0) (fun k' => ⟨fun z => Or.inr z, fun z => z.elim (fun y => absurd rfl y) id⟩) (n := 803) (by omega) hR (show yTr T σ .leaf 0 from rfl)
      refine mv_deep (d := d + 1) (by omega) (y_above a1 ?_)
      refine ws_istore rfl rfl rfl rfl (ws_iinc (y := nI (k + 1)) rfl (mv_at_sv (by decide) (z6)) rfl ((nI_succ k).symm) rfl rfl (ws_goto (t := 83) rfl (by decide) (?_)))
      exact mv_fuel (n := 60 * j + 100) (by omega) (ih (k + 1) _ _ c' (by omega) ⟨mv_at_sr (by decide) (mv_at_sr (by decide) (z0)), mv_at_sv (by decide) (mv_at_sv (by decide) (z2)), mv_at_sv (by decide) (mv_at_sv (by decide) (z3)), mv_at_sv (by decide) (mv_at_sv (by decide) (z4)), mv_at_sv (by decide) (mv_at_me), mv_at_me⟩ a2 e)
set_option maxHeartbeats 1000000 in
set_option maxRecDepth 8000 in
theorem y_mapG (V : yVe T σ vs mp told most) (ok : mOk mp) (hbad : ¬ ((0 ≤ m ∧ m < 4) ∧ (0 ≤ w ∧ w < 4)) → P (some (.int (-2))) T) (h0 : ∀ j, j < 4 → m = nI j → w = 0 → ∀ T', yMf T T' → P (some (.int (nI (tN (mp j))))) T') (h1 : ∀ j, j < 4 → m = nI j → w = 1 → P (some (.int (tKy (tNth i (mp j))))) T) (h2 : ∀ j, j < 4 → m = nI j → w = 2 → P (some (.int (tV (tNth i (mp j))))) T) (h3 : ∀ j, j < 4 → m = nI j → w = 3 → P (some (.int (tKy (mp j)))) T) : mv_big layY sysY (d + 2) 72 [.ref 0, .int m, .int w, .int i] T P := by
  have le3 : ∀ x : Int32, (0 ≤ x ∧ x ≤ 3) ↔ (0 ≤ x ∧ x < 4) := fun x => by
    constructor
    · rintro ⟨a, b⟩; exact ⟨a, Int32.lt_of_le_of_lt b (by decide)⟩
    · rintro ⟨a, b⟩
      obtain ⟨u1, u2⟩ := aN_of (n := 4) rfl (by decide) a b
      refine ⟨a, ?_⟩
      rw [u1]; exact nI_le (b := 3) (by omega) (by decide)
  refine ⟨60 * i.toNatClampNeg + 300, ?_⟩
  refine ws_iload_n rfl (rfl) rfl (ws_iconst (x := 0) rfl rfl rfl (ws_iconst (x := 3) rfl rfl rfl (ws_is rfl rfl rfl ?_)))
  refine mv_deep (d := d + 1) (by omega) (y_in (fun c => ?_) (fun c => ?_))
  · refine ws_i rfl ⟨fun _ => ?_, fun z => absurd rfl z⟩
    refine ws_bipush (x := (-2)) rfl rfl rfl (ws_i rfl ?_)
    exact hbad (fun z => c ((le3 m).mpr z.1))
  · refine ws_i rfl ⟨fun z => absurd z (show ¬ (1 : Int32) = 0 by decide), fun _ => ?_⟩
    refine ws_iload_n rfl (rfl) rfl (ws_iconst (x := 0) rfl rfl rfl (ws_iconst (x := 3) rfl rfl rfl (ws_is rfl rfl rfl ?_)))
    refine mv_deep (d := d + 1) (by omega) (y_in (fun c2 => ?_) (fun c2 => ?_))
    · refine ws_i rfl ⟨fun z => absurd rfl z, fun _ => ?_⟩
      refine ws_bipush (x := (-2)) rfl rfl rfl (ws_i rfl ?_)
      exact hbad (fun z => c2 ((le3 w).mpr z.2))
    · have c := (le3 m).mp c
      have c2 := (le3 w).mp c2
      obtain ⟨v1, v2⟩ := aN_of (n := 4) rfl (by decide) c.1 c.2
      obtain ⟨u1, u2⟩ := aN_of (n := 4) rfl (by decide) c2.1 c2.2
      have tr := V.2.1 _ v2
      have oj := ok _ v2
      obtain ⟨y1, y2⟩ := yTr_pos tr
      refine ws_i rfl ⟨fun _ => ?_, fun z => absurd z (show ¬ (1 : Int32) = 0 by decide)⟩
      refine ws_aload_n rfl (rfl) rfl (ws_getr rfl rfl rfl (ws_iload_n rfl (rfl) rfl (ws_i rfl ⟨(by rw [v1]; exact vp_in_nI v2 (by decide)), ?_⟩)))
      refine ws_istore rfl rfl rfl rfl (ws_iload_n rfl (rfl) rfl (?_))
      by_cases w0 : w = 0
      · refine ws_i rfl ⟨fun z => absurd w0 z, fun _ => ?_⟩
        refine ws_aload_n rfl (rfl) rfl (ws_iload rfl (rfl) rfl (ws_iv rfl rfl rfl ?_))
        refine mv_deep (d := d + 1) (by omega) (y_size tr (by omega) (fun T1 g1 => ?_))
        refine ws_i rfl ?_
        exact h0 _ v2 v1 w0 T1 g1
      by_cases w3 : w = 3
      · by_cases t0 : mp m.toNatClampNeg = .leaf
        · refine ws_i rfl ⟨fun _ => ?_, fun z => absurd z w0⟩
          refine ws_iload_n rfl (rfl) rfl (ws_iconst (x := 3) rfl rfl rfl (ws_i rfl ⟨fun z => absurd w3 z, fun _ => ?_⟩))
          refine ws_iload rfl (rfl) rfl (ws_i rfl ⟨fun _ => ?_, fun z => absurd (y1.mpr t0) z⟩)
          refine ws_iconst (x := 0) rfl rfl rfl (ws_i rfl ?_)
          have := h3 _ v2 v1 w3
          rw [t0] at this
          exact this
        · obtain ⟨j0, j1, j2, ec, ek, ev⟩ := y2 t0
          refine ws_i rfl ⟨fun _ => ?_, fun z => absurd z w0⟩
          refine ws_iload_n rfl (rfl) rfl (ws_iconst (x := 3) rfl rfl rfl (ws_i rfl ⟨fun z => absurd w3 z, fun _ => ?_⟩))
          refine ws_iload rfl (rfl) rfl (ws_i rfl ⟨fun z => absurd (y1.mp z) t0, fun _ => ?_⟩)
          refine ws_aload_n rfl (rfl) rfl (ws_getr rfl rfl rfl (ws_iload rfl (rfl) rfl (ws_i rfl ⟨(by rw [ec]; exact vp_in_nI (by omega) (by decide)), ?_⟩)))
          refine ws_goto (t := 61) rfl (by decide) (ws_i rfl ?_)
          have := h3 _ v2 v1 w3
          rw [ec, nI_clamp (by omega), ek]
          exact this
      have fin : ∀ l c k, yMl l w i (T.2.1 20 m.toNatClampNeg) c k → ∀ C, yTr T σ C c → C = tNth i (mp m.toNatClampNeg) → yMw P d 60 116 l [] T := by
        rintro l c k ⟨z0, z2, z3, z4, z5, z6⟩ C hC eC
        obtain ⟨y1, y2⟩ := yTr_pos hC
        by_cases c0 : C = .leaf
        · have ec0 : c = 0 := (hTr_leaf (by decide) hC).mpr c0
          refine ws_iload rfl (z5) rfl (ws_i rfl ⟨fun z => absurd ec0 z, fun _ => ?_⟩)
          refine ws_iconst (x := 0) rfl rfl rfl (ws_goto (t := 147) rfl (by decide) (ws_i rfl ?_))
          rw [c0] at eC
          by_cases w1 : w = 1
          · have := h1 _ v2 v1 w1
            rw [← eC] at this
            exact this
          · have w2 : w = 2 := by
              have : w.toNatClampNeg = 2 := by
                by_cases a0 : w.toNatClampNeg = 0
                · exact absurd (by rw [u1, a0]; rfl) w0
                by_cases a1 : w.toNatClampNeg = 1
                · exact absurd (by rw [u1, a1]; rfl) w1
                by_cases a3 : w.toNatClampNeg = 3
                · exact absurd (by rw [u1, a3]; rfl) w3
                omega
              rw [u1, this]; rfl
            have := h2 _ v2 v1 w2
            rw [← eC] at this
            exact this
        · have ec0 : ¬ c = 0 := fun z => c0 ((hTr_leaf (by decide) hC).mp z)
          obtain ⟨j0, j1, j2, ec, ek, ev⟩ := y2 c0
          by_cases w1 : w = 1
          · refine ws_iload rfl (z5) rfl (ws_i rfl ⟨fun _ => ?_, fun z => absurd z ec0⟩)
            refine ws_iload_n rfl (z2) rfl (ws_iconst (x := 1) rfl rfl rfl (ws_i rfl ⟨fun z => absurd w1 z, fun _ => ?_⟩))
            refine ws_aload_n rfl (z0) rfl (ws_getr rfl rfl rfl (ws_iload rfl (z5) rfl (ws_i rfl ⟨(by rw [ec]; exact vp_in_nI (by omega) (by decide)), ?_⟩)))
            refine ws_goto (t := 147) rfl (by decide) (ws_i rfl ?_)
            have := h1 _ v2 v1 w1
            rw [ec, nI_clamp (by omega), ek, eC]
            exact this
          · refine ws_iload rfl (z5) rfl (ws_i rfl ⟨fun _ => ?_, fun z => absurd z ec0⟩)
            refine ws_iload_n rfl (z2) rfl (ws_iconst (x := 1) rfl rfl rfl (ws_i rfl ⟨fun _ => ?_, fun z => absurd z w1⟩))
            refine ws_aload_n rfl (z0) rfl (ws_getr rfl rfl rfl (ws_iload rfl (z5) rfl (ws_i rfl ⟨(by rw [ec]; exact vp_in_nI (by omega) (by decide)), ?_⟩)))
            refine ws_i rfl ?_
            have w2 : w = 2 := by
              have : w.toNatClampNeg = 2 := by
                by_cases a0 : w.toNatClampNeg = 0
                · exact absurd (by rw [u1, a0]; rfl) w0
                by_cases a1 : w.toNatClampNeg = 1
                · exact absurd (by rw [u1, a1]; rfl) w1
                by_cases a3 : w.toNatClampNeg = 3
                · exact absurd (by rw [u1, a3]; rfl) w3
                omega
              rw [u1, this]; rfl
            have := h2 _ v2 v1 w2
            rw [ec, nI_clamp (by omega), ev, eC]
            exact this
      by_cases ci : i < 0
      · refine ws_i rfl ⟨fun _ => ?_, fun z => absurd z w0⟩
        refine ws_iload_n rfl (rfl) rfl (ws_iconst (x := 3) rfl rfl rfl (ws_i rfl ⟨fun _ => ?_, fun z => absurd z w3⟩))
        refine ws_iload_n rfl (rfl) rfl (ws_i rfl ⟨fun z => absurd ci (Int32.not_lt.mpr z), fun _ => ?_⟩)
        refine ws_iconst (x := 0) rfl rfl rfl (ws_goto (t := 78) rfl (by decide) (?_))
        have eL : tNth i (mp m.toNatClampNeg) = .leaf := by unfold tNth; rw [if_pos ci]
        refine ws_istore rfl rfl rfl rfl (ws_iconst (x := 0) rfl rfl rfl (ws_istore rfl rfl rfl rfl (ws_iload rfl rfl rfl (ws_iload_n rfl rfl rfl (ws_i rfl ⟨fun z => ?_, fun z => ?_⟩)))))
        · exact mv_fuel (n := 60) (by omega) (fin _ 0 0 ⟨rfl, rfl, rfl, rfl, rfl, rfl⟩ .leaf rfl eL.symm)
        · refine ws_iload rfl rfl rfl (ws_i rfl ⟨fun _ => ?_, fun z => absurd (show (0 : Int32) ≤ 0 by decide) z⟩)
          exact mv_fuel (n := 60) (by omega) (fin _ 0 0 ⟨rfl, rfl, rfl, rfl, rfl, rfl⟩ .leaf rfl eL.symm)
      · refine ws_i rfl ⟨fun _ => ?_, fun z => absurd z w0⟩
        refine ws_iload_n rfl (rfl) rfl (ws_iconst (x := 3) rfl rfl rfl (ws_i rfl ⟨fun _ => ?_, fun z => absurd z w3⟩))
        refine ws_iload_n rfl (rfl) rfl (ws_i rfl ⟨fun _ => ?_, fun z => absurd (Int32.not_lt.mp ci) z⟩)
        refine ws_aload_n rfl (rfl) rfl (ws_iload rfl (rfl) rfl (ws_iconst (x := 0) rfl rfl rfl (ws_iconst (x := 1) rfl rfl rfl (ws_iv rfl rfl rfl ?_))))
        obtain ⟨ni, ni1, ni2⟩ := nI_of ci
        have eN : tNth i (mp m.toNatClampNeg) = tNt (mp m.toNatClampNeg) ni (tNx none (mp m.toNatClampNeg)) := by unfold tNth; rw [if_neg ci, ni2, nI_clamp ni1]
        obtain ⟨c', a1, a2⟩ := y_abv (p := aP none) (D := aD none) (k := 0) (al := 1) (fun k' => ⟨fun _ => Or.inl (by decide), fun _ => trivial⟩) (n := 803) (by omega) tr (show yTr T σ .leaf 0 from rfl)
        refine mv_deep (d := d + 1) (by omega) (y_above a1 ?_)
        refine ws_istore rfl rfl rfl rfl (ws_iconst (x := nI 0) rfl rfl rfl (ws_istore rfl rfl rfl rfl ?_))
        subst ni2
        rw [nI_clamp ni1]
        refine mv_fuel (n := 60 * ni + 100) (by omega) (y_mpL tr (by omega) ni1 (fun l c k hl _ C hC eC => fin l c k hl C hC (eC.trans eN.symm)) ni 0 _ _ c' (by omega) ⟨rfl, rfl, rfl, rfl, rfl, rfl⟩ a2 rfl)
end FY
