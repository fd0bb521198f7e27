/-! THE CLASS SPLITS A TREE -/
def x2 (H : Bool → Nat → Prop) (lb : Bool) (li : Nat) (gb : Bool) (gi : Nat) : Bool → Nat → Prop := fun b i => H b i ∨ (b = lb ∧ i = li) ∨ (b = gb ∧ i = gi)
theorem x2_g {H : Bool → Nat → Prop} {lb gb b' : Bool} {li gi j : Nat} (h1 : ¬ H gb gi) (h2 : ¬ (lb = gb ∧ li = gi)) : xMv (x2 H lb li gb gi) gb gi b' j = x2 H lb li b' j := by
  funext b i
  refine propext ⟨fun z => ?_, fun z => ?_⟩
  · rcases z with ⟨z | z | z, y⟩ | z
    · exact Or.inl z
    · exact Or.inr (Or.inl z)
    · exact absurd z y
    · exact Or.inr (Or.inr z)
  · rcases z with z | z | z
    · exact Or.inl ⟨Or.inl z, fun y => h1 (by rw [← y.1, ← y.2]; exact z)⟩
    · exact Or.inl ⟨Or.inr (Or.inl z), fun y => h2 ⟨by rw [← z.1, y.1], by rw [← z.2, y.2]⟩⟩
    · exact Or.inr z
theorem x2_c {H : Bool → Nat → Prop} {lb gb : Bool} {li gi : Nat} : x2 H lb li gb gi = x2 H gb gi lb li := by
  funext b i
  refine propext ⟨fun z => ?_, fun z => ?_⟩
  · rcases z with z | z | z
    · exact Or.inl z
    · exact Or.inr (Or.inr z)
    · exact Or.inr (Or.inl z)
  · rcases z with z | z | z
    · exact Or.inl z
    · exact Or.inr (Or.inr z)
    · exact Or.inr (Or.inl z)
theorem x2_rm {H : Bool → Nat → Prop} {lb gb : Bool} {li gi : Nat} (h1 : ¬ H gb gi) (h2 : ¬ H lb li) : xRm (xRm (x2 H lb li gb gi) lb li) gb gi = H := by
  funext b i
  refine propext ⟨fun z => ?_, fun z => ?_⟩
  · obtain ⟨⟨z, y⟩, w⟩ := z
    rcases z with z | z | z
    · exact z
    · exact absurd z y
    · exact absurd z w
  · exact ⟨⟨Or.inl z, fun y => h2 (by rw [← y.1, ← y.2]; exact z)⟩, fun y => h1 (by rw [← y.1, ← y.2]; exact z)⟩
theorem xC_0 {S : mv_S} {q : Nat} : xC S q 0 = 0 := by
  unfold xC
  rw [if_neg (fun z => absurd z.1 (by decide))]
section XW
variable {d : Nat} {P : Option Value → mv_S → Prop} {S0 S : mv_S} {σ : Nat → Nat} {st : Nat} {sd : Int32} {rm fb m : Nat} {fr : Nat → Int32} {fc : Nat} {H : Bool → Nat → Prop}
theorem xCl_kids : ∀ {T : tT} {c : Int32}, xCl fr fc H S σ sd T c → xCl fr fc H S σ sd (tL T) (xC S 18 c) ∧ xCl fr fc H S σ sd (tR T) (xC S 19 c)
  | .leaf, c, h => by
    have h : c = 0 := h
    subst h
    exact ⟨xC_0, xC_0⟩
  | .inner s k v l r, c, h => by
    obtain ⟨i, i1, i2, rfl, _, _, _, _, _, _, i10, i11⟩ := h
    rw [xC_in i1 i2, xC_in i1 i2]
    exact ⟨i10, i11⟩
abbrev xPw (P : Option Value → mv_S → Prop) (d F pc : Nat) (l : List (Nat × Value)) (st : List Value) (S : mv_S) : Prop := mv_wp layX sysX tT7 8 none mX7_split.2.2.2.2.2.2.2 (mv_big layX sysX (d + 1)) P F pc l st S
def xSL (l : List (Nat × Value)) (key lh gh c i : Int32) : Prop := mv_at 0 l = some (.ref 5) ∧ mv_at 2 l = some (.int key) ∧ mv_at 3 l = some (.int lh) ∧ mv_at 4 l = some (.int gh) ∧ mv_at 5 l = some (.int c) ∧ mv_at 6 l = some (.int i)
def xSF (S S' : mv_S) : Prop := ∀ f, S'.1 5 f = S.1 5 f
set_option maxHeartbeats 1000000 in
set_option maxRecDepth 8000 in
theorem xSp_tailF {l : List (Nat × Value)} {key lh gh c i : Int32} {S' : mv_S} (hl : xSL l key lh gh c i) (h : xOv S0 S' rm fb) (hs : xSF S S') (h1 : xHl S0 fb lh) (h2 : xHl S0 fb gh) (hP : ∀ S', xOv S0 S' rm fb → xSF S S' → P none S') : xPw P d 40 125 l [] S' := by
  obtain ⟨l0, l2, l3, l4, l5, l6⟩ := hl
  refine ws_aload_n rfl (l0) rfl (ws_getr rfl rfl rfl (ws_iload_n rfl (l3) rfl (ws_aload_n rfl (l0) rfl (ws_getr rfl rfl rfl (ws_iload rfl (l5) rfl (ws_iv rfl rfl rfl ?_))))))
  refine x_lesser ?_
  refine ws_iv rfl rfl rfl ?_
  refine x_hngF h h1 (fun S1 g1 g2 => ?_)
  refine ws_aload_n rfl (l0) rfl (ws_getr rfl rfl rfl (ws_iload rfl (l4) rfl (ws_aload_n rfl (l0) rfl (ws_getr rfl rfl rfl (ws_iload rfl (l5) rfl (ws_iv rfl rfl rfl ?_))))))
  refine x_greater ?_
  refine ws_iv rfl rfl rfl ?_
  refine x_hngF g1 h2 (fun S2 g3 g4 => ?_)
  refine ws_i rfl ?_
  exact hP S2 g3 (fun f => by rw [g4, g2]; exact hs f)
set_option maxHeartbeats 1000000 in
set_option maxRecDepth 8000 in
theorem xSp_aftF {l : List (Nat × Value)} {key lh gh c : Int32} {n F : Nat} {S' : mv_S} (hl : xSL l key lh gh c (nI n)) (h : xOv S0 S' rm fb) (hs : xSF S S') (h1 : xHl S0 fb lh) (h2 : xHl S0 fb gh)
    (hh : ∀ l lh gh c S', xSL l key lh gh c (nI (n + 1)) → xOv S0 S' rm fb → xSF S S' → xHl S0 fb lh → xHl S0 fb gh → xPw P d F 15 l [] S') : xPw P d (F + 40) 50 l [.int 0] S' := by
  obtain ⟨l0, l2, l3, l4, l5, l6⟩ := hl
  refine ws_istore rfl rfl rfl rfl (ws_iload_n rfl (mv_at_sv (by decide) (l2)) rfl (ws_aload_n rfl (mv_at_sr (by decide) (l0)) rfl (ws_getr rfl rfl rfl (ws_iload rfl (mv_at_sv (by decide) (l5)) rfl (ws_iv rfl rfl rfl ?_)))))
  refine x_key ?_
  refine ws_i rfl ⟨fun c => ?_, fun c => ?_⟩
  · skip
    refine ws_aload_n rfl (mv_at_sr (by decide) (l0)) rfl (ws_getr rfl rfl rfl (ws_iload_n rfl (mv_at_sv (by decide) (l3)) rfl (ws_iload rfl (mv_at_me) rfl (ws_iv rfl rfl rfl ?_))))
    refine x_hngF h h1 (fun S1 g1 g2 => ?_)
    refine ws_iload rfl (mv_at_me) rfl (ws_ineg rfl rfl (ws_istore_n rfl rfl rfl rfl (ws_aload_n rfl (mv_at_sr (by decide) (mv_at_sr (by decide) (l0))) rfl (ws_getr rfl rfl rfl (ws_iload rfl (mv_at_sv (by decide) (mv_at_sv (by decide) (l5))) rfl (ws_iv rfl rfl rfl ?_))))))
    refine x_greater ?_
    refine ws_istore rfl rfl rfl rfl (ws_iinc (y := nI (n + 1)) rfl (mv_at_sv (by decide) (mv_at_sv (by decide) (mv_at_sv (by decide) (l6)))) rfl ((nI_succ n).symm) rfl rfl (ws_goto (t := 15) rfl (by decide) (?_)))
    refine mv_fuel (n := F) (by omega) (hh _ (-0) gh _ S1 ⟨mv_at_sr (by decide) (mv_at_sr (by decide) (mv_at_sr (by decide) (mv_at_sr (by decide) (l0)))), mv_at_sv (by decide) (mv_at_sv (by decide) (mv_at_sv (by decide) (mv_at_sv (by decide) (l2)))), mv_at_sv (by decide) (mv_at_sv (by decide) (mv_at_me)), mv_at_sv (by decide) (mv_at_sv (by decide) (mv_at_sv (by decide) (mv_at_sv (by decide) (l4)))), mv_at_sv (by decide) (mv_at_me), mv_at_me⟩ g1 (fun f => by rw [g2]; exact hs f) xHl_n0 h2)
  · skip
    refine ws_aload_n rfl (mv_at_sr (by decide) (l0)) rfl (ws_getr rfl rfl rfl (ws_iload rfl (mv_at_sv (by decide) (l4)) rfl (ws_iload rfl (mv_at_me) rfl (ws_iv rfl rfl rfl ?_))))
    refine x_hngF h h2 (fun S1 g1 g2 => ?_)
    refine ws_iload rfl (mv_at_me) rfl (ws_istore rfl rfl rfl rfl (ws_aload_n rfl (mv_at_sr (by decide) (mv_at_sr (by decide) (l0))) rfl (ws_getr rfl rfl rfl (ws_iload rfl (mv_at_sv (by decide) (mv_at_sv (by decide) (l5))) rfl (ws_iv rfl rfl rfl ?_)))))
    refine x_lesser ?_
    refine ws_istore rfl rfl rfl rfl (ws_goto (t := 119) rfl (by decide) (ws_iinc (y := nI (n + 1)) rfl (mv_at_sv (by decide) (mv_at_sv (by decide) (mv_at_sv (by decide) (l6)))) rfl ((nI_succ n).symm) rfl rfl (ws_goto (t := 15) rfl (by decide) (?_))))
    refine mv_fuel (n := F) (by omega) (hh _ lh 0 _ S1 ⟨mv_at_sr (by decide) (mv_at_sr (by decide) (mv_at_sr (by decide) (mv_at_sr (by decide) (l0)))), mv_at_sv (by decide) (mv_at_sv (by decide) (mv_at_sv (by decide) (mv_at_sv (by decide) (l2)))), mv_at_sv (by decide) (mv_at_sv (by decide) (mv_at_sv (by decide) (mv_at_sv (by decide) (l3)))), mv_at_sv (by decide) (mv_at_sv (by decide) (mv_at_me)), mv_at_sv (by decide) (mv_at_me), mv_at_me⟩ g1 (fun f => by rw [g2]; exact hs f) h1 xHl_0)
set_option maxHeartbeats 1000000 in
set_option maxRecDepth 8000 in
theorem xSp_hdF {key : Int32} (hB : xBg S0 sd rm fb) (hP : ∀ S', xOv S0 S' rm fb → xSF S S' → P none S') : ∀ (k n : Nat) (l : List (Nat × Value)) (lh gh c : Int32) (S' : mv_S), n + k = 401 → xSL l key lh gh c (nI n) → xOv S0 S' rm fb → xSF S S' → xHl S0 fb lh → xHl S0 fb gh → xPw P d (80 * k + 60) 15 l [] S'
  | 0, n, l, lh, gh, c, S', hk, hl, h, hs, h1, h2 => by
    obtain rfl : n = 401 := by omega
    have tl := xSp_tailF (d := d) (P := P) hl h hs h1 h2 hP
    obtain ⟨l0, l2, l3, l4, l5, l6⟩ := hl
    refine ws_iload rfl (l6) rfl (ws_sipush (x := 401) rfl rfl rfl (ws_i rfl ⟨fun _ => ?_, fun z => absurd (show (401 : Int32) ≤ nI 401 by decide) z⟩))
    exact mv_fuel (by omega) tl
  | k + 1, n, l, lh, gh, c, S', hk, hl, h, hs, h1, h2 => by
    have tl := xSp_tailF (d := d) (P := P) hl h hs h1 h2 hP
    have hl0 := hl
    obtain ⟨l0, l2, l3, l4, l5, l6⟩ := hl
    have lt : ¬ (401 : Int32) ≤ nI n := nI_ge (b := 401) (by omega) (by decide)
    refine mv_fuel (n := 80 * k + 60 + 40 + 20) (by omega) ?_
    refine ws_iload rfl (l6) rfl (ws_sipush (x := 401) rfl rfl rfl (ws_i rfl ⟨fun z => absurd z lt, fun _ => ?_⟩))
    refine ws_iload rfl (l5) rfl (ws_i rfl ⟨fun c => ?_, fun c => ?_⟩)
    · exact mv_fuel (by omega) tl
    refine ws_aload_n rfl (l0) rfl (ws_getr rfl rfl rfl (ws_iload rfl (l5) rfl (ws_iv rfl rfl rfl ?_)))
    refine x_key ?_
    refine ws_iload_n rfl (l2) rfl (ws_i rfl ⟨fun c => ?_, fun c => ?_⟩)
    · exact mv_fuel (by omega) tl
    refine ws_aload_n rfl (l0) rfl (ws_getr rfl rfl rfl (ws_iload rfl (l5) rfl (ws_iv rfl rfl rfl ?_)))
    refine x_cpyF hB h ?_
    exact mv_fuel (n := 80 * k + 60 + 40) (by omega) (xSp_aftF hl0 h hs h1 h2 (fun l lh gh c S' a1 a2 a3 a4 a5 => xSp_hdF hB hP k (n + 1) l lh gh c S' (by omega) a1 a2 a3 a4 a5))
end XW
