/-! THE CLASS'S UNION -/
theorem rAt_nI {n i : Nat} {r : Nat → Int32} (hi : i < n) (hn : n < 2 ^ 31) : rAt n r (nI i) = r i := by
  rw [rAt_in ⟨nI_pos' (by omega), nI_lt hi hn⟩, nI_clamp (by omega)]
theorem tUn_or {R : Int32 → Int32} {s n : Nat} : ∀ {A B : tT}, (A = .leaf ∨ B = .leaf) → tUn R s (n + 1) A B = tOr A B ∧ tUnN R s (n + 1) A B = 0
  | .leaf, _, _ => ⟨rfl, rfl⟩
  | .inner _ _ _ _ _, .leaf, _ => ⟨rfl, rfl⟩
  | .inner _ _ _ _ _, .inner _ _ _ _ _, h => h.elim (fun z => by cases z) (fun z => by cases z)
section XW
variable {d : Nat} {P : Option Value → mv_S → Prop} {S0 S : mv_S} {σ : Nat → Nat} {st : Nat} {sd : Int32} {rm fb m : Nat}
theorem x_cpyR {c : Int32} (hB : xBg S0 sd rm fb) (h : xMs S0 S rm fb m) (em : m = rm) (ho : P (some (.int 0)) (mv_pf S 3 15 1)) : mv_big layX sysX (d + 1) 9 [.ref 3, .int c] S P := by
  have e13 : S.1 3 13 = nI rm := by rw [h.1.1 3 13 (by omega) (by omega)]; exact hB.2.1
  have no : ¬ xCpOk S c := by
    intro z
    have : xFr S = 0 := by
      unfold xFr
      rw [if_neg (fun y => by rw [h.2.2.1, e13, em] at y; exact absurd y.1 (Int32.lt_irrefl))]
    have z1 := z.1.1
    rw [this] at z1
    exact absurd z1 (by decide)
  exact x_copy (fun _ => ho) (fun z => absurd z no)
theorem xOv_of (h : xMs S0 S rm fb m) (em : m = rm) : xOv S0 (mv_pf S 3 15 1) rm fb := ⟨xFmX_pf h.1 (by omega), by rw [pf_get, if_neg (by omega), h.2.2.1, em], by rw [pf_get, if_pos ⟨rfl, rfl⟩]⟩
abbrev xVw (P : Option Value → mv_S → Prop) (d F pc : Nat) (l : List (Nat × Value)) (st : List Value) (S : mv_S) : Prop := mv_wp layX sysX tT7 11 (some .int) mX7_union.2.2.2.2.2.2.2 (mv_big layX sysX (d + 2)) P F pc l st S
def xVL (l : List (Nat × Value)) (i : Int32) : Prop := mv_at 0 l = some (.ref 5) ∧ mv_at 3 l = some (.int i)
set_option maxHeartbeats 1000000 in
set_option maxRecDepth 8000 in
theorem xV_end {l : List (Nat × Value)} (l0 : mv_at 0 l = some (.ref 5)) (h : P (some (.int (S.2.1 18 801))) S) : xVw P d 10 282 l [] S := by
  refine ws_aload_n rfl (l0) rfl (ws_getr rfl rfl rfl (ws_sipush (x := 801) rfl rfl rfl (ws_iv rfl rfl rfl ?_)))
  refine x_lesser ?_
  refine ws_i rfl ?_
  exact h
set_option maxHeartbeats 1000000 in
set_option maxRecDepth 8000 in
theorem xV_hdF {l : List (Nat × Value)} {i : Int32} (hl : xVL l i) (h : xOv S0 S rm fb) (hP : ∀ x S', xOv S0 S' rm fb → P (some (.int x)) S') : xVw P d 40 16 l [] S := by
  obtain ⟨l0, l3⟩ := hl
  have e := xV_end (P := P) (d := d) l0 (hP _ S h)
  refine ws_iload_n rfl (l3) rfl (ws_sipush (x := 402) rfl rfl rfl (ws_i rfl ⟨fun c => ?_, fun c => ?_⟩))
  · exact mv_fuel (by omega) e
  refine ws_aload_n rfl (l0) rfl (ws_geti rfl rfl (rfl) rfl (ws_i rfl ⟨fun c => ?_, fun c => ?_⟩))
  · exact mv_fuel (by omega) e
  refine ws_aload_n rfl (l0) rfl (ws_getr rfl rfl rfl (ws_iv rfl rfl rfl ?_))
  refine x_over (Or.inr h.2.2) ?_
  rw [h.2.2]
  refine ws_i rfl ⟨fun _ => ?_, fun z => absurd z (show ¬ (1 : Int32) = 0 by decide)⟩
  exact mv_fuel (by omega) e
set_option maxHeartbeats 1000000 in
set_option maxRecDepth 8000 in
theorem xV_aftF {l : List (Nat × Value)} {a b sa q : Int32} {n : Nat} (l0 : mv_at 0 l = some (.ref 5)) (l3 : mv_at 3 l = some (.int (nI n))) (l4 : mv_at 4 l = some (.int a)) (l5 : mv_at 5 l = some (.int b)) (l6 : mv_at 6 l = some (.int sa)) (l8 : mv_at 8 l = some (.int q)) (h : xOv S0 S rm fb) (hq : xHl S0 fb q) (hq2 : xHl S0 fb (-q)) (hP : ∀ x S', xOv S0 S' rm fb → P (some (.int x)) S') : xVw P d 140 174 l [] S := by
  refine ws_aload_n rfl (l0) rfl (ws_getr rfl rfl rfl (ws_sipush (x := 802) rfl rfl rfl (ws_iv rfl rfl rfl ?_)))
  refine x_lesser ?_
  refine ws_istore rfl rfl rfl rfl (ws_aload_n rfl (mv_at_sr (by decide) (l0)) rfl (ws_getr rfl rfl rfl (ws_sipush (x := 802) rfl rfl rfl (ws_iv rfl rfl rfl ?_))))
  refine x_greater ?_
  refine ws_istore rfl rfl rfl rfl (ws_iload rfl (mv_at_sv (by decide) (mv_at_sv (by decide) (l6))) rfl (ws_i rfl ⟨fun c => ?_, fun c => ?_⟩))
  · skip
    refine ws_aload_n rfl (mv_at_sr (by decide) (mv_at_sr (by decide) (l0))) rfl (ws_aload_n rfl (mv_at_sr (by decide) (mv_at_sr (by decide) (l0))) rfl (ws_getr rfl rfl rfl (ws_iload rfl (mv_at_sv (by decide) (mv_at_sv (by decide) (l4))) rfl (ws_iv rfl rfl rfl ?_))))
    refine x_lesser ?_
    refine ws_iload rfl (mv_at_sv (by decide) (mv_at_me)) rfl (ws_iload rfl (mv_at_sv (by decide) (mv_at_sv (by decide) (l8))) rfl (ws_iv rfl rfl rfl ?_))
    refine x_uniF h hq (fun S1 g1 => ?_)
    refine ws_aload_n rfl (mv_at_sr (by decide) (mv_at_sr (by decide) (l0))) rfl (ws_aload_n rfl (mv_at_sr (by decide) (mv_at_sr (by decide) (l0))) rfl (ws_getr rfl rfl rfl (ws_iload rfl (mv_at_sv (by decide) (mv_at_sv (by decide) (l4))) rfl (ws_iv rfl rfl rfl ?_))))
    refine x_greater ?_
    refine ws_iload rfl (mv_at_me) rfl (ws_iload rfl (mv_at_sv (by decide) (mv_at_sv (by decide) (l8))) rfl (ws_ineg rfl rfl (ws_iv rfl rfl rfl ?_)))
    refine x_uniF g1 hq2 (fun S2 g2 => ?_)
    refine ws_iinc (y := nI (n + 1)) rfl (mv_at_sv (by decide) (mv_at_sv (by decide) (l3))) rfl ((nI_succ n).symm) rfl rfl (ws_goto (t := 16) rfl (by decide) (?_))
    exact mv_fuel (n := 40) (by omega) (xV_hdF ⟨mv_at_sr (by decide) (mv_at_sr (by decide) (mv_at_sr (by decide) (l0))), mv_at_me⟩ g2 hP)
  · skip
    refine ws_aload_n rfl (mv_at_sr (by decide) (mv_at_sr (by decide) (l0))) rfl (ws_iload rfl (mv_at_sv (by decide) (mv_at_me)) rfl (ws_aload_n rfl (mv_at_sr (by decide) (mv_at_sr (by decide) (l0))) rfl (ws_getr rfl rfl rfl (ws_iload rfl (mv_at_sv (by decide) (mv_at_sv (by decide) (l5))) rfl (ws_iv rfl rfl rfl ?_)))))
    refine x_lesser ?_
    refine ws_iload rfl (mv_at_sv (by decide) (mv_at_sv (by decide) (l8))) rfl (ws_iv rfl rfl rfl ?_)
    refine x_uniF h hq (fun S1 g1 => ?_)
    refine ws_aload_n rfl (mv_at_sr (by decide) (mv_at_sr (by decide) (l0))) rfl (ws_iload rfl (mv_at_me) rfl (ws_aload_n rfl (mv_at_sr (by decide) (mv_at_sr (by decide) (l0))) rfl (ws_getr rfl rfl rfl (ws_iload rfl (mv_at_sv (by decide) (mv_at_sv (by decide) (l5))) rfl (ws_iv rfl rfl rfl ?_)))))
    refine x_greater ?_
    refine ws_iload rfl (mv_at_sv (by decide) (mv_at_sv (by decide) (l8))) rfl (ws_ineg rfl rfl (ws_iv rfl rfl rfl ?_))
    refine x_uniF g1 hq2 (fun S2 g2 => ?_)
    refine ws_goto (t := 276) rfl (by decide) (ws_iinc (y := nI (n + 1)) rfl (mv_at_sv (by decide) (mv_at_sv (by decide) (l3))) rfl ((nI_succ n).symm) rfl rfl (ws_goto (t := 16) rfl (by decide) (?_)))
    exact mv_fuel (n := 40) (by omega) (xV_hdF ⟨mv_at_sr (by decide) (mv_at_sr (by decide) (mv_at_sr (by decide) (l0))), mv_at_me⟩ g2 hP)
def xVM (l : List (Nat × Value)) (i a b sa q x9 x10 : Int32) : Prop := mv_at 0 l = some (.ref 5) ∧ mv_at 3 l = some (.int i) ∧ mv_at 4 l = some (.int a) ∧ mv_at 5 l = some (.int b) ∧ mv_at 6 l = some (.int sa) ∧ mv_at 8 l = some (.int q) ∧ mv_at 9 l = some (.int x9) ∧ mv_at 10 l = some (.int x10)
set_option maxHeartbeats 1000000 in
set_option maxRecDepth 8000 in
theorem xV_mid2 {l : List (Nat × Value)} {n u F t : Nat} {a b sa o q k v : Int32} {lt rt O : tT} {H : Bool → Nat → Prop} (hB : xBg S0 sd rm fb) (hs : ∀ i, xIn (S0.2.1 20) fb i → σ i = st) (l0 : mv_at 0 l = some (.ref 5)) (l3 : mv_at 3 l = some (.int (nI n))) (l4 : mv_at 4 l = some (.int a)) (l5 : mv_at 5 l = some (.int b)) (l6 : mv_at 6 l = some (.int sa)) (l7 : mv_at 7 l = some (.int (nI u))) (l8 : mv_at 8 l = some (.int q)) (h : xMs S0 S rm fb m) (hK : xHok S0 fb m H) (h8 : ∀ b i, H b i → i ≤ 801) (hU : xCl (S0.2.1 20) (fb - m) H S σ sd (.inner t k v lt rt) (nI u)) (hO : xCl (S0.2.1 20) (fb - m) H S σ sd O o) (hq : xHl S0 fb q) (hq2 : xHl S0 fb (-q)) (hF : 140 ≤ F)
    (hf : rm < m + tSpN k O → ∀ x S', xOv S0 S' rm fb → P (some (.int x)) S')
    (ho : m + tSpN k O ≤ rm → ∀ l' S3, xMs S0 S3 rm fb (m + tSpN k O) → xTo 801 (S0.2.1 20) (fb - m) H S (fb - (m + tSpN k O)) H S3 → xCl (S0.2.1 20) (fb - (m + tSpN k O)) H S3 σ sd (tLo st k O) (S3.2.1 18 802) → xCl (S0.2.1 20) (fb - (m + tSpN k O)) H S3 σ sd (tHi st k O) (S3.2.1 19 802) → xSame S S3 → xVM l' (nI n) a b sa q (S3.2.1 18 802) (S3.2.1 19 802) → xVw P d F 198 l' [] S3) : xVw P d (F + 40) 162 l [.int o, .ref 5] S := by
  have ek : xC S 15 (nI u) = k := by
    obtain ⟨i, i1, i2, i3, i4, i5, i6, i7, i8, i9, i10, i11⟩ := hU
    rw [i3, xC_in i1 i2]; exact i7
  refine ws_aload_n rfl (l0) rfl (ws_getr rfl rfl rfl (ws_iload rfl (l7) rfl (ws_iv rfl rfl rfl ?_)))
  refine x_key ?_
  rw [ek]
  refine ws_iv rfl rfl rfl ?_
  refine x_spl hB hs h hK h8 hO (fun q S1 g1 g2 => ?_) (fun q S1 g1 g2 g3 g4 g5 => ?_)
  · exact mv_fuel (n := 140) (by omega) (xV_aftF l0 l3 l4 l5 l6 l8 g1 hq hq2 (hf (by omega)))
  refine ws_aload_n rfl (l0) rfl (ws_getr rfl rfl rfl (ws_sipush (x := 802) rfl rfl rfl (ws_iv rfl rfl rfl ?_)))
  refine x_lesser ?_
  rw [show xC S1 18 802 = S1.2.1 18 802 from rfl]
  refine ws_istore rfl rfl rfl rfl (ws_aload_n rfl (mv_at_sr (by decide) (l0)) rfl (ws_getr rfl rfl rfl (ws_sipush (x := 802) rfl rfl rfl (ws_iv rfl rfl rfl ?_))))
  refine x_greater ?_
  rw [show xC S1 19 802 = S1.2.1 19 802 from rfl]
  refine ws_istore rfl rfl rfl rfl ?_
  exact mv_fuel (n := F) (by omega) (ho q _ S1 g1 g2 g3 g4 g5 ⟨mv_at_sr (by decide) (mv_at_sr (by decide) (l0)), mv_at_sv (by decide) (mv_at_sv (by decide) (l3)), mv_at_sv (by decide) (mv_at_sv (by decide) (l4)), mv_at_sv (by decide) (mv_at_sv (by decide) (l5)), mv_at_sv (by decide) (mv_at_sv (by decide) (l6)), mv_at_sv (by decide) (mv_at_sv (by decide) (l8)), mv_at_sv (by decide) (mv_at_me), mv_at_me⟩)
set_option maxHeartbeats 1000000 in
set_option maxRecDepth 8000 in
theorem xV_mid {l : List (Nat × Value)} {n u F t : Nat} {a b sa o k v : Int32} {lt rt O : tT} {H : Bool → Nat → Prop} {hb : Bool} {hi : Nat} {below : List (tT × tT × Bool × Nat)} (hB : xBg S0 sd rm fb) (hs : ∀ i, xIn (S0.2.1 20) fb i → σ i = st) (l0 : mv_at 0 l = some (.ref 5)) (l3 : mv_at 3 l = some (.int (nI n))) (l4 : mv_at 4 l = some (.int a)) (l5 : mv_at 5 l = some (.int b)) (l6 : mv_at 6 l = some (.int sa)) (l7 : mv_at 7 l = some (.int (nI u))) (so : (sa = 1 ∧ o = a) ∨ (sa = 0 ∧ o = b)) (h : xMs S0 S rm fb m) (hK : xHok S0 fb m (x1 H hb hi)) (h8 : ∀ b i, x1 H hb hi b i → i ≤ 801) (hn : ¬ H hb hi) (hu4 : below.length < 402) (e4 : S.1 5 4 = nI below.length) (e34 : S.2.1 34 below.length = xHv hb hi) (hr : xUr (S0.2.1 20) (fb - m) (x1 H hb hi) S σ sd below)
    (hU : xCl (S0.2.1 20) (fb - m) (x1 H hb hi) S σ sd (.inner t k v lt rt) (nI u)) (hu8 : u ≤ 802) (hO : xCl (S0.2.1 20) (fb - m) (x1 H hb hi) S σ sd O o) (hF : 140 ≤ F)
    (hf : rm < m + 1 + tSpN k O → ∀ x S', xOv S0 S' rm fb → P (some (.int x)) S')
    (ho : m + 1 + tSpN k O ≤ rm → ∀ j l' S3, 1 ≤ j → j ≤ 800 → ¬ xIn (S0.2.1 20) (fb - (m + 1 + tSpN k O)) j → xMs S0 S3 rm fb (m + 1 + tSpN k O) → xTo 801 (S0.2.1 20) (fb - m) (x1 H hb hi) S (fb - (m + 1 + tSpN k O)) (x1 (x1 H true j) false j) S3 → xHok S0 fb (m + 1 + tSpN k O) (x1 (x1 H true j) false j) → (∀ b i, x1 (x1 H true j) false j b i → i ≤ 801) → ¬ H true j → ¬ H false j → (∀ fc3 H3 S4 T1 T2, xTo 801 (S0.2.1 20) (fb - (m + 1 + tSpN k O)) (x1 (x1 H true j) false j) S3 fc3 H3 S4 → ¬ H3 false j → ¬ H3 true j → xCl (S0.2.1 20) fc3 H3 S4 σ sd T1 (S4.2.1 18 j) → xCl (S0.2.1 20) fc3 H3 S4 σ sd T2 (S4.2.1 19 j) → xCl (S0.2.1 20) fc3 H3 S4 σ sd (.inner st k v T1 T2) (S4.2.1 (xRw hb) hi)) → S3.1 5 4 = nI below.length → xUr (S0.2.1 20) (fb - (m + 1 + tSpN k O)) (x1 (x1 H true j) false j) S3 σ sd below → xCl (S0.2.1 20) (fb - (m + 1 + tSpN k O)) (x1 (x1 H true j) false j) S3 σ sd (tLo st k O) (S3.2.1 18 802) → xCl (S0.2.1 20) (fb - (m + 1 + tSpN k O)) (x1 (x1 H true j) false j) S3 σ sd (tHi st k O) (S3.2.1 19 802) → xCl (S0.2.1 20) (fb - (m + 1 + tSpN k O)) (x1 (x1 H true j) false j) S3 σ sd (.inner t k v lt rt) (nI u) → xVM l' (nI n) a b sa (nI j) (S3.2.1 18 802) (S3.2.1 19 802) → xVw P d F 198 l' [] S3) : xVw P d (F + 80) 118 l [] S := by
  obtain ⟨b1, b2, b3, b4⟩ := hK hb hi (Or.inr ⟨rfl, rfl⟩)
  have hl0 : xHl S0 fb (xHv hb hi) := xHok_hl hK (Or.inr ⟨rfl, rfl⟩)
  refine ws_aload_n rfl (l0) rfl (ws_getr rfl rfl rfl (ws_iload rfl (l7) rfl (ws_iv rfl rfl rfl ?_)))
  by_cases em : m = rm
  · have hF2 := hf (by omega)
    refine x_cpyR hB h em ?_
    have g1 := xOv_of h em
    refine ws_istore rfl rfl rfl rfl (ws_aload_n rfl (mv_at_sr (by decide) (l0)) rfl (ws_getr rfl rfl rfl (ws_aload_n rfl (mv_at_sr (by decide) (l0)) rfl (ws_getr rfl rfl rfl (ws_aload_n rfl (mv_at_sr (by decide) (l0)) rfl (ws_geti rfl rfl ((show (mv_pf S 3 15 1).1 5 4 = nI below.length by rw [pf_get, if_neg (by omega)]; exact e4)) rfl (ws_is rfl rfl rfl ?_)))))))
    refine mv_deep (d := d + 1) (by omega) (x_at_34 ?_)
    rw [show (mv_pf S 3 15 1).2.1 34 = S.2.1 34 from rfl, rAt_nI hu4 (by decide), e34]
    refine ws_iload rfl (mv_at_me) rfl (ws_iv rfl rfl rfl ?_)
    refine x_hngF g1 hl0 (fun S2 g2 _ => ?_)
    have tl : ∀ x, xVw P d 160 162 (mv_sv 8 (.int 0) l) [.int x, .ref 5] S2 := fun x => by
      refine ws_aload_n rfl (mv_at_sr (by decide) (l0)) rfl (ws_getr rfl rfl rfl (ws_iload rfl (mv_at_sv (by decide) (l7)) rfl (ws_iv rfl rfl rfl ?_)))
      refine x_key ?_
      refine ws_iv rfl rfl rfl ?_
      refine x_splF hB g2 (fun S3 g3 _ => ?_)
      exact mv_fuel (n := 140) (by omega) (xV_aftF (mv_at_sr (by decide) (l0)) (mv_at_sv (by decide) (l3)) (mv_at_sv (by decide) (l4)) (mv_at_sv (by decide) (l5)) (mv_at_sv (by decide) (l6)) (mv_at_me) g3 xHl_0 xHl_n0 hF2)
    refine ws_aload_n rfl (mv_at_sr (by decide) (l0)) rfl (ws_iload rfl (mv_at_sv (by decide) (l6)) rfl (ws_i rfl ⟨fun c => ?_, fun c => ?_⟩))
    · skip
      refine ws_iload rfl (mv_at_sv (by decide) (l5)) rfl ?_
      exact mv_fuel (by omega) (tl _)
    · skip
      refine ws_iload rfl (mv_at_sv (by decide) (l4)) rfl (ws_goto (t := 162) rfl (by decide) ?_)
      exact mv_fuel (by omega) (tl _)
  refine x_cpy hB h hu8 (fun z => absurd z em) (fun lt2 j fc S1 f1 f2 j1 j8 jin jfr jd q1 rr ff => ?_)
  refine ws_istore rfl rfl rfl rfl (ws_aload_n rfl (mv_at_sr (by decide) (l0)) rfl (ws_getr rfl rfl rfl (ws_aload_n rfl (mv_at_sr (by decide) (l0)) rfl (ws_getr rfl rfl rfl (ws_aload_n rfl (mv_at_sr (by decide) (l0)) rfl (ws_geti rfl rfl (((ff 5 4 (by omega)).trans e4)) rfl (ws_is rfl rfl rfl ?_)))))))
  refine mv_deep (d := d + 1) (by omega) (x_at_34 ?_)
  rw [rAt_nI hu4 (by decide), rr, if_neg (by omega), e34]
  refine ws_iload rfl (mv_at_me) rfl (ws_iv rfl rfl rfl ?_)
  refine x_hng b1 b2 ?_
  obtain ⟨S2, hS2⟩ : ∃ S2, S2 = mv_pr S1 (xRw hb) hi (nI j) := ⟨_, rfl⟩
  rw [← hS2]
  have hv : ¬ xIn (S0.2.1 20) (fc + 1) hi := by rw [← f1]; exact b3
  have hj : xIn (S0.2.1 20) (fc + 1) j := ⟨fc, by omega, jfr⟩
  have hne : hi ≠ j := fun e => hv (by rw [e]; exact hj)
  have hnj : ∀ b, ¬ H b j := fun b z => (hK b j (Or.inl z)).2.2.1 (by rw [f1]; exact hj)
  have r2 : ∀ o i, S2.2.1 o i = if o = xRw hb ∧ i = hi then nI j else if i = j ∧ 15 ≤ o ∧ o ≤ 19 then S.2.1 o u else S.2.1 o i := fun o i => by rw [hS2, pr_get, rr]
  have hS : ∀ i o, i ≤ 801 → i ≠ j → 15 ≤ o → o ≤ 19 → ¬ (o = xRw hb ∧ i = hi) → S2.2.1 o i = S.2.1 o i := fun i o _ a _ _ b => by rw [r2, if_neg b, if_neg (fun z => a z.1)]
  have hj2 : ∀ o, 15 ≤ o → o ≤ 19 → S2.2.1 o j = S.2.1 o u := fun o a b => by rw [r2, if_neg (fun z => hne z.2.symm), if_pos ⟨rfl, a, b⟩]
  have go : xTo 801 (S0.2.1 20) (fb - m) (x1 H hb hi) S (fb - (m + 1)) (x1 (x1 H true j) false j) S2 := by
    have := xGrow2 (fr := S0.2.1 20) (fc := fc) (H := x1 H hb hi) (S := S) (S2 := S2) jfr hv (Or.inr ⟨rfl, rfl⟩) hS
    rw [x1_rm hn] at this
    rw [f1, f2]
    exact this
  have m2 : xMs S0 S2 rm fb (m + 1) := by rw [hS2]; exact xMs_pr q1 b4
  have k2 : xHok S0 fb (m + 1) (x1 (x1 H true j) false j) := by
    intro b i z
    rw [f2]
    have hjj : 1 ≤ j ∧ j ≤ 802 ∧ ¬ xIn (S0.2.1 20) fc j ∧ (xIn (S0.2.1 20) fb j ∨ 801 ≤ j) := ⟨j1, by omega, jd, Or.inl jin⟩
    rcases z with (z | ⟨_, z⟩) | ⟨_, z⟩
    · obtain ⟨a1, a2, a3, a4⟩ := hK b i (Or.inl z)
      exact ⟨a1, a2, fun y => a3 (by rw [f1]; exact xIn_le (by omega) y), a4⟩
    · rw [z]; exact hjj
    · rw [z]; exact hjj
  have h82 : ∀ b i, x1 (x1 H true j) false j b i → i ≤ 801 := by
    intro b i z
    rcases z with (z | ⟨_, z⟩) | ⟨_, z⟩
    · exact h8 b i (Or.inl z)
    · omega
    · omega
  have hU2 := xCl_go (by decide) go hU
  have hO2 := xCl_go (by decide) go hO
  have e42 : S2.1 5 4 = nI below.length := by
    rw [hS2]
    exact (ff 5 4 (by omega)).trans e4
  have hr2 := xUr_go hr go (fun o i o1 o2 _ => by have := xRw_b hb; rw [r2, if_neg (by omega), if_neg (by omega)])
  have cl : xCl (S0.2.1 20) (fb - m) (x1 H hb hi) S σ sd (.inner t k v lt rt) (nI u) := hU
  obtain ⟨i, i1, i2, i3, i4, i5, i6, i7, i8, i9, i10, i11⟩ := cl
  obtain rfl : u = i := (nI_eq (by omega) (by omega)).mp i3
  have jd2 : ¬ xIn (S0.2.1 20) (fb - (m + 1)) j := by rw [f2]; exact jd
  have tl : xVw P d (F + 40) 162 (mv_sv 8 (.int (nI j)) l) [.int o, .ref 5] S2 := by
    refine xV_mid2 (m := m + 1) hB hs (mv_at_sr (by decide) (l0)) (mv_at_sv (by decide) (l3)) (mv_at_sv (by decide) (l4)) (mv_at_sv (by decide) (l5)) (mv_at_sv (by decide) (l6)) (mv_at_sv (by decide) (l7)) (mv_at_me) m2 k2 h82 hU2 hO2 (xHok_hl k2 (b := false) (i := j) (Or.inr ⟨rfl, rfl⟩)) (xHok_hl k2 (b := true) (i := j) (Or.inl (Or.inr ⟨rfl, rfl⟩))) hF hf (fun q l' S3 g1 g2 g3 g4 g5 g6 => ?_)
    have jd3 : ¬ xIn (S0.2.1 20) (fb - (m + 1 + tSpN k O)) j := fun z => jd2 (xIn_le (by omega) z)
    have k3 : xHok S0 fb (m + 1 + tSpN k O) (x1 (x1 H true j) false j) := fun b i z => by
      obtain ⟨y1, y2, y3, y4⟩ := k2 b i z
      exact ⟨y1, y2, fun y => y3 (xIn_le (by omega) y), y4⟩
    refine ho q j l' S3 j1 j8 jd3 g1 (xTo_trans go g2) k3 h82 (hnj true) (hnj false) (fun fc3 H3 S4 T1 T2 g n1 n2 c1 c2 => ?_) ((g5.1 5 4 (by omega)).trans e42) (xUr_go hr2 g2 (fun o i o1 o2 _ => g5.2 o i o1 o2)) g3 g4 (xCl_go (by decide) g2 hU2) g6
    refine xGrow2_cl (S2 := S2) (fc := fb - (m + 1)) j1 j8 jd2 (fun z => hv (xIn_le (by omega) z)) (h8 hb hi (Or.inr ⟨rfl, rfl⟩)) hne hn (by rw [r2, if_pos ⟨rfl, rfl⟩]) (hs j jin) (by rw [hj2 15 (by decide) (by decide)]; exact i7) (by rw [hj2 16 (by decide) (by decide)]; exact i8) (by rw [hj2 17 (by decide) (by decide)]; exact i9) (xTo_trans g2 g) n1 n2 c1 c2
  rcases so with ⟨rfl, rfl⟩ | ⟨rfl, rfl⟩
  · refine ws_aload_n rfl (mv_at_sr (by decide) (l0)) rfl (ws_iload rfl (mv_at_sv (by decide) (l6)) rfl (ws_i rfl ⟨fun z => absurd z (show ¬ (1 : Int32) = 0 by decide), fun _ => ?_⟩))
    refine ws_iload rfl (mv_at_sv (by decide) (l4)) rfl (ws_goto (t := 162) rfl (by decide) ?_)
    exact mv_fuel (by omega) tl
  · refine ws_aload_n rfl (mv_at_sr (by decide) (l0)) rfl (ws_iload rfl (mv_at_sv (by decide) (l6)) rfl (ws_i rfl ⟨fun _ => ?_, fun z => absurd rfl z⟩))
    refine ws_iload rfl (mv_at_sv (by decide) (l5)) rfl ?_
    exact mv_fuel (by omega) tl
end XW
