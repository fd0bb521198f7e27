/-! THE CLASS COPIES TOWARDS A KEY, PUTS -/
/-- the making under way: the hole of Trees makes f of what hangs there; A and B are left -/
def xCt (S0 S : mv_S) (σ : Nat → Nat) (sd : Int32) (rm fb m : Nat) (f : tT → tT) (A : tT) (a : Int32) (B : tT) (b : Int32) : Prop := xMs S0 S rm fb m ∧ ∃ H hb hi, xHok S0 fb m H ∧ (∀ b i, H b i → i ≤ 801) ∧ H hb hi ∧ S.1 5 5 = xHv hb hi ∧ xHo 801 (S0.2.1 20) (fb - m) H S σ sd hb hi f false 801 ∧ xCl (S0.2.1 20) (fb - m) H S σ sd A a ∧ xCl (S0.2.1 20) (fb - m) H S σ sd B b
section XW
variable {d : Nat} {P : Option Value → mv_S → Prop} {S0 S : mv_S} {σ : Nat → Nat} {st : Nat} {sd : Int32} {rm fb m : Nat}
abbrev xTw (P : Option Value → mv_S → Prop) (d F pc : Nat) (l : List (Nat × Value)) (st : List Value) (S : mv_S) : Prop := mv_wp layX sysX tT7 5 (some .int) mX7_copyTowards.2.2.2.2.2.2.2 (mv_big layX sysX (d + 1)) P F pc l st S
set_option maxHeartbeats 1000000 in
set_option maxRecDepth 8000 in
theorem xTw_aftF {l : List (Nat × Value)} {c ls : Int32} (h : xOv S0 S rm fb) (hh : xHl S0 fb (S.1 5 5)) (l0 : mv_at 0 l = some (.ref 5)) (l1 : mv_at 1 l = some (.int c)) (l3 : mv_at 3 l = some (.int ls)) (ho : ∀ x S', xOv S0 S' rm fb → xHl S0 fb (S'.1 5 5) → P (some (.int x)) S') : xTw P d 40 26 l [.int 0] S := by
  refine ws_istore rfl rfl rfl rfl (ws_aload_n rfl (mv_at_sr (by decide) (l0)) rfl (ws_getr rfl rfl rfl (ws_aload_n rfl (mv_at_sr (by decide) (l0)) rfl (ws_geti rfl rfl (rfl) rfl (ws_iload rfl (mv_at_me) rfl (ws_iv rfl rfl rfl ?_))))))
  refine x_hngF h hh (fun S1 g1 g2 => ?_)
  refine ws_aload_n rfl (mv_at_sr (by decide) (l0)) rfl (ws_iload_n rfl (mv_at_sv (by decide) (l3)) rfl (ws_i rfl ⟨fun c => ?_, fun c => ?_⟩))
  · skip
    refine ws_iload rfl (mv_at_me) rfl (ws_ineg rfl rfl (ws_puti rfl rfl rfl (ws_iload_n rfl (mv_at_sv (by decide) (l3)) rfl (ws_i rfl ⟨fun c => ?_, fun c => ?_⟩))))
    · skip
      refine ws_aload_n rfl (mv_at_sr (by decide) (l0)) rfl (ws_getr rfl rfl rfl (ws_iload_n rfl (mv_at_sv (by decide) (l1)) rfl (ws_iv rfl rfl rfl ?_)))
      refine x_greater ?_
      refine ws_i rfl ?_
      exact ho _ _ (xOv_pf g1 (Or.inr rfl)) (by rw [pf_get, if_pos ⟨rfl, rfl⟩]; exact xHl_n0)
    · skip
      refine ws_aload_n rfl (mv_at_sr (by decide) (l0)) rfl (ws_getr rfl rfl rfl (ws_iload_n rfl (mv_at_sv (by decide) (l1)) rfl (ws_iv rfl rfl rfl ?_)))
      refine x_lesser ?_
      refine ws_goto (t := 80) rfl (by decide) (ws_i rfl ?_)
      exact ho _ _ (xOv_pf g1 (Or.inr rfl)) (by rw [pf_get, if_pos ⟨rfl, rfl⟩]; exact xHl_n0)
  · skip
    refine ws_iload rfl (mv_at_me) rfl (ws_goto (t := 54) rfl (by decide) (ws_puti rfl rfl rfl (ws_iload_n rfl (mv_at_sv (by decide) (l3)) rfl (ws_i rfl ⟨fun c => ?_, fun c => ?_⟩))))
    · skip
      refine ws_aload_n rfl (mv_at_sr (by decide) (l0)) rfl (ws_getr rfl rfl rfl (ws_iload_n rfl (mv_at_sv (by decide) (l1)) rfl (ws_iv rfl rfl rfl ?_)))
      refine x_greater ?_
      refine ws_i rfl ?_
      exact ho _ _ (xOv_pf g1 (Or.inr rfl)) (by rw [pf_get, if_pos ⟨rfl, rfl⟩]; exact xHl_0)
    · skip
      refine ws_aload_n rfl (mv_at_sr (by decide) (l0)) rfl (ws_getr rfl rfl rfl (ws_iload_n rfl (mv_at_sv (by decide) (l1)) rfl (ws_iv rfl rfl rfl ?_)))
      refine x_lesser ?_
      refine ws_goto (t := 80) rfl (by decide) (ws_i rfl ?_)
      exact ho _ _ (xOv_pf g1 (Or.inr rfl)) (by rw [pf_get, if_pos ⟨rfl, rfl⟩]; exact xHl_0)
set_option maxHeartbeats 1000000 in
set_option maxRecDepth 8000 in
theorem x_ctwF {c key : Int32} (hB : xBg S0 sd rm fb) (h : xOv S0 S rm fb) (hh : xHl S0 fb (S.1 5 5)) (ho : ∀ x S', xOv S0 S' rm fb → xHl S0 fb (S'.1 5 5) → P (some (.int x)) S') : mv_big layX sysX (d + 2) 135 [.ref 5, .int c, .int key] S P := by
  refine ⟨80, ?_⟩
  refine ws_iload_n rfl (rfl) rfl (ws_aload_n rfl (rfl) rfl (ws_getr rfl rfl rfl (ws_iload_n rfl (rfl) rfl (ws_iv rfl rfl rfl ?_))))
  refine x_key ?_
  refine ws_i rfl ⟨fun c => ?_, fun c => ?_⟩
  · skip
    refine ws_iconst (x := 0) rfl rfl rfl (ws_istore_n rfl rfl rfl rfl (ws_aload_n rfl (rfl) rfl (ws_getr rfl rfl rfl (ws_iload_n rfl (rfl) rfl (ws_iv rfl rfl rfl ?_)))))
    refine x_cpyF hB h ?_
    exact mv_fuel (n := 40) (by decide) (xTw_aftF h hh rfl rfl rfl ho)
  · skip
    refine ws_iconst (x := 1) rfl rfl rfl (ws_goto (t := 17) rfl (by decide) (ws_istore_n rfl rfl rfl rfl (ws_aload_n rfl (rfl) rfl (ws_getr rfl rfl rfl (ws_iload_n rfl (rfl) rfl (ws_iv rfl rfl rfl ?_))))))
    refine x_cpyF hB h ?_
    exact mv_fuel (n := 40) (by decide) (xTw_aftF h hh rfl rfl rfl ho)
set_option maxHeartbeats 1000000 in
set_option maxRecDepth 8000 in
theorem x_ctw {a key b k v : Int32} {t : Nat} {l r B : tT} {f : tT → tT} (hB : xBg S0 sd rm fb) (hs : ∀ i, xIn (S0.2.1 20) fb i → σ i = st) (h : xCt S0 S σ sd rm fb m f (.inner t k v l r) a B b)
    (hf : m = rm → ∀ x S', xOv S0 S' rm fb → xHl S0 fb (S'.1 5 5) → P (some (.int x)) S')
    (hl : key < k → m < rm → ∀ c S', xCt S0 S' σ sd rm fb (m + 1) (fun T => f (.inner st k v T r)) l c B b → P (some (.int c)) S')
    (hg : ¬ key < k → m < rm → ∀ c S', xCt S0 S' σ sd rm fb (m + 1) (fun T => f (.inner st k v l T)) r c B b → P (some (.int c)) S') : mv_big layX sysX (d + 2) 135 [.ref 5, .int a, .int key] S P := by
  obtain ⟨a1, H, hb, hi, a2, a3, a4, a5, a6, a7, a8⟩ := h
  obtain ⟨b1, b2, b3, b4⟩ := a2 hb hi a4
  have a7' := a7
  obtain ⟨i, i1, i2, rfl, i4, i5, i6, i7, i8, i9, i10, i11⟩ := a7'
  have ek : xC S 15 (nI i) = k := by rw [xC_in i1 i2]; exact i7
  have hl0 : xHl S0 fb (xHv hb hi) := xHok_hl a2 a4
  refine ⟨80, ?_⟩
  refine ws_iload_n rfl (rfl) rfl (ws_aload_n rfl (rfl) rfl (ws_getr rfl rfl rfl (ws_iload_n rfl (rfl) rfl (ws_iv rfl rfl rfl ?_))))
  refine x_key ?_
  rw [ek]
  refine ws_i rfl ⟨fun c => ?_, fun c => ?_⟩
  · have c : ¬ key < k := Int32.not_lt.mpr c
    refine ws_iconst (x := 0) rfl rfl rfl (ws_istore_n rfl rfl rfl rfl (ws_aload_n rfl (rfl) rfl (ws_getr rfl rfl rfl (ws_iload_n rfl (rfl) rfl (ws_iv rfl rfl rfl ?_)))))
    refine x_cpy hB a1 (by omega) (fun em S1 g1 g2 => ?_) (fun lt2 j fc S1 f1 f2 j1 j8 jin jfr jd g1 rr ff => ?_)
    · exact mv_fuel (n := 40) (by decide) (xTw_aftF g1 (by rw [g2 5 5 (by omega), a5]; exact hl0) rfl rfl rfl (hf em))
    · obtain ⟨q1, q2, q3, q4⟩ := xStep (M := 801) (b' := true) (by decide) (by decide) hs a2 a4 (a3 hb hi a4) a7 (by omega) f1 f2 j1 j8 jin jfr jd g1 rr
      refine ws_istore rfl rfl rfl rfl (ws_aload_n rfl (rfl) rfl (ws_getr rfl rfl rfl (ws_aload_n rfl (rfl) rfl (ws_geti rfl rfl ((ff 5 5 (by omega)).trans a5) rfl (ws_iload rfl (rfl) rfl (ws_iv rfl rfl rfl ?_))))))
      refine x_hng b1 b2 ?_
      obtain ⟨S2, hS2⟩ : ∃ S2, S2 = mv_pr S1 (xRw hb) hi (nI j) := ⟨_, rfl⟩
      rw [← hS2]
      rw [← hS2] at q1 q2 q4
      refine ws_aload_n rfl (rfl) rfl (ws_iload_n rfl (rfl) rfl (ws_i rfl ⟨fun _ => ?_, fun z => absurd rfl z⟩))
      refine ?_
      refine ws_iload rfl (rfl) rfl (ws_ineg rfl rfl (ws_puti rfl rfl rfl (ws_iload_n rfl (rfl) rfl (ws_i rfl ⟨fun _ => ?_, fun z => absurd rfl z⟩))))
      refine ws_aload_n rfl (rfl) rfl (ws_getr rfl rfl rfl (ws_iload_n rfl (rfl) rfl (ws_iv rfl rfl rfl ?_)))
      refine x_greater ?_
      refine ws_i rfl ?_
      have go : xTo 801 (S0.2.1 20) (fb - m) H S (fb - (m + 1)) (xMv H hb hi true j) (mv_pf S2 5 5 (xHv true j)) := q2
      have kid := xCl_kids (xCl_go (by decide) go a7)
      exact hg c lt2 _ _ ⟨xMs_pf q1 (Or.inr rfl), xMv H hb hi true j, true, j, q3, fun b i z => z.elim (fun y => a3 b i y.1) (fun y => by omega), Or.inr ⟨rfl, rfl⟩, by rw [pf_get, if_pos ⟨rfl, rfl⟩]; rfl, q4 _ _ _ a6, kid.2, xCl_go (by decide) go a8⟩
  · have c : key < k := Int32.not_le.mp c
    refine ws_iconst (x := 1) rfl rfl rfl (ws_goto (t := 17) rfl (by decide) (ws_istore_n rfl rfl rfl rfl (ws_aload_n rfl (rfl) rfl (ws_getr rfl rfl rfl (ws_iload_n rfl (rfl) rfl (ws_iv rfl rfl rfl ?_))))))
    refine x_cpy hB a1 (by omega) (fun em S1 g1 g2 => ?_) (fun lt2 j fc S1 f1 f2 j1 j8 jin jfr jd g1 rr ff => ?_)
    · exact mv_fuel (n := 40) (by decide) (xTw_aftF g1 (by rw [g2 5 5 (by omega), a5]; exact hl0) rfl rfl rfl (hf em))
    · obtain ⟨q1, q2, q3, q4⟩ := xStep (M := 801) (b' := false) (by decide) (by decide) hs a2 a4 (a3 hb hi a4) a7 (by omega) f1 f2 j1 j8 jin jfr jd g1 rr
      refine ws_istore rfl rfl rfl rfl (ws_aload_n rfl (rfl) rfl (ws_getr rfl rfl rfl (ws_aload_n rfl (rfl) rfl (ws_geti rfl rfl ((ff 5 5 (by omega)).trans a5) rfl (ws_iload rfl (rfl) rfl (ws_iv rfl rfl rfl ?_))))))
      refine x_hng b1 b2 ?_
      obtain ⟨S2, hS2⟩ : ∃ S2, S2 = mv_pr S1 (xRw hb) hi (nI j) := ⟨_, rfl⟩
      rw [← hS2]
      rw [← hS2] at q1 q2 q4
      refine ws_aload_n rfl (rfl) rfl (ws_iload_n rfl (rfl) rfl (ws_i rfl ⟨fun z => absurd z (show ¬ (1 : Int32) = 0 by decide), fun _ => ?_⟩))
      refine ?_
      refine ws_iload rfl (rfl) rfl (ws_goto (t := 54) rfl (by decide) (ws_puti rfl rfl rfl (ws_iload_n rfl (rfl) rfl (ws_i rfl ⟨fun z => absurd z (show ¬ (1 : Int32) = 0 by decide), fun _ => ?_⟩))))
      refine ws_aload_n rfl (rfl) rfl (ws_getr rfl rfl rfl (ws_iload_n rfl (rfl) rfl (ws_iv rfl rfl rfl ?_)))
      refine x_lesser ?_
      refine ws_goto (t := 80) rfl (by decide) (ws_i rfl ?_)
      have go : xTo 801 (S0.2.1 20) (fb - m) H S (fb - (m + 1)) (xMv H hb hi false j) (mv_pf S2 5 5 (xHv false j)) := q2
      have kid := xCl_kids (xCl_go (by decide) go a7)
      exact hl c lt2 _ _ ⟨xMs_pf q1 (Or.inr rfl), xMv H hb hi false j, false, j, q3, fun b i z => z.elim (fun y => a3 b i y.1) (fun y => by omega), Or.inr ⟨rfl, rfl⟩, by rw [pf_get, if_pos ⟨rfl, rfl⟩]; rfl, q4 _ _ _ a6, kid.1, xCl_go (by decide) go a8⟩
end XW
