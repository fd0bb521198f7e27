/-! THE CLASS JOINS, MAKES WITHOUT -/
theorem tJn_r {R : Int32 → Int32} {s : Nat} : ∀ {A : tT}, tJn R s A .leaf = A
  | .leaf => rfl
  | .inner _ _ _ _ _ => rfl
theorem tJnN_r {R : Int32 → Int32} : ∀ {A : tT}, tJnN R A .leaf = 0
  | .leaf => rfl
  | .inner _ _ _ _ _ => rfl
section XW
variable {d : Nat} {P : Option Value → mv_S → Prop} {S0 S : mv_S} {σ : Nat → Nat} {st : Nat} {sd : Int32} {rm fb m : Nat}
abbrev xJw (P : Option Value → mv_S → Prop) (d F pc : Nat) (l : List (Nat × Value)) (st : List Value) (S : mv_S) : Prop := mv_wp layX sysX tT7 7 none mX7_join.2.2.2.2.2.2.2 (mv_big layX sysX (d + 1)) P F pc l st S
def xJL (l : List (Nat × Value)) (a b i : Int32) : Prop := mv_at 0 l = some (.ref 5) ∧ mv_at 3 l = some (.int a) ∧ mv_at 4 l = some (.int b) ∧ mv_at 5 l = some (.int i)
set_option maxHeartbeats 1000000 in
set_option maxRecDepth 8000 in
theorem xJ_tailF {l : List (Nat × Value)} {a b i : Int32} {S' : mv_S} (hl : xJL l a b i) (h : xOv S0 S' rm fb) (hh : xHl S0 fb (S'.1 5 5)) (hP : ∀ S', xOv S0 S' rm fb → P none S') : xJw P d 30 134 l [] S' := by
  obtain ⟨l0, l3, l4, l5⟩ := hl
  refine ws_aload_n rfl (l0) rfl (ws_getr rfl rfl rfl (ws_aload_n rfl (l0) rfl (ws_geti rfl rfl (rfl) rfl (ws_iload_n rfl (l3) rfl (ws_i rfl ⟨fun c => ?_, fun c => ?_⟩)))))
  · skip
    refine ws_iload_n rfl (l3) rfl (ws_iv rfl rfl rfl ?_)
    refine x_hngF h hh (fun S1 g1 _ => ?_)
    refine ws_i rfl ?_
    exact hP S1 g1
  · skip
    refine ws_iload rfl (l4) rfl (ws_goto (t := 152) rfl (by decide) (ws_iv rfl rfl rfl ?_))
    refine x_hngF h hh (fun S1 g1 _ => ?_)
    refine ws_i rfl ?_
    exact hP S1 g1
set_option maxHeartbeats 1000000 in
set_option maxRecDepth 8000 in
/-- after a copy that was not to be had, in either place -/
theorem xJ_aftF {l : List (Nat × Value)} {a b : Int32} {n F : Nat} {S' : mv_S} (hl : xJL l a b (nI n)) (h : xOv S0 S' rm fb) (hh0 : xHl S0 fb (S'.1 5 5))
    (hh : ∀ l a b S', xJL l a b (nI (n + 1)) → xOv S0 S' rm fb → xHl S0 fb (S'.1 5 5) → xJw P d F 8 l [] S') : xJw P d (F + 40) 53 l [.int 0] S' ∧ xJw P d (F + 40) 96 l [.int 0] S' := by
  obtain ⟨l0, l3, l4, l5⟩ := hl
  refine ⟨?_, ?_⟩
  · skip
    refine ws_istore rfl rfl rfl rfl (ws_aload_n rfl (mv_at_sr (by decide) (l0)) rfl (ws_getr rfl rfl rfl (ws_aload_n rfl (mv_at_sr (by decide) (l0)) rfl (ws_geti rfl rfl (rfl) rfl (ws_iload rfl (mv_at_me) rfl (ws_iv rfl rfl rfl ?_))))))
    refine x_hngF h hh0 (fun S1 g1 g2 => ?_)
    refine ws_aload_n rfl (mv_at_sr (by decide) (l0)) rfl (ws_iload rfl (mv_at_me) rfl (ws_ineg rfl rfl (ws_puti rfl rfl rfl (ws_aload_n rfl (mv_at_sr (by decide) (l0)) rfl (ws_getr rfl rfl rfl (ws_iload_n rfl (mv_at_sv (by decide) (l3)) rfl (ws_iv rfl rfl rfl ?_)))))))
    refine x_greater ?_
    refine ws_istore_n rfl rfl rfl rfl (ws_goto (t := 128) rfl (by decide) (ws_iinc (y := nI (n + 1)) rfl (mv_at_sv (by decide) (mv_at_sv (by decide) (l5))) rfl ((nI_succ n).symm) rfl rfl (ws_goto (t := 8) rfl (by decide) (?_))))
    exact mv_fuel (n := F) (by omega) (hh _ _ _ _ ⟨mv_at_sr (by decide) (mv_at_sr (by decide) (mv_at_sr (by decide) (l0))), mv_at_sv (by decide) (mv_at_me), mv_at_sv (by decide) (mv_at_sv (by decide) (mv_at_sv (by decide) (l4))), mv_at_me⟩ (xOv_pf g1 (Or.inr rfl)) (by rw [pf_get, if_pos ⟨rfl, rfl⟩]; exact xHl_n0))
  · skip
    refine ws_istore rfl rfl rfl rfl (ws_aload_n rfl (mv_at_sr (by decide) (l0)) rfl (ws_getr rfl rfl rfl (ws_aload_n rfl (mv_at_sr (by decide) (l0)) rfl (ws_geti rfl rfl (rfl) rfl (ws_iload rfl (mv_at_me) rfl (ws_iv rfl rfl rfl ?_))))))
    refine x_hngF h hh0 (fun S1 g1 g2 => ?_)
    refine ws_aload_n rfl (mv_at_sr (by decide) (l0)) rfl (ws_iload rfl (mv_at_me) rfl (ws_puti rfl rfl rfl (ws_aload_n rfl (mv_at_sr (by decide) (l0)) rfl (ws_getr rfl rfl rfl (ws_iload rfl (mv_at_sv (by decide) (l4)) rfl (ws_iv rfl rfl rfl ?_))))))
    refine x_lesser ?_
    refine ws_istore rfl rfl rfl rfl (ws_iinc (y := nI (n + 1)) rfl (mv_at_sv (by decide) (mv_at_sv (by decide) (l5))) rfl ((nI_succ n).symm) rfl rfl (ws_goto (t := 8) rfl (by decide) (?_)))
    exact mv_fuel (n := F) (by omega) (hh _ _ _ _ ⟨mv_at_sr (by decide) (mv_at_sr (by decide) (mv_at_sr (by decide) (l0))), mv_at_sv (by decide) (mv_at_sv (by decide) (mv_at_sv (by decide) (l3))), mv_at_sv (by decide) (mv_at_me), mv_at_me⟩ (xOv_pf g1 (Or.inr rfl)) (by rw [pf_get, if_pos ⟨rfl, rfl⟩]; exact xHl_0))
set_option maxHeartbeats 1000000 in
set_option maxRecDepth 8000 in
theorem xJ_hdF (hB : xBg S0 sd rm fb) (hP : ∀ S', xOv S0 S' rm fb → P none S') : ∀ (k n : Nat) (l : List (Nat × Value)) (a b : Int32) (S' : mv_S), n + k = 802 → xJL l a b (nI n) → xOv S0 S' rm fb → xHl S0 fb (S'.1 5 5) → xJw P d (80 * k + 60) 8 l [] S'
  | 0, n, l, a, b, S', hk, hl, h, hh => by
    obtain rfl : n = 802 := by omega
    have tl := xJ_tailF (d := d) (P := P) hl h hh hP
    obtain ⟨l0, l3, l4, l5⟩ := hl
    refine ws_iload rfl (l5) rfl (ws_sipush (x := 802) rfl rfl rfl (ws_i rfl ⟨fun _ => ?_, fun z => absurd (show (802 : Int32) ≤ nI 802 by decide) z⟩))
    exact mv_fuel (by omega) tl
  | k + 1, n, l, a, b, S', hk, hl, h, hh => by
    have tl := xJ_tailF (d := d) (P := P) hl h hh hP
    have af := xJ_aftF (d := d) (P := P) (F := 80 * k + 60) hl h hh (fun l a b S' q1 q2 q3 => xJ_hdF hB hP k (n + 1) l a b S' (by omega) q1 q2 q3)
    obtain ⟨l0, l3, l4, l5⟩ := hl
    have lt : ¬ (802 : Int32) ≤ nI n := nI_ge (b := 802) (by omega) (by decide)
    refine mv_fuel (n := 80 * k + 60 + 80) (by omega) ?_
    refine ws_iload rfl (l5) rfl (ws_sipush (x := 802) rfl rfl rfl (ws_i rfl ⟨fun z => absurd z lt, fun _ => ?_⟩))
    refine ws_iload_n rfl (l3) rfl (ws_i rfl ⟨fun c => ?_, fun c => ?_⟩)
    · exact mv_fuel (by omega) tl
    refine ws_iload rfl (l4) rfl (ws_i rfl ⟨fun c => ?_, fun c => ?_⟩)
    · exact mv_fuel (by omega) tl
    refine ws_aload_n rfl (l0) rfl (ws_getr rfl rfl rfl (ws_iload_n rfl (l3) rfl (ws_iv rfl rfl rfl ?_)))
    refine x_rank ?_
    refine ws_aload_n rfl (l0) rfl (ws_getr rfl rfl rfl (ws_iload rfl (l4) rfl (ws_iv rfl rfl rfl ?_)))
    refine x_rank ?_
    refine ws_i rfl ⟨fun c => ?_, fun c => ?_⟩
    · skip
      refine ws_aload_n rfl (l0) rfl (ws_getr rfl rfl rfl (ws_iload rfl (l4) rfl (ws_iv rfl rfl rfl ?_)))
      refine x_cpyF hB h ?_
      exact mv_fuel (n := 80 * k + 60 + 40) (by omega) af.2
    · skip
      refine ws_aload_n rfl (l0) rfl (ws_getr rfl rfl rfl (ws_iload_n rfl (l3) rfl (ws_iv rfl rfl rfl ?_)))
      refine x_cpyF hB h ?_
      exact mv_fuel (n := 80 * k + 60 + 40) (by omega) af.1
set_option maxHeartbeats 1000000 in
set_option maxRecDepth 8000 in
theorem xJ_tail {l : List (Nat × Value)} {a b i : Int32} {S' : mv_S} {f : tT → tT} {A B : tT} (hl : xJL l a b i) (h : xCt S0 S' σ sd rm fb m f A a B b) (hlf : A = .leaf ∨ B = .leaf)
    (hP : ∀ S', xMs S0 S' rm fb m → xCl (S0.2.1 20) (fb - m) xNo S' σ sd (f (tJn (xRank sd) st A B)) (S'.2.1 18 801) → P none S') : xJw P d 30 134 l [] S' := by
  obtain ⟨l0, l3, l4, l5⟩ := hl
  obtain ⟨a1, H, hb, hi, a2, a3, a4, a5, a6, a7, a8⟩ := h
  obtain ⟨b1, b2, b3, b4⟩ := a2 hb hi a4
  have fin : ∀ x, xCl (S0.2.1 20) (fb - m) H S' σ sd (tJn (xRank sd) st A B) x → P none (mv_pr S' (xRw hb) hi x) := by
    intro x hx
    obtain ⟨S3, hS3⟩ : ∃ S3, S3 = mv_pr S' (xRw hb) hi x := ⟨_, rfl⟩
    rw [← hS3]
    have r3 : ∀ o i, S3.2.1 o i = if o = xRw hb ∧ i = hi then x else S'.2.1 o i := fun o i => by rw [hS3, pr_get]
    have cl := xClose_cl (S2 := S3) (M := 801) (by decide) a4 (fun i o _ _ _ z => by rw [r3, if_neg z]) (by rw [r3, if_pos ⟨rfl, rfl⟩]; exact hx) a6
    exact hP S3 (by rw [hS3]; exact xMs_pr a1 b4) (xCl_w (fun b i z => z.elim) cl)
  by_cases cA : A = .leaf
  · have a0 : a = 0 := by subst cA; exact a7
    have e : tJn (xRank sd) st A B = B := by subst cA; rfl
    rw [e] at fin
    subst a0
    refine ws_aload_n rfl (l0) rfl (ws_getr rfl rfl rfl (ws_aload_n rfl (l0) rfl (ws_geti rfl rfl (a5) rfl (ws_iload_n rfl (l3) rfl (ws_i rfl ⟨fun z => absurd rfl z, fun _ => ?_⟩)))))
    refine ws_iload rfl (l4) rfl (ws_goto (t := 152) rfl (by decide) (ws_iv rfl rfl rfl ?_))
    refine x_hng b1 b2 ?_
    refine ws_i rfl ?_
    exact fin b a8
  · have cB : B = .leaf := hlf.elim (fun z => absurd z cA) id
    have e : tJn (xRank sd) st A B = A := by rw [cB]; exact tJn_r
    rw [e] at fin
    have a0 : ¬ a = 0 := fun z => by
      match A, cA, a7 with
      | .leaf, cA, _ => exact cA rfl
      | .inner _ _ _ _ _, _, ⟨i, i1, i2, i3, _⟩ => rw [z] at i3; exact nI_ne0 (by omega) (by omega) i3.symm
    refine ws_aload_n rfl (l0) rfl (ws_getr rfl rfl rfl (ws_aload_n rfl (l0) rfl (ws_geti rfl rfl (a5) rfl (ws_iload_n rfl (l3) rfl (ws_i rfl ⟨fun _ => ?_, fun z => absurd z a0⟩)))))
    refine ws_iload_n rfl (l3) rfl (ws_iv rfl rfl rfl ?_)
    refine x_hng b1 b2 ?_
    refine ws_i rfl ?_
    exact fin a a7
set_option maxHeartbeats 1000000 in
set_option maxRecDepth 8000 in
theorem xJ_all {G : tT} {tot : Nat} (hB : xBg S0 sd rm fb) (hs : ∀ i, xIn (S0.2.1 20) fb i → σ i = st)
    (hf : rm < tot → ∀ S', xOv S0 S' rm fb → P none S')
    (ho : tot ≤ rm → ∀ S', xMs S0 S' rm fb tot → xCl (S0.2.1 20) (fb - tot) xNo S' σ sd G (S'.2.1 18 801) → P none S') : ∀ (k : Nat) (A B : tT) (l : List (Nat × Value)) (a b : Int32) (S' : mv_S) (m n : Nat) (f : tT → tT), tN A + tN B < k → n ≤ m → m + tJnN (xRank sd) A B = tot → f (tJn (xRank sd) st A B) = G → xJL l a b (nI n) → xCt S0 S' σ sd rm fb m f A a B b → xJw P d (65000 + 80 * k) 8 l [] S' := by
  intro k
  induction k with
  | zero => intro A B l a b S' m n f hk; omega
  | succ k ih =>
    intro A B l a b S' m n f hk hn hm e1 hl h
    have lm : m ≤ rm := h.1.2.2.2.2
    have b3 := hB.2.2.1
    have lt : ¬ (802 : Int32) ≤ nI n := nI_ge (b := 802) (by omega) (by decide)
    have hcl : ∃ H, xCl (S0.2.1 20) (fb - m) H S' σ sd A a ∧ xCl (S0.2.1 20) (fb - m) H S' σ sd B b := by obtain ⟨_, H, _, _, _, _, _, _, _, z, y⟩ := h; exact ⟨H, z, y⟩
    refine mv_fuel (n := 65000 + 80 * k + 80) (by omega) ?_
    have tail : A = .leaf ∨ B = .leaf → xJw P d 30 134 l [] S' := by
      intro z
      have e0 : tJnN (xRank sd) A B = 0 := z.elim (fun y => by rw [y]; rfl) (fun y => by rw [y]; exact tJnN_r)
      rw [e0, Nat.add_zero] at hm
      subst hm
      exact xJ_tail (st := st) hl h z (fun S3 g1 g2 => ho lm S3 g1 (by rw [← e1]; exact g2))
    have hl0 := hl
    obtain ⟨l0, l3, l4, l5⟩ := hl
    match A, hcl, tail, h, hm, e1, hk with
    | .leaf, ⟨H, z, _⟩, tail, _, _, _, _ =>
      have a0 : a = 0 := z
      subst a0
      refine ws_iload rfl (l5) rfl (ws_sipush (x := 802) rfl rfl rfl (ws_i rfl ⟨fun z => absurd z lt, fun _ => ?_⟩))
      refine ws_iload_n rfl (l3) rfl (ws_i rfl ⟨fun _ => ?_, fun z => absurd rfl z⟩)
      exact mv_fuel (by omega) (tail (Or.inl rfl))
    | .inner t k1 v1 l1 g1, ⟨H, hA, hb⟩, tail, h, hm, e1, hk =>
      obtain ⟨i, i1, i2, rfl, i4, i5, i6, i7, i8, i9, i10, i11⟩ := hA
      have na : ¬ nI i = 0 := nI_ne0 (by omega) (by omega)
      have era : xC S' 17 (nI i) = xRank sd k1 := by rw [xC_in i1 i2]; exact i9
      match B, hb, tail, h, hm, e1, hk with
      | .leaf, hb, tail, _, _, _, _ =>
        have b0 : b = 0 := hb
        subst b0
        refine ws_iload rfl (l5) rfl (ws_sipush (x := 802) rfl rfl rfl (ws_i rfl ⟨fun z => absurd z lt, fun _ => ?_⟩))
        refine ws_iload_n rfl (l3) rfl (ws_i rfl ⟨fun z => absurd z na, fun _ => ?_⟩)
        refine ws_iload rfl (l4) rfl (ws_i rfl ⟨fun _ => ?_, fun z => absurd rfl z⟩)
        exact mv_fuel (by omega) (tail (Or.inr rfl))
      | .inner t2 k2 v2 l2 r2, hb, tail, h, hm, e1, hk =>
        obtain ⟨j0, j1, j2, rfl, j4, j5, j6, j7, j8, j9, j10, j11⟩ := hb
        have nb : ¬ nI j0 = 0 := nI_ne0 (by omega) (by omega)
        have erb : xC S' 17 (nI j0) = xRank sd k2 := by rw [xC_in j1 j2]; exact j9
        obtain ⟨a1, H', hb, hi, a2, a3, a4, a5, a6, a7, a8⟩ := h
        obtain ⟨b1, b2, b3', b4⟩ := a2 hb hi a4
        have hh0 : xHl S0 fb (xHv hb hi) := xHok_hl a2 a4
        have eN : tJnN (xRank sd) (.inner t k1 v1 l1 g1) (.inner t2 k2 v2 l2 r2) = if xRank sd k2 < xRank sd k1 then tJnN (xRank sd) g1 (.inner t2 k2 v2 l2 r2) + 1 else tJnN (xRank sd) (.inner t k1 v1 l1 g1) l2 + 1 := rfl
        have eT : tJn (xRank sd) st (.inner t k1 v1 l1 g1) (.inner t2 k2 v2 l2 r2) = if xRank sd k2 < xRank sd k1 then .inner st k1 v1 l1 (tJn (xRank sd) st g1 (.inner t2 k2 v2 l2 r2)) else .inner st k2 v2 (tJn (xRank sd) st (.inner t k1 v1 l1 g1) l2) r2 := rfl
        rw [eN] at hm
        rw [eT] at e1
        simp only [tN] at hk
        refine ws_iload rfl (l5) rfl (ws_sipush (x := 802) rfl rfl rfl (ws_i rfl ⟨fun z => absurd z lt, fun _ => ?_⟩))
        refine ws_iload_n rfl (l3) rfl (ws_i rfl ⟨fun z => absurd z na, fun _ => ?_⟩)
        refine ws_iload rfl (l4) rfl (ws_i rfl ⟨fun z => absurd z nb, fun _ => ?_⟩)
        refine ws_aload_n rfl (l0) rfl (ws_getr rfl rfl rfl (ws_iload_n rfl (l3) rfl (ws_iv rfl rfl rfl ?_)))
        refine x_rank ?_
        rw [era]
        refine ws_aload_n rfl (l0) rfl (ws_getr rfl rfl rfl (ws_iload rfl (l4) rfl (ws_iv rfl rfl rfl ?_)))
        refine x_rank ?_
        rw [erb]
        refine ws_i rfl ⟨fun c => ?_, fun c => ?_⟩
        · have c : ¬ xRank sd k2 < xRank sd k1 := Int32.not_lt.mpr c
          rw [if_neg c] at hm e1
          refine ws_aload_n rfl (l0) rfl (ws_getr rfl rfl rfl (ws_iload rfl (l4) rfl (ws_iv rfl rfl rfl ?_)))
          refine x_cpy hB a1 (by omega) (fun em S1 g1 g2 => ?_) (fun lt2 j fc S1 f1 f2 jj1 j8' jin jfr jd g1' rr ff => ?_)
          · refine mv_fuel (n := 80 * (802 - (n + 1)) + 60 + 40) (by omega) ?_
            exact (xJ_aftF hl0 g1 (by rw [g2 5 5 (by omega), a5]; exact hh0) (fun l a b S' q1 q2 q3 => xJ_hdF hB (hf (by omega)) (802 - (n + 1)) (n + 1) l a b S' (by omega) q1 q2 q3)).2
          · obtain ⟨q1, q2, q3, q4⟩ := xStep (M := 801) (b' := false) (by decide) (by decide) hs a2 a4 (a3 hb hi a4) a8 (by omega) f1 f2 jj1 j8' jin jfr jd g1' rr
            refine ws_istore rfl rfl rfl rfl (ws_aload_n rfl (mv_at_sr (by decide) (l0)) rfl (ws_getr rfl rfl rfl (ws_aload_n rfl (mv_at_sr (by decide) (l0)) rfl (ws_geti rfl rfl ((ff 5 5 (by omega)).trans a5) rfl (ws_iload rfl (mv_at_me) rfl (ws_iv rfl rfl rfl ?_))))))
            refine x_hng b1 b2 ?_
            obtain ⟨S2, hS2⟩ : ∃ S2, S2 = mv_pr S1 (xRw hb) hi (nI j) := ⟨_, rfl⟩
            rw [← hS2]
            rw [← hS2] at q1 q2 q4
            refine ws_aload_n rfl (mv_at_sr (by decide) (l0)) rfl (ws_iload rfl (mv_at_me) rfl (ws_puti rfl rfl rfl (ws_aload_n rfl (mv_at_sr (by decide) (l0)) rfl (ws_getr rfl rfl rfl (ws_iload rfl (mv_at_sv (by decide) (l4)) rfl (ws_iv rfl rfl rfl ?_))))))
            refine x_lesser ?_
            refine ws_istore rfl rfl rfl rfl (ws_iinc (y := nI (n + 1)) rfl (mv_at_sv (by decide) (mv_at_sv (by decide) (l5))) rfl ((nI_succ n).symm) rfl rfl (ws_goto (t := 8) rfl (by decide) (?_)))
            have go : xTo 801 (S0.2.1 20) (fb - m) H' S' (fb - (m + 1)) (xMv H' hb hi false j) (mv_pf S2 5 5 (xHv false j)) := q2
            have kid := xCl_kids (xCl_go (by decide) go a8)
            exact mv_fuel (n := 65000 + 80 * k) (by omega) (ih (.inner t k1 v1 l1 g1) l2 _ _ _ _ (m + 1) (n + 1) _ (by simp only [tN]; omega) (by omega) (by omega) e1 ⟨mv_at_sr (by decide) (mv_at_sr (by decide) (mv_at_sr (by decide) (l0))), mv_at_sv (by decide) (mv_at_sv (by decide) (mv_at_sv (by decide) (l3))), mv_at_sv (by decide) (mv_at_me), mv_at_me⟩ ⟨xMs_pf q1 (Or.inr rfl), xMv H' hb hi false j, false, j, q3, fun b i z => z.elim (fun y => a3 b i y.1) (fun y => by omega), Or.inr ⟨rfl, rfl⟩, by rw [pf_get, if_pos ⟨rfl, rfl⟩]; rfl, q4 _ _ _ a6, xCl_go (by decide) go a7, kid.1⟩)
        · have c : xRank sd k2 < xRank sd k1 := Int32.not_le.mp c
          rw [if_pos c] at hm e1
          refine ws_aload_n rfl (l0) rfl (ws_getr rfl rfl rfl (ws_iload_n rfl (l3) rfl (ws_iv rfl rfl rfl ?_)))
          refine x_cpy hB a1 (by omega) (fun em S1 g1 g2 => ?_) (fun lt2 j fc S1 f1 f2 jj1 j8' jin jfr jd g1' rr ff => ?_)
          · refine mv_fuel (n := 80 * (802 - (n + 1)) + 60 + 40) (by omega) ?_
            exact (xJ_aftF hl0 g1 (by rw [g2 5 5 (by omega), a5]; exact hh0) (fun l a b S' q1 q2 q3 => xJ_hdF hB (hf (by omega)) (802 - (n + 1)) (n + 1) l a b S' (by omega) q1 q2 q3)).1
          · obtain ⟨q1, q2, q3, q4⟩ := xStep (M := 801) (b' := true) (by decide) (by decide) hs a2 a4 (a3 hb hi a4) a7 (by omega) f1 f2 jj1 j8' jin jfr jd g1' rr
            refine ws_istore rfl rfl rfl rfl (ws_aload_n rfl (mv_at_sr (by decide) (l0)) rfl (ws_getr rfl rfl rfl (ws_aload_n rfl (mv_at_sr (by decide) (l0)) rfl (ws_geti rfl rfl ((ff 5 5 (by omega)).trans a5) rfl (ws_iload rfl (mv_at_me) rfl (ws_iv rfl rfl rfl ?_))))))
            refine x_hng b1 b2 ?_
            obtain ⟨S2, hS2⟩ : ∃ S2, S2 = mv_pr S1 (xRw hb) hi (nI j) := ⟨_, rfl⟩
            rw [← hS2]
            rw [← hS2] at q1 q2 q4
            refine ws_aload_n rfl (mv_at_sr (by decide) (l0)) rfl (ws_iload rfl (mv_at_me) rfl (ws_ineg rfl rfl (ws_puti rfl rfl rfl (ws_aload_n rfl (mv_at_sr (by decide) (l0)) rfl (ws_getr rfl rfl rfl (ws_iload_n rfl (mv_at_sv (by decide) (l3)) rfl (ws_iv rfl rfl rfl ?_)))))))
            refine x_greater ?_
            refine ws_istore_n rfl rfl rfl rfl (ws_goto (t := 128) rfl (by decide) (ws_iinc (y := nI (n + 1)) rfl (mv_at_sv (by decide) (mv_at_sv (by decide) (l5))) rfl ((nI_succ n).symm) rfl rfl (ws_goto (t := 8) rfl (by decide) (?_))))
            have go : xTo 801 (S0.2.1 20) (fb - m) H' S' (fb - (m + 1)) (xMv H' hb hi true j) (mv_pf S2 5 5 (xHv true j)) := q2
            have kid := xCl_kids (xCl_go (by decide) go a7)
            exact mv_fuel (n := 65000 + 80 * k) (by omega) (ih g1 (.inner t2 k2 v2 l2 r2) _ _ _ _ (m + 1) (n + 1) _ (by simp only [tN]; omega) (by omega) (by omega) e1 ⟨mv_at_sr (by decide) (mv_at_sr (by decide) (mv_at_sr (by decide) (l0))), mv_at_sv (by decide) (mv_at_me), mv_at_sv (by decide) (mv_at_sv (by decide) (mv_at_sv (by decide) (l4))), mv_at_me⟩ ⟨xMs_pf q1 (Or.inr rfl), xMv H' hb hi true j, true, j, q3, fun b i z => z.elim (fun y => a3 b i y.1) (fun y => by omega), Or.inr ⟨rfl, rfl⟩, by rw [pf_get, if_pos ⟨rfl, rfl⟩]; rfl, q4 _ _ _ a6, kid.2, xCl_go (by decide) go a8⟩)
set_option maxHeartbeats 1000000 in
set_option maxRecDepth 8000 in
theorem x_join {a b : Int32} {A B : tT} {f : tT → tT} (hB : xBg S0 sd rm fb) (hs : ∀ i, xIn (S0.2.1 20) fb i → σ i = st) (h : xCt S0 S σ sd rm fb m f A a B b)
    (hf : rm < m + tJnN (xRank sd) A B → ∀ S', xOv S0 S' rm fb → P none S')
    (ho : m + tJnN (xRank sd) A B ≤ rm → ∀ S', xMs S0 S' rm fb (m + tJnN (xRank sd) A B) → xCl (S0.2.1 20) (fb - (m + tJnN (xRank sd) A B)) xNo S' σ sd (f (tJn (xRank sd) st A B)) (S'.2.1 18 801) → P none S') : mv_big layX sysX (d + 2) 137 [.ref 5, .int a, .int b] S P := by
  refine ⟨65000 + 80 * (tN A + tN B + 1) + 20, ?_⟩
  refine ws_iload_n rfl rfl rfl (ws_istore_n rfl rfl rfl rfl (ws_iload_n rfl rfl rfl (ws_istore rfl rfl rfl rfl (ws_iconst (x := 0) rfl rfl rfl (ws_istore rfl rfl rfl rfl ?_)))))
  exact mv_fuel (n := 65000 + 80 * (tN A + tN B + 1)) (by omega) (xJ_all hB hs hf ho (tN A + tN B + 1) A B _ a b S m 0 f (by omega) (by omega) rfl rfl ⟨rfl, rfl, rfl, rfl⟩ h)
set_option maxHeartbeats 1000000 in
set_option maxRecDepth 8000 in
theorem x_joinF {a b : Int32} (hB : xBg S0 sd rm fb) (h : xOv S0 S rm fb) (hh : xHl S0 fb (S.1 5 5)) (hP : ∀ S', xOv S0 S' rm fb → P none S') : mv_big layX sysX (d + 2) 137 [.ref 5, .int a, .int b] S P := by
  refine ⟨80 * 802 + 60 + 20, ?_⟩
  refine ws_iload_n rfl rfl rfl (ws_istore_n rfl rfl rfl rfl (ws_iload_n rfl rfl rfl (ws_istore rfl rfl rfl rfl (ws_iconst (x := 0) rfl rfl rfl (ws_istore rfl rfl rfl rfl ?_)))))
  exact mv_fuel (n := 80 * 802 + 60) (by omega) (xJ_hdF hB hP 802 0 _ a b S (by omega) ⟨rfl, rfl, rfl, rfl⟩ h hh)
end XW
