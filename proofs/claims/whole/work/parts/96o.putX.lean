/-! THE CLASS PUTS -/
def xNo : Bool → Nat → Prop := fun _ _ => False
/-- what is made: a tree of cells that are not free -/
def xRes (S0 S : mv_S) (σ : Nat → Nat) (sd : Int32) (rm fb m : Nat) (T : tT) (c : Int32) : Prop := xMs S0 S rm fb m ∧ xCl (S0.2.1 20) (fb - m) xNo S σ sd T c
section XW
variable {d : Nat} {P : Option Value → mv_S → Prop} {S0 S : mv_S} {σ : Nat → Nat} {st : Nat} {sd : Int32} {rm fb m : Nat}
theorem xCl_w {fr : Nat → Int32} {fc : Nat} {H H2 : Bool → Nat → Prop} (h : ∀ b i, H2 b i → H b i) : ∀ {T : tT} {c : Int32}, xCl fr fc H S σ sd T c → xCl fr fc H2 S σ sd T c
  | .leaf, _, a => a
  | .inner _ _ _ _ _, _, ⟨i, i1, i2, i3, i4, i5, i6, i7, i8, i9, i10, i11⟩ => ⟨i, i1, i2, i3, i4, fun b z => i5 b (h b i z), i6, i7, i8, i9, xCl_w h i10, xCl_w h i11⟩
theorem x_mkF {k v l g : Int32} (hB : xBg S0 sd rm fb) (h : xOv S0 S rm fb) (ho : P (some (.int 0)) S) : mv_big layX sysX (d + 2) 10 [.ref 3, .int k, .int v, .int l, .int g] S P := by
  have e13 : S.1 3 13 = nI rm := by rw [h.1.1 3 13 (by omega) (by omega)]; exact hB.2.1
  have no : ¬ xCpOk S 0 := by
    intro z
    have : xFr S = 0 := by
      unfold xFr
      rw [if_neg (fun y => by rw [h.2.1, e13] at y; exact absurd y.1 (Int32.lt_irrefl))]
    have z1 := z.1.1
    rw [this] at z1
    exact absurd z1 (by decide)
  refine x_make (fun _ => ?_) (fun z => absurd z no)
  rw [pf_self h.2.2]; exact ho
set_option maxHeartbeats 1000000 in
theorem x_mkM {k v l g : Int32} (hB : xBg S0 sd rm fb) (h : xMs S0 S rm fb m)
    (hf : m = rm → ∀ S', xOv S0 S' rm fb → (∀ o f, ¬ (o = 3 ∧ f = 15) → S'.1 o f = S.1 o f) → P (some (.int 0)) S')
    (ho : m < rm → ∀ j fc S', fb - m = fc + 1 → fb - (m + 1) = fc → 1 ≤ j → j ≤ 800 → xIn (S0.2.1 20) fb j → S0.2.1 20 fc = nI j → ¬ xIn (S0.2.1 20) fc j → xMs S0 S' rm fb (m + 1) → (∀ o i, ¬ (i = j ∧ 15 ≤ o ∧ o ≤ 19) → S'.2.1 o i = S.2.1 o i) → (S'.2.1 15 j = k ∧ S'.2.1 16 j = v ∧ S'.2.1 17 j = xRank sd k ∧ S'.2.1 18 j = l ∧ S'.2.1 19 j = g) → (∀ o f, ¬ (o = 3 ∧ (f = 8 ∨ f = 14)) → S'.1 o f = S.1 o f) → P (some (.int (nI j))) S') : mv_big layX sysX (d + 2) 10 [.ref 3, .int k, .int v, .int l, .int g] S P := by
  obtain ⟨b1, b2, b3, b4, b5, b6, b7⟩ := hB
  obtain ⟨h1, h2, h3, h4, h5⟩ := h
  have e13 : S.1 3 13 = nI rm := by rw [h1.1 3 13 (by omega) (by omega)]; exact b2
  have e12 : S.1 3 12 = sd := by rw [h1.1 3 12 (by omega) (by omega)]; exact b1
  have e20 : ∀ p, S.2.1 20 p = S0.2.1 20 p := fun p => h1.2.1 20 p (by omega) (by omega)
  by_cases cm : m = rm
  · have no : ¬ xCpOk S 0 := by
      intro z
      have : xFr S = 0 := by
        unfold xFr
        rw [if_neg (fun y => by rw [h3, e13, cm] at y; exact absurd y.1 (Int32.lt_irrefl))]
      have z1 := z.1.1
      rw [this] at z1
      exact absurd z1 (by decide)
    refine x_make (fun _ => ?_) (fun z => absurd z no)
    refine hf cm _ ⟨xFmX_pf h1 (by omega), ?_, ?_⟩ (fun o f a => by rw [pf_get, if_neg a])
    · rw [pf_get, if_neg (by omega), h3, cm]
    · rw [pf_get, if_pos ⟨rfl, rfl⟩]
  · have lt : m < rm := by omega
    obtain ⟨fc, hfc⟩ : ∃ fc, fb - m = fc + 1 := ⟨fb - m - 1, by omega⟩
    obtain ⟨j, j1, j2, j3⟩ := b6 fc (by omega)
    have efr : xFr S = nI j := by
      unfold xFr
      rw [h3, e13, h2, hfc, if_pos ⟨nI_lt lt (by omega), by rw [← nI_0]; exact nI_lt (by omega) (by omega), nI_le (b := 803) (by omega) (by decide)⟩, nI_pred, nI_clamp (by omega), e20, j3]
    have yes : xCpOk S 0 := by
      unfold xCpOk
      rw [efr]
      exact ⟨⟨nI_le (a := 1) j1 (by omega), nI_lt (b := 803) (by omega) (by decide)⟩, by decide, by decide⟩
    have ej : (nI j).toNatClampNeg = j := nI_clamp (by omega)
    have hd : ¬ xIn (S0.2.1 20) fc j := fun ⟨p, p1, p2⟩ => by
      have := b7 p fc (by omega) (by omega) (by rw [p2, j3])
      omega
    have hin : xIn (S0.2.1 20) fb j := ⟨fc, by omega, j3⟩
    refine x_make (fun z => absurd yes z) (fun _ => ?_)
    rw [efr, ej]
    have rr : ∀ o i, ¬ (i = j ∧ 15 ≤ o ∧ o ≤ 19) → (xMk S j k v l g).2.1 o i = S.2.1 o i := by
      intro o i z
      unfold xMk xCp
      rw [pr_get, pr_get, pr_get, pr_get, pr_get, pr_get, pr_get, pr_get, pr_get, pr_get]
      rw [if_neg (by omega), if_neg (by omega), if_neg (by omega), if_neg (by omega), if_neg (by omega), if_neg (by omega), if_neg (by omega), if_neg (by omega), if_neg (by omega), if_neg (by omega)]; rfl
    have ff : ∀ o f, (xMk S j k v l g).1 o f = if o = 3 ∧ f = 14 then nI (m + 1) else if o = 3 ∧ f = 8 then nI fc else S.1 o f := by
      intro o f
      show (mv_pf (mv_pf S 3 8 (S.1 3 8 - 1)) 3 14 (S.1 3 14 + 1)).1 o f = _
      rw [pf_get, pf_get, h2, h3, hfc, nI_pred, nI_1]
    refine ho lt j fc _ hfc (by omega) j1 j2 hin j3 hd ⟨⟨fun o f a b => ?_, fun o i a b => ?_, ?_, fun o i a b e g => ?_⟩, ?_, ?_, ?_, by omega⟩ rr ⟨?_, ?_, ?_, ?_, ?_⟩ (fun o f a => ?_)
    · rw [ff, if_neg (by omega), if_neg (by omega)]; exact h1.1 o f a b
    · rw [rr o i (by omega)]; exact h1.2.1 o i a b
    · exact h1.2.2.1
    · rw [rr o i (fun z => g (by rw [z.1]; exact hin))]; exact h1.2.2.2 o i a b e g
    · rw [ff, if_neg (by omega), if_pos ⟨rfl, rfl⟩]; congr 1; omega
    · rw [ff, if_pos ⟨rfl, rfl⟩]
    · rw [ff, if_neg (by omega), if_neg (by omega)]; exact h4
    · unfold xMk; rw [pr_get, pr_get, pr_get, pr_get, pr_get, if_neg (by omega), if_neg (by omega), if_neg (by omega), if_neg (by omega), if_pos ⟨rfl, rfl⟩]
    · unfold xMk; rw [pr_get, pr_get, pr_get, pr_get, if_neg (by omega), if_neg (by omega), if_neg (by omega), if_pos ⟨rfl, rfl⟩]
    · unfold xMk; rw [pr_get, pr_get, pr_get, if_neg (by omega), if_neg (by omega), if_pos ⟨rfl, rfl⟩, e12]
    · unfold xMk; rw [pr_get, pr_get, if_neg (by omega), if_pos ⟨rfl, rfl⟩]
    · unfold xMk; rw [pr_get, if_pos ⟨rfl, rfl⟩]
    · rw [ff, if_neg (by omega), if_neg (by omega)]
abbrev xQw (P : Option Value → mv_S → Prop) (d F pc : Nat) (l : List (Nat × Value)) (st : List Value) (S : mv_S) : Prop := mv_wp layX sysX tT7 7 (some .int) mX7_put.2.2.2.2.2.2.2 (mv_big layX sysX (d + 2)) P F pc l st S
def xQL (l : List (Nat × Value)) (key v rk c i : Int32) : Prop := mv_at 0 l = some (.ref 5) ∧ mv_at 2 l = some (.int key) ∧ mv_at 3 l = some (.int v) ∧ mv_at 4 l = some (.int rk) ∧ mv_at 5 l = some (.int c) ∧ mv_at 6 l = some (.int i)
set_option maxHeartbeats 1000000 in
set_option maxRecDepth 8000 in
/-- after the split, without room -/
theorem xQ_endF {l : List (Nat × Value)} {key v rk c i : Int32} (hB : xBg S0 sd rm fb) (hl : xQL l key v rk c i) (h : xOv S0 S rm fb) (hh : xHl S0 fb (S.1 5 5)) (hP : ∀ x S', xOv S0 S' rm fb → P (some (.int x)) S') : xQw P d 40 85 l [] S := by
  obtain ⟨l0, l2, l3, l4, l5, l6⟩ := hl
  refine ws_aload_n rfl (l0) rfl (ws_getr rfl rfl rfl (ws_aload_n rfl (l0) rfl (ws_geti rfl rfl (rfl) rfl (ws_aload_n rfl (l0) rfl (ws_getr rfl rfl rfl (ws_iload_n rfl (l2) rfl (ws_iload_n rfl (l3) rfl (ws_aload_n rfl (l0) rfl (ws_getr rfl rfl rfl (ws_sipush (x := 802) rfl rfl rfl (ws_iv rfl rfl rfl ?_)))))))))))
  refine x_lesser ?_
  refine ws_aload_n rfl (l0) rfl (ws_getr rfl rfl rfl (ws_sipush (x := 802) rfl rfl rfl (ws_iv rfl rfl rfl ?_)))
  refine x_greater ?_
  refine ws_iv rfl rfl rfl ?_
  refine x_mkF hB h ?_
  refine ws_iv rfl rfl rfl ?_
  refine x_hngF h hh (fun S1 g1 g2 => ?_)
  refine ws_aload_n rfl (l0) rfl (ws_getr rfl rfl rfl (ws_sipush (x := 801) rfl rfl rfl (ws_iv rfl rfl rfl ?_)))
  refine x_lesser ?_
  refine ws_i rfl ?_
  exact hP _ S1 g1
set_option maxHeartbeats 1000000 in
set_option maxRecDepth 8000 in
theorem xQ_tailF {l : List (Nat × Value)} {key v rk c i : Int32} (hB : xBg S0 sd rm fb) (hl : xQL l key v rk c i) (h : xOv S0 S rm fb) (hh : xHl S0 fb (S.1 5 5)) (hP : ∀ x S', xOv S0 S' rm fb → P (some (.int x)) S') : xQw P d 60 78 l [] S := by
  have hl0 := hl
  obtain ⟨l0, l2, l3, l4, l5, l6⟩ := hl
  refine ws_aload_n rfl (l0) rfl (ws_iload rfl (l5) rfl (ws_iload_n rfl (l2) rfl (ws_iv rfl rfl rfl ?_)))
  refine x_splF hB h (fun S1 g1 g2 => ?_)
  exact mv_fuel (n := 40) (by decide) (xQ_endF hB hl0 g1 (by rw [g2]; exact hh) hP)
set_option maxHeartbeats 1000000 in
set_option maxRecDepth 8000 in
theorem xQ_hdF {key v rk : Int32} (hB : xBg S0 sd rm fb) (hP : ∀ x S', xOv S0 S' rm fb → P (some (.int x)) S') : ∀ (k n : Nat) (l : List (Nat × Value)) (c : Int32) (S' : mv_S), n + k = 401 → xQL l key v rk c (nI n) → xOv S0 S' rm fb → xHl S0 fb (S'.1 5 5) → xQw P d (80 * k + 80) 23 l [] S'
  | 0, n, l, c, S', hk, hl, h, hh => by
    obtain rfl : n = 401 := by omega
    have tl := xQ_tailF (d := d) (P := P) hB hl h hh hP
    obtain ⟨l0, l2, l3, l4, l5, l6⟩ := hl
    refine ws_iload rfl (l6) rfl (ws_sipush (x := 401) rfl rfl rfl (ws_i rfl ⟨fun _ => ?_, fun z => absurd (show (401 : Int32) ≤ nI 401 by decide) z⟩))
    exact mv_fuel (by omega) tl
  | k + 1, n, l, c, S', hk, hl, h, hh => by
    have tl := xQ_tailF (d := d) (P := P) hB hl h hh hP
    obtain ⟨l0, l2, l3, l4, l5, l6⟩ := hl
    have lt : ¬ (401 : Int32) ≤ nI n := nI_ge (b := 401) (by omega) (by decide)
    refine mv_fuel (n := 80 * k + 80 + 80) (by omega) ?_
    refine ws_iload rfl (l6) rfl (ws_sipush (x := 401) rfl rfl rfl (ws_i rfl ⟨fun z => absurd z lt, fun _ => ?_⟩))
    refine ws_iload rfl (l5) rfl (ws_i rfl ⟨fun c => ?_, fun c => ?_⟩)
    · exact mv_fuel (by omega) tl
    refine ws_aload_n rfl (l0) rfl (ws_getr rfl rfl rfl (ws_iload rfl (l5) rfl (ws_iv rfl rfl rfl ?_)))
    refine x_key ?_
    refine ws_iload_n rfl (l2) rfl (ws_i rfl ⟨fun c => ?_, fun c => ?_⟩)
    · exact mv_fuel (by omega) tl
    refine ws_aload_n rfl (l0) rfl (ws_getr rfl rfl rfl (ws_iload rfl (l5) rfl (ws_iv rfl rfl rfl ?_)))
    refine x_rank ?_
    refine ws_iload rfl (l4) rfl (ws_i rfl ⟨fun c => ?_, fun c => ?_⟩)
    · exact mv_fuel (by omega) tl
    refine ws_aload_n rfl (l0) rfl (ws_iload rfl (l5) rfl (ws_iload_n rfl (l2) rfl (ws_iv rfl rfl rfl ?_)))
    refine x_ctwF hB h hh (fun x S1 g1 g2 => ?_)
    refine ws_istore rfl rfl rfl rfl (ws_iinc (y := nI (n + 1)) rfl (mv_at_sv (by decide) (l6)) rfl ((nI_succ n).symm) rfl rfl (ws_goto (t := 23) rfl (by decide) (?_)))
    exact mv_fuel (n := 80 * k + 80) (by omega) (xQ_hdF hB hP k (n + 1) _ _ S1 (by omega) ⟨mv_at_sr (by decide) (mv_at_sr (by decide) (l0)), mv_at_sv (by decide) (mv_at_sv (by decide) (l2)), mv_at_sv (by decide) (mv_at_sv (by decide) (l3)), mv_at_sv (by decide) (mv_at_sv (by decide) (l4)), mv_at_sv (by decide) (mv_at_me), mv_at_me⟩ g1 g2)
set_option maxHeartbeats 1000000 in
set_option maxRecDepth 8000 in
theorem xQ_tail {l : List (Nat × Value)} {key v rk c b i : Int32} {f : tT → tT} {T B : tT} (hB : xBg S0 sd rm fb) (hs : ∀ i, xIn (S0.2.1 20) fb i → σ i = st) (hl : xQL l key v rk c i) (h : xCt S0 S σ sd rm fb m f T c B b)
    (hf : rm < m + tSpN key T + 1 → ∀ x S', xOv S0 S' rm fb → P (some (.int x)) S')
    (ho : m + tSpN key T + 1 ≤ rm → ∀ c' S', xRes S0 S' σ sd rm fb (m + tSpN key T + 1) (f (.inner st key v (tLo st key T) (tHi st key T))) c' → P (some (.int c')) S') : xQw P d 60 78 l [] S := by
  have hl0 := hl
  obtain ⟨l0, l2, l3, l4, l5, l6⟩ := hl
  obtain ⟨a1, H, hb, hi, a2, a3, a4, a5, a6, a7, a8⟩ := h
  obtain ⟨b1, b2, b3, b4⟩ := a2 hb hi a4
  have hh : xHl S0 fb (xHv hb hi) := xHok_hl a2 a4
  refine ws_aload_n rfl (l0) rfl (ws_iload rfl (l5) rfl (ws_iload_n rfl (l2) rfl (ws_iv rfl rfl rfl ?_)))
  refine x_spl hB hs a1 a2 a3 a7 (fun q S1 g1 g2 => ?_) (fun q S1 g1 g2 g3 g4 g5 => ?_)
  · exact mv_fuel (n := 40) (by decide) (xQ_endF hB hl0 g1 (by rw [g2, a5]; exact hh) (hf (by omega)))
  have h5 : S1.1 5 5 = xHv hb hi := by rw [g5.1 5 5 (by omega)]; exact a5
  have k2 : xHok S0 fb (m + tSpN key T) H := fun b i z => by
    obtain ⟨y1, y2, y3, y4⟩ := a2 b i z
    exact ⟨y1, y2, fun y => y3 (xIn_le (by omega) y), y4⟩
  refine ws_aload_n rfl (l0) rfl (ws_getr rfl rfl rfl (ws_aload_n rfl (l0) rfl (ws_geti rfl rfl (h5) rfl (ws_aload_n rfl (l0) rfl (ws_getr rfl rfl rfl (ws_iload_n rfl (l2) rfl (ws_iload_n rfl (l3) rfl (ws_aload_n rfl (l0) rfl (ws_getr rfl rfl rfl (ws_sipush (x := 802) rfl rfl rfl (ws_iv rfl rfl rfl ?_)))))))))))
  refine x_lesser ?_
  refine ws_aload_n rfl (l0) rfl (ws_getr rfl rfl rfl (ws_sipush (x := 802) rfl rfl rfl (ws_iv rfl rfl rfl ?_)))
  refine x_greater ?_
  rw [show xC S1 18 802 = S1.2.1 18 802 from rfl, show xC S1 19 802 = S1.2.1 19 802 from rfl]
  refine ws_iv rfl rfl rfl ?_
  refine x_mkM hB g1 (fun em S2 q1 q2 => ?_) (fun lt2 j fc S2 f1 f2 j1 j8 jin jfr jd q1 rr ej ff => ?_)
  · have hF := hf (by omega)
    refine ws_iv rfl rfl rfl ?_
    refine x_hngF q1 hh (fun S3 p1 p2 => ?_)
    refine ws_aload_n rfl (l0) rfl (ws_getr rfl rfl rfl (ws_sipush (x := 801) rfl rfl rfl (ws_iv rfl rfl rfl ?_)))
    refine x_lesser ?_
    refine ws_i rfl ?_
    exact hF _ S3 p1
  have n1 : xTo 801 (S0.2.1 20) (fc + 1) H S1 fc H S2 := xNew jfr (fun i o _ z _ _ => rr o i (fun y => z y.1))
  have g2' : xTo 801 (S0.2.1 20) (fb - m) H S (fc + 1) H S1 := by rw [← f1]; exact g2
  rw [f1] at g3 g4
  have n2 : xCl (S0.2.1 20) fc H S2 σ sd (.inner st key v (tLo st key T) (tHi st key T)) (nI j) := xNew_cl (M := 801) (by decide) j1 j8 jfr jd (fun b i z => by rw [← f1]; exact (k2 b i z).2.2.1) (fun i o _ z _ _ => rr o i (fun y => z y.1)) (hs j jin) ej.1 ej.2.1 ej.2.2.1 (by rw [ej.2.2.2.1]; exact g3) (by rw [ej.2.2.2.2]; exact g4)
  refine ws_iv rfl rfl rfl ?_
  refine x_hng b1 b2 ?_
  obtain ⟨S3, hS3⟩ : ∃ S3, S3 = mv_pr S2 (xRw hb) hi (nI j) := ⟨_, rfl⟩
  rw [← hS3]
  have r3 : ∀ o i, S3.2.1 o i = if o = xRw hb ∧ i = hi then nI j else S2.2.1 o i := fun o i => by rw [hS3, pr_get]
  have cl := xClose_cl (S2 := S3) (M := 801) (by decide) a4 (fun i o _ _ _ z => by rw [r3, if_neg z]) (by rw [r3, if_pos ⟨rfl, rfl⟩]; exact n2) (xHo_go (xTo_trans g2' n1) a6)
  refine ws_aload_n rfl (l0) rfl (ws_getr rfl rfl rfl (ws_sipush (x := 801) rfl rfl rfl (ws_iv rfl rfl rfl ?_)))
  refine x_lesser ?_
  refine ws_i rfl ?_
  refine ho (by omega) _ S3 ⟨by rw [hS3]; exact xMs_pr q1 b4, ?_⟩
  show xCl _ _ _ _ _ _ _ (S3.2.1 18 801)
  rw [show fb - (m + tSpN key T + 1) = fc from f2]
  exact xCl_w (fun b i z => z.elim) cl
set_option maxHeartbeats 1000000 in
set_option maxRecDepth 8000 in
theorem xQ_down {key v b : Int32} {T0 B : tT} (hB : xBg S0 sd rm fb) (hs : ∀ i, xIn (S0.2.1 20) fb i → σ i = st)
    (hf : rm < tPutN (xRank sd) key T0 → ∀ x S', xOv S0 S' rm fb → P (some (.int x)) S')
    (ho : tPutN (xRank sd) key T0 ≤ rm → ∀ c' S', xRes S0 S' σ sd rm fb (tPutN (xRank sd) key T0) (tPut (xRank sd) st key v T0) c' → P (some (.int c')) S') : ∀ (T : tT) (l : List (Nat × Value)) (c : Int32) (S' : mv_S) (m : Nat) (f : tT → tT), m + tPutN (xRank sd) key T = tPutN (xRank sd) key T0 → f (tPut (xRank sd) st key v T) = tPut (xRank sd) st key v T0 → xQL l key v (xRank sd key) c (nI m) → xCt S0 S' σ sd rm fb m f T c B b → xQw P d (33000 + 80 * tN T) 23 l [] S' := by
  intro T
  induction T with
  | leaf =>
    intro l c S' m f hm e1 hl h
    have c0 : c = 0 := by obtain ⟨_, _, _, _, _, _, _, _, _, z, _⟩ := h; exact z
    have lm : m ≤ rm := h.1.2.2.2.2
    have b3 := hB.2.2.1
    have en : tPutN (xRank sd) key .leaf = tSpN key .leaf + 1 := rfl
    have ep : tPut (xRank sd) st key v .leaf = .inner st key v (tLo st key .leaf) (tHi st key .leaf) := rfl
    rw [en, ← Nat.add_assoc] at hm
    rw [ep] at e1
    rw [← hm] at hf
    rw [← hm, ← e1] at ho
    have tl := xQ_tail (d := d) (P := P) hB hs hl h hf ho
    subst c0
    obtain ⟨l0, l2, l3, l4, l5, l6⟩ := hl
    have lt : ¬ (401 : Int32) ≤ nI m := nI_ge (b := 401) (by omega) (by decide)
    refine ws_iload rfl (l6) rfl (ws_sipush (x := 401) rfl rfl rfl (ws_i rfl ⟨fun z => absurd z lt, fun _ => ?_⟩))
    refine ws_iload rfl (l5) rfl (ws_i rfl ⟨fun _ => ?_, fun z => absurd rfl z⟩)
    exact mv_fuel (by omega) tl
  | inner t k' v' xl xr ihl ihr =>
    intro l c S' m f hm e1 hl h
    have lm : m ≤ rm := h.1.2.2.2.2
    have b3 := hB.2.2.1
    have lt : ¬ (401 : Int32) ≤ nI m := nI_ge (b := 401) (by omega) (by decide)
    have hcl : ∃ H, xCl (S0.2.1 20) (fb - m) H S' σ sd (.inner t k' v' xl xr) c := by obtain ⟨_, H, _, _, _, _, _, _, _, z, _⟩ := h; exact ⟨H, z⟩
    obtain ⟨H, i, i1, i2, rfl, i4, i5, i6, i7, i8, i9, i10, i11⟩ := hcl
    have ne0 : ¬ nI i = 0 := nI_ne0 (by omega) (by omega)
    have ek : xC S' 15 (nI i) = k' := by rw [xC_in i1 i2]; exact i7
    have er : xC S' 17 (nI i) = xRank sd k' := by rw [xC_in i1 i2]; exact i9
    simp only [tN]
    refine mv_fuel (n := 33000 + 80 * (tN xl + tN xr) + 80) (by omega) ?_
    have tail : (tPutN (xRank sd) key (.inner t k' v' xl xr) = tSpN key (.inner t k' v' xl xr) + 1) → (tPut (xRank sd) st key v (.inner t k' v' xl xr) = .inner st key v (tLo st key (.inner t k' v' xl xr)) (tHi st key (.inner t k' v' xl xr))) → xQw P d 60 78 l [] S' := by
      intro en ep
      rw [en, ← Nat.add_assoc] at hm
      rw [ep] at e1
      rw [← hm] at hf
      rw [← hm, ← e1] at ho
      exact xQ_tail hB hs hl h hf ho
    obtain ⟨l0, l2, l3, l4, l5, l6⟩ := hl
    refine ws_iload rfl (l6) rfl (ws_sipush (x := 401) rfl rfl rfl (ws_i rfl ⟨fun z => absurd z lt, fun _ => ?_⟩))
    refine ws_iload rfl (l5) rfl (ws_i rfl ⟨fun z => absurd z ne0, fun _ => ?_⟩)
    refine ws_aload_n rfl (l0) rfl (ws_getr rfl rfl rfl (ws_iload rfl (l5) rfl (ws_iv rfl rfl rfl ?_)))
    refine x_key ?_
    rw [ek]
    by_cases ekk : k' = key
    · refine ws_iload_n rfl l2 rfl (ws_i rfl ⟨fun _ => mv_fuel (by omega) (tail ?_ ?_), fun z => absurd ekk z⟩)
      · rw [tPutN, if_pos ekk, tSpN, if_pos ekk]
      · rw [tPut, if_pos ekk, tLo, if_pos ekk, tHi, if_pos ekk]
    · refine ws_iload_n rfl l2 rfl (ws_i rfl ⟨fun z => absurd z ekk, fun _ => ?_⟩)
      refine ws_aload_n rfl (l0) rfl (ws_getr rfl rfl rfl (ws_iload rfl (l5) rfl (ws_iv rfl rfl rfl ?_)))
      refine x_rank ?_
      rw [er]
      by_cases crk : xRank sd key < xRank sd k'
      · refine ws_iload rfl l4 rfl (ws_i rfl ⟨fun z => absurd crk (Int32.not_lt.mpr z), fun _ => ?_⟩)
        refine ws_aload_n rfl (l0) rfl (ws_iload rfl (l5) rfl (ws_iload_n rfl (l2) rfl (ws_iv rfl rfl rfl ?_)))
        refine x_ctw hB hs h (fun em x S1 g1 g2 => ?_) (fun ck lt2 c1 S1 g1 => ?_) (fun ck lt2 c1 S1 g1 => ?_)
        · have hbig : rm < tPutN (xRank sd) key T0 := by
            rw [← hm, tPutN, if_neg ekk, if_pos crk]
            split <;> omega
          refine ws_istore rfl rfl rfl rfl (ws_iinc (y := nI (m + 1)) rfl (mv_at_sv (by decide) (l6)) rfl ((nI_succ m).symm) rfl rfl (ws_goto (t := 23) rfl (by decide) (?_)))
          exact mv_fuel (n := 80 * (401 - (m + 1)) + 80) (by omega) (xQ_hdF hB (hf hbig) (401 - (m + 1)) (m + 1) _ _ S1 (by omega) ⟨mv_at_sr (by decide) (mv_at_sr (by decide) (l0)), mv_at_sv (by decide) (mv_at_sv (by decide) (l2)), mv_at_sv (by decide) (mv_at_sv (by decide) (l3)), mv_at_sv (by decide) (mv_at_sv (by decide) (l4)), mv_at_sv (by decide) (mv_at_me), mv_at_me⟩ g1 g2)
        · rw [tPutN, if_neg ekk, if_pos crk, if_pos ck] at hm
          rw [tPut, if_neg ekk, if_pos crk, if_pos ck] at e1
          refine ws_istore rfl rfl rfl rfl (ws_iinc (y := nI (m + 1)) rfl (mv_at_sv (by decide) (l6)) rfl ((nI_succ m).symm) rfl rfl (ws_goto (t := 23) rfl (by decide) (?_)))
          exact mv_fuel (n := 33000 + 80 * tN xl) (by omega) (ihl _ c1 S1 (m + 1) _ (by omega) e1 ⟨mv_at_sr (by decide) (mv_at_sr (by decide) (l0)), mv_at_sv (by decide) (mv_at_sv (by decide) (l2)), mv_at_sv (by decide) (mv_at_sv (by decide) (l3)), mv_at_sv (by decide) (mv_at_sv (by decide) (l4)), mv_at_sv (by decide) (mv_at_me), mv_at_me⟩ g1)
        · rw [tPutN, if_neg ekk, if_pos crk, if_neg ck] at hm
          rw [tPut, if_neg ekk, if_pos crk, if_neg ck] at e1
          refine ws_istore rfl rfl rfl rfl (ws_iinc (y := nI (m + 1)) rfl (mv_at_sv (by decide) (l6)) rfl ((nI_succ m).symm) rfl rfl (ws_goto (t := 23) rfl (by decide) (?_)))
          exact mv_fuel (n := 33000 + 80 * tN xr) (by omega) (ihr _ c1 S1 (m + 1) _ (by omega) e1 ⟨mv_at_sr (by decide) (mv_at_sr (by decide) (l0)), mv_at_sv (by decide) (mv_at_sv (by decide) (l2)), mv_at_sv (by decide) (mv_at_sv (by decide) (l3)), mv_at_sv (by decide) (mv_at_sv (by decide) (l4)), mv_at_sv (by decide) (mv_at_me), mv_at_me⟩ g1)
      · refine ws_iload rfl l4 rfl (ws_i rfl ⟨fun _ => mv_fuel (by omega) (tail ?_ ?_), fun z => absurd (Int32.not_lt.mp crk) z⟩)
        · rw [tPutN, if_neg ekk, if_neg crk]
        · rw [tPut, if_neg ekk, if_neg crk]
set_option maxHeartbeats 1000000 in
set_option maxRecDepth 8000 in
theorem xCt_0 {T : tT} {c b : Int32} {B : tT} (hB : xBg S0 sd rm fb) (h : xMs S0 S rm fb 0) (hT : xCl (S0.2.1 20) fb xNo S σ sd T c) (hT2 : xCl (S0.2.1 20) fb xNo S σ sd B b) : xCt S0 (mv_pf S 5 5 801) σ sd rm fb 0 (fun T => T) T c B b := by
  have w : ∀ {T : tT} {c : Int32}, xCl (S0.2.1 20) fb xNo S σ sd T c → xCl (S0.2.1 20) fb (fun b i => b = false ∧ i = 801) S σ sd T c := by
    intro T
    induction T with
    | leaf => intro c a; exact a
    | inner t k v l r il ir =>
      rintro c ⟨i, i1, i2, i3, i4, i5, i6, i7, i8, i9, i10, i11⟩
      exact ⟨i, i1, i2, i3, i4, fun b z => by omega, i6, i7, i8, i9, il i10, ir i11⟩
  have go : xTo 801 (S0.2.1 20) fb (fun b i => b = false ∧ i = 801) S fb (fun b i => b = false ∧ i = 801) (mv_pf S 5 5 801) := xTo_refl (S := S)
  exact ⟨xMs_pf h (Or.inr rfl), fun b i => b = false ∧ i = 801, false, 801, fun b i z => ⟨by omega, by omega, fun y => by have := xBg_in hB (by omega) y (by omega); omega, Or.inr (by omega)⟩, fun b i z => by omega, ⟨rfl, rfl⟩, by rw [pf_get, if_pos ⟨rfl, rfl⟩]; rfl, xHo_id, xCl_go (by decide) go (w hT), xCl_go (by decide) go (w hT2)⟩
set_option maxHeartbeats 1000000 in
set_option maxRecDepth 8000 in
theorem x_put {key v c : Int32} {T : tT} (hB : xBg S0 sd rm fb) (hs : ∀ i, xIn (S0.2.1 20) fb i → σ i = st) (h : xMs S0 S rm fb 0) (hT : xCl (S0.2.1 20) fb xNo S σ sd T c)
    (hf : rm < tPutN (xRank sd) key T → ∀ x S', xOv S0 S' rm fb → P (some (.int x)) S')
    (ho : tPutN (xRank sd) key T ≤ rm → ∀ c' S', xRes S0 S' σ sd rm fb (tPutN (xRank sd) key T) (tPut (xRank sd) st key v T) c' → P (some (.int c')) S') : mv_big layX sysX (d + 3) 131 [.ref 5, .int c, .int key, .int v] S P := by
  have e12 : S.1 3 12 = sd := by rw [h.1.1 3 12 (by omega) (by omega)]; exact hB.1
  refine ⟨33000 + 80 * tN T + 40, ?_⟩
  refine ws_aload_n rfl (rfl) rfl (ws_getr rfl rfl rfl (ws_iload_n rfl (rfl) rfl (ws_iv rfl rfl rfl ?_)))
  refine x_rankOf ?_
  rw [e12]
  refine ws_istore rfl rfl rfl rfl (ws_iload_n rfl rfl rfl (ws_istore rfl rfl rfl rfl (ws_aload_n rfl rfl rfl (ws_sipush (x := 801) rfl rfl rfl (ws_puti rfl rfl rfl (ws_iconst (x := 0) rfl rfl rfl (ws_istore rfl rfl rfl rfl ?_)))))))
  exact mv_fuel (n := 33000 + 80 * tN T) (by omega) (xQ_down (b := 0) (B := .leaf) hB hs hf ho T _ c _ 0 (fun T => T) (by omega) rfl ⟨rfl, rfl, rfl, rfl, rfl, rfl⟩ (xCt_0 hB h hT rfl))
end XW
