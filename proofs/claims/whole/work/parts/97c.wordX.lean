/-! THE CLASS'S STORE: words -/
def mv_pick (x : Int32) (d : Int) : List (Int × Int) → Int
  | [] => d
  | (c, o) :: r => if x = Int32.ofInt c then o else mv_pick x d r
theorem mv_sw_of {pc : Nat} {x : Int32} {d : Int} {k : Nat → Prop} : ∀ {l : List (Int × Int)}, mv_to pc (mv_pick x d l) k → mv_sw pc x d k l
  | [], h => h
  | (c, o) :: r, h => by
    unfold mv_pick at h
    refine ⟨fun e => ?_, fun e => mv_sw_of ?_⟩
    · rw [if_pos e] at h; exact h
    · rw [if_neg e] at h; exact h
theorem mv_to_of {pc t : Nat} {o : Int} {k : Nat → Prop} (ht : (pc : Int) + o = (t : Int)) (h : k t) : mv_to pc o k := by
  unfold mv_to
  rw [ht]
  exact h
section WS
variable {lay : List mv_D} {sys : List mv_M} {T : mv_T} {nL : Nat} {z : Option FieldType} {il : List (Nat × Instr)} {Call : mv_Call} {P : Option Value → mv_S → Prop} {n pc : Nat} {lv : List (Nat × Value)} {st : List Value} {S : mv_S}
theorem ws_tab {d lo hi : Int} {offs : Array Int} {x : Int32} {t : Nat} (hi1 : mv_at pc il = some (.tableswitch d lo hi offs)) (hok : (decide (hi + 1 = lo + offs.size) && mv_rng lo && mv_rng hi) = true) (ht : (pc : Int) + mv_pick x d (mv_tb lo offs.toList) = (t : Int)) (h : mv_wp lay sys T nL z il Call P n t lv st S) : mv_wp lay sys T nL z il Call P (n + 1) pc lv (.int x :: st) S := by
  refine ws_i hi1 ?_
  simp only [mv_do, hok, cond_true]
  exact mv_sw_of (mv_to_of ht h)
theorem ws_lku {d : Int} {ps : Array (Int × Int)} {x : Int32} {t : Nat} (hi1 : mv_at pc il = some (.lookupswitch d ps)) (hok : ((ps.toList.zip (ps.toList.drop 1)).all (fun (a, next) => a.1 < next.1) && ps.toList.all (fun q => mv_rng q.1)) = true) (ht : (pc : Int) + mv_pick x d ps.toList = (t : Int)) (h : mv_wp lay sys T nL z il Call P n t lv st S) : mv_wp lay sys T nL z il Call P (n + 1) pc lv (.int x :: st) S := by
  refine ws_i hi1 ?_
  show bif _ then _ else _
  rw [hok]
  exact mv_sw_of (mv_to_of ht h)
theorem ws_pop {x : Int32} {t : Nat} (hi : mv_at pc il = some .pop) (ht : pc + 1 = t) (h : mv_wp lay sys T nL z il Call P n t lv st S) : mv_wp lay sys T nL z il Call P (n + 1) pc lv (.int x :: st) S := by
  subst ht
  exact ws_i hi h
theorem ws_lconst {c : Fin 2} {x : Int64} {t : Nat} (hi : mv_at pc il = some (.lconst c)) (hx : Int64.ofNat c.val = x) (ht : pc + 1 = t) (h : mv_wp lay sys T nL z il Call P n t lv (.long x :: st) S) : mv_wp lay sys T nL z il Call P (n + 1) pc lv st S := by
  subst ht; subst hx
  exact ws_i hi h
theorem ws_i2l {x : Int32} {t : Nat} (hi : mv_at pc il = some .i2l) (ht : pc + 1 = t) (h : mv_wp lay sys T nL z il Call P n t lv (.long x.toInt64 :: st) S) : mv_wp lay sys T nL z il Call P (n + 1) pc lv (.int x :: st) S := by
  subst ht
  exact ws_i hi h
theorem ws_ladd {x y : Int64} {t : Nat} (hi : mv_at pc il = some .ladd) (ht : pc + 1 = t) (h : mv_wp lay sys T nL z il Call P n t lv (.long (x + y) :: st) S) : mv_wp lay sys T nL z il Call P (n + 1) pc lv (.long y :: .long x :: st) S := by
  subst ht
  exact ws_i hi h
theorem ws_idiv {x y : Int32} {t : Nat} (hi : mv_at pc il = some .idiv) (hy : ¬ y = 0) (ht : pc + 1 = t) (h : mv_wp lay sys T nL z il Call P n t lv (.int (x / y) :: st) S) : mv_wp lay sys T nL z il Call P (n + 1) pc lv (.int y :: .int x :: st) S := by
  subst ht
  exact ws_i hi ⟨hy, h⟩
theorem ws_irem {x y : Int32} {t : Nat} (hi : mv_at pc il = some .irem) (hy : ¬ y = 0) (ht : pc + 1 = t) (h : mv_wp lay sys T nL z il Call P n t lv (.int (x - x / y * y) :: st) S) : mv_wp lay sys T nL z il Call P (n + 1) pc lv (.int y :: .int x :: st) S := by
  subst ht
  exact ws_i hi ⟨hy, h⟩
end WS
theorem i_divm (a : Int32) : a / (-1) = -a := by
  apply Int32.toInt_inj.mp
  rw [Int32.toInt_div, show (-1 : Int32).toInt = -1 by decide, Int.tdiv_neg, Int.tdiv_one, Int32.toInt_neg]
/-- what two numbers make by word w -/
def aOp (w a b : Int32) : Int32 := if w = 4 then a + b else if w = 5 then a - b else if w = 6 then a * b else if w = 7 then a / b else if w = 8 then a - a / b * b else if w = 9 then (if a < b then 1 else 0) else (if a = b then 1 else 0)
section XA
variable {d : Nat} {P : Option Value → mv_S → Prop} {S0 S S' : mv_S} {σ : Nat → Nat} {sd : Int32} {rm fb B : Nat} {rets : List Nat} {K : List aI} {Ks : List (List aI)} {vs : Nat → Int32} {mp : Nat → tT} {told : List Int32} {most : Nat} {x y : Int32} {v : Nat} {T : tT} {q : Option Int32}
set_option maxHeartbeats 1000000 in
set_option maxRecDepth 8000 in
theorem x_ap1 (h : xA S0 S σ sd rm fb B rets K Ks vs mp told most) (hb : (aNum K).length ≤ 40)
    (hP : ∀ S', xA S0 S' σ sd rm fb B rets (.inl x :: K) Ks vs mp told most → P (some (.int 1)) S') : mv_big layX sysX (d + 5) 114 [.ref 4, .int 1, .int x] S P := by
  refine ⟨80, ?_⟩
  refine ws_iload_n rfl (rfl) rfl (ws_iconst (x := 4) rfl rfl rfl (ws_i rfl ⟨fun _ => ?_, fun z => absurd (show (1 : Int32) < 4 by decide) z⟩))
  refine ws_iload_n rfl (rfl) rfl (ws_bipush (x := 22) rfl rfl rfl (ws_i rfl ⟨fun _ => ?_, fun z => absurd (show (1 : Int32) < 22 by decide) z⟩))
  refine ws_iload_n rfl (rfl) rfl (ws_tab (t := 136) rfl rfl (by decide) (ws_aload_n rfl (rfl) rfl (ws_iload_n rfl (rfl) rfl (ws_iv rfl rfl rfl ?_))))
  refine mv_deep (d := d + 2) (by omega) (x_pushA h hb (fun S1 h1 => ?_))
  refine ws_goto (t := 248) rfl (by decide) (ws_iconst (x := 1) rfl rfl rfl (ws_i rfl ?_))
  exact hP S1 h1
set_option maxHeartbeats 1000000 in
set_option maxRecDepth 8000 in
theorem x_ap2 (h : xA S0 S σ sd rm fb B rets K Ks vs mp told most) (hv : v < 14) (hb : (aNum K).length ≤ 40)
    (hP : ∀ S', xA S0 S' σ sd rm fb B rets (.inl (vs (aVP Ks.length v)) :: K) Ks vs mp told most → P (some (.int 1)) S') : mv_big layX sysX (d + 5) 114 [.ref 4, .int 2, .int (nI v)] S P := by
  refine ⟨80, ?_⟩
  refine ws_iload_n rfl (rfl) rfl (ws_iconst (x := 4) rfl rfl rfl (ws_i rfl ⟨fun _ => ?_, fun z => absurd (show (2 : Int32) < 4 by decide) z⟩))
  refine ws_iload_n rfl (rfl) rfl (ws_bipush (x := 22) rfl rfl rfl (ws_i rfl ⟨fun _ => ?_, fun z => absurd (show (2 : Int32) < 22 by decide) z⟩))
  refine ws_iload_n rfl (rfl) rfl (ws_tab (t := 144) rfl rfl (by decide) (ws_aload_n rfl (rfl) rfl (ws_aload_n rfl (rfl) rfl (ws_iload_n rfl (rfl) rfl (ws_iv rfl rfl rfl ?_)))))
  refine mv_deep (d := d + 2) (by omega) (x_numberA h hv ?_)
  refine ws_iv rfl rfl rfl ?_
  refine mv_deep (d := d + 2) (by omega) (x_pushA h hb (fun S1 h1 => ?_))
  refine ws_goto (t := 248) rfl (by decide) (ws_iconst (x := 1) rfl rfl rfl (ws_i rfl ?_))
  exact hP S1 h1
set_option maxHeartbeats 1000000 in
set_option maxRecDepth 8000 in
theorem x_ap3 (h : xA S0 S σ sd rm fb B rets (.inl x :: K) Ks vs mp told most) (hv : v < 14) (hb : (aNum K).length ≤ 40)
    (hP : ∀ S', xA S0 S' σ sd rm fb B rets K Ks (aUp vs (aVP Ks.length v) x) mp told most → P (some (.int 1)) S') : mv_big layX sysX (d + 5) 114 [.ref 4, .int 3, .int (nI v)] S P := by
  refine ⟨80, ?_⟩
  refine ws_iload_n rfl (rfl) rfl (ws_iconst (x := 4) rfl rfl rfl (ws_i rfl ⟨fun _ => ?_, fun z => absurd (show (3 : Int32) < 4 by decide) z⟩))
  refine ws_iload_n rfl (rfl) rfl (ws_bipush (x := 22) rfl rfl rfl (ws_i rfl ⟨fun _ => ?_, fun z => absurd (show (3 : Int32) < 22 by decide) z⟩))
  refine ws_iload_n rfl (rfl) rfl (ws_tab (t := 156) rfl rfl (by decide) (ws_aload_n rfl (rfl) rfl (ws_iload_n rfl (rfl) rfl (ws_aload_n rfl (rfl) rfl (ws_iv rfl rfl rfl ?_)))))
  refine mv_deep (d := d + 2) (by omega) (x_popA h hb (fun S1 h1 => ?_))
  refine ws_iv rfl rfl rfl ?_
  refine mv_deep (d := d + 2) (by omega) (x_setNumberA h1 hv (fun S2 h2 => ?_))
  refine ws_goto (t := 248) rfl (by decide) (ws_iconst (x := 1) rfl rfl rfl (ws_i rfl ?_))
  exact hP S2 h2
set_option maxHeartbeats 1000000 in
set_option maxRecDepth 8000 in
theorem x_ap11 (h : xA S0 S σ sd rm fb B rets (.inl x :: K) Ks vs mp told most) (hb : (aNum K).length ≤ 40)
    (hP : ∀ S', xA S0 S' σ sd rm fb B rets (.inl (if x = 0 then 1 else 0) :: K) Ks vs mp told most → P (some (.int 1)) S') : mv_big layX sysX (d + 5) 114 [.ref 4, .int 11, .int y] S P := by
  refine ⟨80, ?_⟩
  refine ws_iload_n rfl (rfl) rfl (ws_iconst (x := 4) rfl rfl rfl (ws_i rfl ⟨fun z => absurd z (show ¬ (11 : Int32) < 4 by decide), fun _ => ?_⟩))
  refine ws_iload_n rfl (rfl) rfl (ws_bipush (x := 10) rfl rfl rfl (ws_i rfl ⟨fun _ => ?_, fun z => absurd (show (10 : Int32) < 11 by decide) z⟩))
  refine ws_iload_n rfl (rfl) rfl (ws_bipush (x := 22) rfl rfl rfl (ws_i rfl ⟨fun _ => ?_, fun z => absurd (show (11 : Int32) < 22 by decide) z⟩))
  refine ws_iload_n rfl (rfl) rfl (ws_tab (t := 168) rfl rfl (by decide) (ws_aload_n rfl (rfl) rfl (ws_aload_n rfl (rfl) rfl (ws_iv rfl rfl rfl ?_))))
  refine mv_deep (d := d + 2) (by omega) (x_popA h hb (fun S1 h1 => ?_))
  by_cases c : x = 0
  · refine ws_i rfl ⟨fun z => absurd c z, fun _ => ?_⟩
    refine ws_iconst (x := 1) rfl rfl rfl (ws_goto (t := 181) rfl (by decide) (ws_iv rfl rfl rfl ?_))
    refine mv_deep (d := d + 2) (by omega) (x_pushA h1 hb (fun S2 h2 => ?_))
    refine ws_goto (t := 248) rfl (by decide) (ws_iconst (x := 1) rfl rfl rfl (ws_i rfl ?_))
    exact hP S2 (by rw [if_pos c]; exact h2)
  · refine ws_i rfl ⟨fun _ => ?_, fun z => absurd z c⟩
    refine ws_iconst (x := 0) rfl rfl rfl (ws_iv rfl rfl rfl ?_)
    refine mv_deep (d := d + 2) (by omega) (x_pushA h1 hb (fun S2 h2 => ?_))
    refine ws_goto (t := 248) rfl (by decide) (ws_iconst (x := 1) rfl rfl rfl (ws_i rfl ?_))
    exact hP S2 (by rw [if_neg c]; exact h2)
set_option maxHeartbeats 1000000 in
set_option maxRecDepth 8000 in
theorem x_ap15 (h : xA S0 S σ sd rm fb B rets (.inl x :: K) Ks vs mp told most) (hb : (aNum K).length ≤ 40)
    (hF : told.length = 300 → ∀ S', xA S0 S' σ sd rm fb B rets K Ks vs mp told most → P (some (.int 4)) S') (hP : told.length < 300 → ∀ S', xA S0 S' σ sd rm fb B rets K Ks vs mp (told ++ [x]) most → P (some (.int 1)) S') : mv_big layX sysX (d + 5) 114 [.ref 4, .int 15, .int y] S P := by
  refine ⟨80, ?_⟩
  refine ws_iload_n rfl (rfl) rfl (ws_iconst (x := 4) rfl rfl rfl (ws_i rfl ⟨fun z => absurd z (show ¬ (15 : Int32) < 4 by decide), fun _ => ?_⟩))
  refine ws_iload_n rfl (rfl) rfl (ws_bipush (x := 10) rfl rfl rfl (ws_i rfl ⟨fun _ => ?_, fun z => absurd (show (10 : Int32) < 15 by decide) z⟩))
  refine ws_iload_n rfl (rfl) rfl (ws_bipush (x := 22) rfl rfl rfl (ws_i rfl ⟨fun _ => ?_, fun z => absurd (show (15 : Int32) < 22 by decide) z⟩))
  refine ws_iload_n rfl (rfl) rfl (ws_tab (t := 187) rfl rfl (by decide) (ws_aload_n rfl (rfl) rfl (ws_aload_n rfl (rfl) rfl (ws_iv rfl rfl rfl ?_))))
  refine mv_deep (d := d + 2) (by omega) (x_popA h hb (fun S1 h1 => ?_))
  refine ws_iv rfl rfl rfl ?_
  refine mv_deep (d := d + 2) (by omega) (x_tellA h1 (fun z => ?_) (fun z S2 h2 => ?_))
  · refine ws_i rfl ?_
    exact hF z S1 h1
  · refine ws_i rfl ?_
    exact hP z S2 h2
set_option maxHeartbeats 1000000 in
set_option maxRecDepth 8000 in
theorem x_ap18 (h : xA S0 S σ sd rm fb B rets (.inl x :: K) Ks vs mp told most) (hb : (aNum K).length ≤ 40)
    (hP : ∀ S', xA S0 S' σ sd rm fb B rets K Ks vs mp told most → P (some (.int 1)) S') : mv_big layX sysX (d + 5) 114 [.ref 4, .int 18, .int y] S P := by
  refine ⟨80, ?_⟩
  refine ws_iload_n rfl (rfl) rfl (ws_iconst (x := 4) rfl rfl rfl (ws_i rfl ⟨fun z => absurd z (show ¬ (18 : Int32) < 4 by decide), fun _ => ?_⟩))
  refine ws_iload_n rfl (rfl) rfl (ws_bipush (x := 10) rfl rfl rfl (ws_i rfl ⟨fun _ => ?_, fun z => absurd (show (10 : Int32) < 18 by decide) z⟩))
  refine ws_iload_n rfl (rfl) rfl (ws_bipush (x := 22) rfl rfl rfl (ws_i rfl ⟨fun _ => ?_, fun z => absurd (show (18 : Int32) < 22 by decide) z⟩))
  refine ws_iload_n rfl (rfl) rfl (ws_tab (t := 196) rfl rfl (by decide) (ws_aload_n rfl (rfl) rfl (ws_iv rfl rfl rfl ?_)))
  refine mv_deep (d := d + 2) (by omega) (x_popA h hb (fun S1 h1 => ?_))
  refine ws_pop rfl rfl (ws_goto (t := 248) rfl (by decide) (ws_iconst (x := 1) rfl rfl rfl (ws_i rfl ?_)))
  exact hP S1 h1
set_option maxHeartbeats 1000000 in
set_option maxRecDepth 8000 in
theorem x_ap19 (h : xA S0 S σ sd rm fb B rets K Ks vs mp told most) (hv : v < 6) (hb : (aMap K).length ≤ 16)
    (hP : ∀ S', xA S0 S' σ sd rm fb B rets (.inr (mp (aMP Ks.length v), none) :: K) Ks vs mp told most → P (some (.int 1)) S') : mv_big layX sysX (d + 5) 114 [.ref 4, .int 19, .int (nI v)] S P := by
  refine ⟨80, ?_⟩
  refine ws_iload_n rfl (rfl) rfl (ws_iconst (x := 4) rfl rfl rfl (ws_i rfl ⟨fun z => absurd z (show ¬ (19 : Int32) < 4 by decide), fun _ => ?_⟩))
  refine ws_iload_n rfl (rfl) rfl (ws_bipush (x := 10) rfl rfl rfl (ws_i rfl ⟨fun _ => ?_, fun z => absurd (show (10 : Int32) < 19 by decide) z⟩))
  refine ws_iload_n rfl (rfl) rfl (ws_bipush (x := 22) rfl rfl rfl (ws_i rfl ⟨fun _ => ?_, fun z => absurd (show (19 : Int32) < 22 by decide) z⟩))
  refine ws_iload_n rfl (rfl) rfl (ws_tab (t := 204) rfl rfl (by decide) (ws_aload_n rfl (rfl) rfl (ws_aload_n rfl (rfl) rfl (ws_iload_n rfl (rfl) rfl (ws_iv rfl rfl rfl ?_)))))
  refine mv_deep (d := d + 2) (by omega) (x_treeA h hv (fun c h1 h2 => ?_))
  refine ws_iv rfl rfl rfl ?_
  refine mv_deep (d := d + 2) (by omega) (x_pushMapA h hb h1 (Or.inr h2) (fun S1 h3 => ?_))
  refine ws_goto (t := 248) rfl (by decide) (ws_iconst (x := 1) rfl rfl rfl (ws_i rfl ?_))
  exact hP S1 h3
theorem xA_take (h : xA S0 S σ sd rm fb B rets (.inr (T, q) :: K) Ks vs mp told most) (f' : ∀ o f, S'.1 o f = if o = 4 ∧ f = 12 then nI (aMap (K ++ Ks.flatten)).length else S.1 o f) (r' : ∀ o i, S'.2.1 o i = if o = 24 ∧ i = aMP Ks.length v then S.2.1 26 (aMap (K ++ Ks.flatten)).length else S.2.1 o i) (l : S'.2.2 = S.2.2) : xA S0 S' σ sd rm fb B rets K Ks vs (aUp mp (aMP Ks.length v) T) told most := by
  have h0 := h
  obtain ⟨a1, a2, a3, a4, a5, a6, a7, a8, a9, a10⟩ := h
  have ff : ∀ o f, ¬ (o = 4 ∧ f = 12) → S'.1 o f = S.1 o f := fun o f a => by rw [f', if_neg a]
  have r : ∀ o i, o ≠ 24 → S'.2.1 o i = S.2.1 o i := fun o i a => by rw [r', if_neg (fun z => a z.1)]
  have hs : xHs S S' := ⟨fun g => ff 3 g (by omega), fun o i _ _ => r o i (by omega)⟩
  refine xA_gen h0 ⟨fun o g a b c => ff o g (by omega), ff 4 15 (by omega), fun o i _ => r o i (by omega)⟩ hs ⟨(ff 4 11 (by omega)).trans a3.1, xNs_go (fun p _ => r 25 p (by decide)) a3.2⟩ ⟨by rw [f', if_pos ⟨rfl, rfl⟩], xZs_go hs (fun p _ => ⟨r 26 p (by decide), by rw [l]⟩) a4.2.2⟩ ⟨(ff 4 13 (by omega)).trans a5.1, a5.2.1, xBs_go (fun o i _ _ => r o i (by omega)) a5.2.2⟩ (fun i hi => (r 23 i (by decide)).trans (a6 i hi)) (fun i hi => ?_) ⟨(ff 4 14 (by omega)).trans a8.1, a8.2.1, fun p y hp => (r 31 p (by decide)).trans (a8.2.2 p y hp)⟩ ((ff 4 16 (by omega)).trans a9) (fun T' c' z => ?_)
  · rw [r']
    unfold aUp
    by_cases c : i = aMP Ks.length v
    · rw [if_pos c, if_pos ⟨rfl, c⟩]; exact xCl_hs hs a4.2.1.1
    · rw [if_neg c, if_neg (fun z => c z.2)]; exact xCl_hs hs (a7 i hi)
  · refine Or.inr ?_
    rcases z with ⟨i, i1, i2, i3⟩ | z
    · rw [r'] at i3
      unfold aUp at i2
      by_cases c : i = aMP Ks.length v
      · rw [if_pos c] at i2
        rw [if_pos ⟨rfl, c⟩] at i3
        rw [i2, i3]; exact Or.inr (Or.inl ⟨rfl, rfl⟩)
      · rw [if_neg c] at i2
        rw [if_neg (fun z => c z.2)] at i3
        exact Or.inl ⟨i, i1, i2, i3⟩
    · exact Or.inr (Or.inr (xZr_go (fun p hp => r 26 p (by decide)) z))
set_option maxHeartbeats 1000000 in
set_option maxRecDepth 8000 in
theorem x_ap20 (h : xA S0 S σ sd rm fb B rets (.inr (T, q) :: K) Ks vs mp told most) (hv : v < 6) (hb : (aMap K).length ≤ 16)
    (hP : ∀ S', xA S0 S' σ sd rm fb B rets K Ks vs (aUp mp (aMP Ks.length v) T) told most → P (some (.int 1)) S') : mv_big layX sysX (d + 5) 114 [.ref 4, .int 20, .int (nI v)] S P := by
  refine ⟨80, ?_⟩
  have n24 := h.2.2.2.2.1.2.1
  have lt := aMP_lt (n := Ks.length) hv
  obtain ⟨e1, e2, e3⟩ := x_popMapR h hb
  refine ws_iload_n rfl (rfl) rfl (ws_iconst (x := 4) rfl rfl rfl (ws_i rfl ⟨fun z => absurd z (show ¬ (20 : Int32) < 4 by decide), fun _ => ?_⟩))
  refine ws_iload_n rfl (rfl) rfl (ws_bipush (x := 10) rfl rfl rfl (ws_i rfl ⟨fun _ => ?_, fun z => absurd (show (10 : Int32) < 20 by decide) z⟩))
  refine ws_iload_n rfl (rfl) rfl (ws_bipush (x := 22) rfl rfl rfl (ws_i rfl ⟨fun _ => ?_, fun z => absurd (show (20 : Int32) < 22 by decide) z⟩))
  refine ws_iload_n rfl (rfl) rfl (ws_tab (t := 216) rfl rfl (by decide) (ws_aload_n rfl (rfl) rfl (ws_getr rfl rfl rfl (ws_aload_n rfl (rfl) rfl (ws_iload_n rfl (rfl) rfl (ws_iv rfl rfl rfl ?_))))))
  refine x_mplace ?_
  unfold xMP
  rw [h.2.2.2.2.1.1, aMP_n v hv _ (by omega)]
  refine ws_aload_n rfl (rfl) rfl (ws_iv rfl rfl rfl ?_)
  refine mv_deep (d := d + 2) (by omega) (x_popMap ?_)
  rw [e1, e2]
  refine ws_is rfl rfl rfl ?_
  refine x_set_24 ?_
  rw [sR_nI (by omega) (by decide)]
  obtain ⟨S2, hS2⟩ : ∃ S2, S2 = mv_pr (mv_pf S 4 12 (nI (aMap (K ++ Ks.flatten)).length)) 24 (aMP Ks.length v) (S.2.1 26 (aMap (K ++ Ks.flatten)).length) := ⟨_, rfl⟩
  rw [← hS2]
  have fin := xA_take (S' := S2) h (fun o f => by rw [hS2]; show (mv_pf S 4 12 _).1 o f = _; rw [pf_get]) (fun o i => by rw [hS2, pr_get]; rfl) (by rw [hS2]; rfl)
  refine ws_goto (t := 248) rfl (by decide) (ws_iconst (x := 1) rfl rfl rfl (ws_i rfl ?_))
  exact hP _ fin
set_option maxHeartbeats 1000000 in
set_option maxRecDepth 8000 in
theorem x_ap21 (h : xA S0 S σ sd rm fb B rets K Ks vs mp told most) (hb : (aMap K).length ≤ 16)
    (hP : ∀ S', xA S0 S' σ sd rm fb B rets (.inr (.leaf, none) :: K) Ks vs mp told most → P (some (.int 1)) S') : mv_big layX sysX (d + 5) 114 [.ref 4, .int 21, .int y] S P := by
  refine ⟨80, ?_⟩
  refine ws_iload_n rfl (rfl) rfl (ws_iconst (x := 4) rfl rfl rfl (ws_i rfl ⟨fun z => absurd z (show ¬ (21 : Int32) < 4 by decide), fun _ => ?_⟩))
  refine ws_iload_n rfl (rfl) rfl (ws_bipush (x := 10) rfl rfl rfl (ws_i rfl ⟨fun _ => ?_, fun z => absurd (show (10 : Int32) < 21 by decide) z⟩))
  refine ws_iload_n rfl (rfl) rfl (ws_bipush (x := 22) rfl rfl rfl (ws_i rfl ⟨fun _ => ?_, fun z => absurd (show (21 : Int32) < 22 by decide) z⟩))
  refine ws_iload_n rfl (rfl) rfl (ws_tab (t := 235) rfl rfl (by decide) (ws_aload_n rfl (rfl) rfl (ws_iconst (x := 0) rfl rfl rfl (ws_iv rfl rfl rfl ?_))))
  refine mv_deep (d := d + 2) (by omega) (x_pushMapA (T := .leaf) h hb rfl (Or.inl rfl) (fun S1 h1 => ?_))
  refine ws_goto (t := 248) rfl (by decide) (ws_iconst (x := 1) rfl rfl rfl (ws_i rfl ?_))
  exact hP S1 h1
end XA
