/-! THE SMALL MACHINE IS SOUND: every instruction -/
theorem mv_bif {b : Bool} {X : Prop} (h : bif b then X else False) : b = true ∧ X := by cases b <;> simp_all
section MVW
variable {p : Program} {l : Launch} {e : Env} {R : Room} {s : State} {m : MethodId} {args : Array Value} {below : List Frame} {meth : Method} {c : Code} {Q : State → Prop}
variable {cc : ByteArray} {D : va_G} {cy : Nat → ClassId} {ad : Nat → Nat} {A : Nat → Prop} {lay : List mv_D} {sys : List mv_M} {own : String} {T : mv_T} {nL : Nat} {Call : mv_Call} {P : Option Value → mv_S → Prop}
/-- what a method's links must be -/
def mv_Tok (own : String) (T : mv_T) : Prop := (∀ i ci k, (i, ci, k) ∈ T.1 → mv_fok own i ci k) ∧ (∀ i v, (i, v) ∈ T.2.1 → Cond.constant own i v ∈ mv_Ts) ∧ (∀ i v, (i, v) ∈ T.2.2.1 → Cond.constantLong own i v ∈ mv_Ts)
/-- a call's row -/
def mv_Row (p : Program) (l : Launch) (e : Env) (R : Room) (s : State) (m : MethodId) (args : Array Value) (below : List Frame) (meth : Method) (c : Code) (Q : State → Prop) (D : va_G) (cy : Nat → ClassId) (ad : Nat → Nat) (A : Nat → Prop) (lay : List mv_D) (nL : Nat) (Call : mv_Call) (pc : Nat) (st : List Value) (j : Nat) (a rest : List Value) : Prop :=
  ∀ (S : mv_S) (P' : Option Value → mv_S → Prop) (H : Heap) (locs : List Loc) (ls : Array Slot), Call j a S P' → mv_W D cy ad A lay s S H locs → ls.size = nL →
    (∀ (r : Option Value) (S' : mv_S) (H' : Heap) (locs' : List Loc), P' r S' → mv_W D cy ad A lay s S' H' locs' → W p l e R s m args below meth c H' locs' 0 0 Q (F0 m (pc + 3) ls ((r.toList ++ rest).map (mv_k ad)))) →
    W p l e R s m args below meth c H locs 0 0 Q (F0 m pc ls (st.map (mv_k ad)))
theorem mv_get1 {S : mv_S} {H : Heap} {locs : List Loc} {pc i q ci k f : Nat} {ls : Array Slot} {rest : List Value} {v : Value} (hx : p.tables.exec = Jvm.exec) (hb : c.code = cc) (hown : s.vm.findClass own = some m.cls) (hts : ∀ w ∈ mv_Ts, w.before args s = true) (hK : va_K D vwCl (mv_tys cy) s) (hlay : mv_lok lay) (hT : mv_Tok own T)
    (hd : decode cc pc = .ok (.getfield i, 3)) (hf : mv_fd lay T i q = some (ci, k, f)) (hv : mv_f ad (S.1 q k) f = v) (hW : mv_W D cy ad A lay s S H locs) (kk : W p l e R s m args below meth c H locs 0 0 Q (F0 m (pc + 3) ls (v :: rest))) : W p l e R s m args below meth c H locs 0 0 Q (F0 m pc ls (.ref (ad q) :: rest)) := by
  obtain ⟨hm, fs, hq, hk⟩ := mv_fd_spec hf
  obtain ⟨C, Tt, N, hc, hkN, hlink, hC⟩ := hT.1 _ _ _ hm
  obtain ⟨⟨C', T', N', ty, hc', hin, hty, hnm⟩, hfs⟩ := hlay q ci fs hq
  have he : (C', T', N') = (C, Tt, N) := Option.some.inj (hc'.symm.trans hc)
  cases he
  refine va_get (D := D) (cl := vwCl) (tys := mv_tys cy) (ci := ci) (fs := mv_fs ad (S.1 q) 0 fs) hx hb hts hin hown hK hW.1 q (mv_w_get hq) hc k hkN (hts _ hlink) (fun x hxx => by rw [hC] at hxx; exact hxx) (v := v) ?_ hd kk
  rw [mv_fs_at, hk, Nat.zero_add, ← hv]; rfl
theorem mv_put1 {S : mv_S} {H : Heap} {locs : List Loc} {pc i q ci k f : Nat} {ls : Array Slot} {rest : List Value} {x : Int32} (hx : p.tables.exec = Jvm.exec) (hb : c.code = cc) (hown : s.vm.findClass own = some m.cls) (hts : ∀ w ∈ mv_Ts, w.before args s = true) (hK : va_K D vwCl (mv_tys cy) s) (hlay : mv_lok lay) (hT : mv_Tok own T)
    (hd : decode cc pc = .ok (.putfield i, 3)) (hf : mv_fd lay T i q = some (ci, k, f)) (hv : f = 0 ∨ (f = 1 ∧ (x = 0 ∨ x = 1))) (hW : mv_W D cy ad A lay s S H locs) (kk : ∀ (H1 : Heap) (locs1 : List Loc), mv_W D cy ad A lay s (mv_pf S q k x) H1 locs1 → W p l e R s m args below meth c H1 locs1 0 0 Q (F0 m (pc + 3) ls rest)) : W p l e R s m args below meth c H locs 0 0 Q (F0 m pc ls (.int x :: .ref (ad q) :: rest)) := by
  obtain ⟨hm, fs, hq, hk⟩ := mv_fd_spec hf
  obtain ⟨C, Tt, N, hc, hkN, hlink, hC⟩ := hT.1 _ _ _ hm
  obtain ⟨⟨C', T', N', ty, hc', hin, hty, hnm⟩, hfs⟩ := hlay q ci fs hq
  have he : (C', T', N') = (C, Tt, N) := Option.some.inj (hc'.symm.trans hc)
  cases he
  have hf2 : f < 2 := by rcases hv with h | h <;> omega
  obtain ⟨g0, g1⟩ := (hfs _ _ _ hc).2 k f hk
  have hl : k < (mv_fs ad (S.1 q) 0 fs).length := by
    have : (mv_fs ad (S.1 q) 0 fs)[k]? = some (mv_f ad (S.1 q (0 + k)) f) := by rw [mv_fs_at, hk]; rfl
    exact mv_lt this
  obtain ⟨ty1, hfin, hp, hn, hft⟩ : ∃ ty1 : FieldType, (Tt k).2.2.2 = false ∧ parseFieldDescriptor (Tt k).2.2.1 = some ty1 ∧ narrow ty1 (.int x) = .int x ∧ fits ty1 (.int x) = true := by
    rcases hv with h | ⟨h, h2⟩
    · exact ⟨.int, (g0 h).1, (g0 h).2, rfl, rfl⟩
    · exact ⟨.boolean, (g1 h).1, (g1 h).2, (mv_nar h2).2.1, (mv_nar h2).2.2⟩
  refine va_put (D := D) (cl := vwCl) (tys := mv_tys cy) (ci := ci) (fs := mv_fs ad (S.1 q) 0 fs) hx hb hts hin ty hty hnm hown hK hW.1 hW.2.1 hW.2.2 q (mv_w_get hq) hc k hkN (hts _ hlink) (fun x hxx => by rw [hC] at hxx; exact hxx) hfin hp hn hft hl hd (fun H1 locs1 hP1 hD1 hS1 => kk H1 locs1 ?_)
  rw [mv_w_pf hq hk hf2] at hP1 hD1
  exact ⟨hP1, hD1, hS1⟩
set_option maxHeartbeats 4000000 in
theorem mv_snd {Qc : Array Value → State → Outcome → State → Prop} {z : Option FieldType} {il : List (Nat × Instr)} (hx : p.tables.exec = Jvm.exec) (hb : c.code = cc) (hown : s.vm.findClass own = some m.cls) (hr : meth.sig.returnType = z) (hlocks : meth.locks = false) (hts : ∀ w ∈ mv_Ts, w.before args s = true) (hK : va_K D vwCl (mv_tys cy) s) (hlay : mv_lok lay) (hT : mv_Tok own T)
    (hdec : ∀ q ∈ il, decode cc q.1 = .ok (q.2, mv_len q.1 q.2))
    (hQ : ∀ (r : Option Value) (S' : mv_S) (H : Heap) (locs : List Loc) (t : State), P r S' → mv_W D cy ad A lay s S' H locs → t.heap = H → s.WarmedH t.vm → Qc args s (.returned (r.map (mv_k ad))) t)
    (hV : ∀ (pc i : Nat) (st : List Value) (j : Nat) (a rest : List Value), decode cc pc = .ok (.invokevirtual i, 3) → mv_iv lay sys T i st = some (j, a, rest) → mv_Row p l e R s m args below meth c (MQ below Qc args s 0 0 A) D cy ad A lay nL Call pc st j a rest)
    (hI : ∀ (pc i : Nat) (st : List Value) (j : Nat) (a rest : List Value), decode cc pc = .ok (.invokestatic i, 3) → mv_is sys T i st = some (j, a, rest) → mv_Row p l e R s m args below meth c (MQ below Qc args s 0 0 A) D cy ad A lay nL Call pc st j a rest) :
    ∀ (n pc : Nat) (lv : List (Nat × Value)) (st : List Value) (S : mv_S), mv_wp lay sys T nL z il Call P n pc lv st S → ∀ (H : Heap) (locs : List Loc) (ls : Array Slot), mv_W D cy ad A lay s S H locs → lv_has ls nL (mv_ks ad lv) → W p l e R s m args below meth c H locs 0 0 (MQ below Qc args s 0 0 A) (F0 m pc ls (st.map (mv_k ad))) := by
  intro n
  induction n with
  | zero => intro pc lv st S h; exact h.elim
  | succ n ih =>
    intro pc lv st S h H locs ls hW hl
    unfold mv_wp at h
    split at h
    · exact h.elim
    next i hm =>
    have hd := hdec _ (mv_at_mem hm)
    dsimp only at hd
    cases i
    case iconst n => exact lv_iconst hx hb hd rfl (ih _ _ _ _ h _ _ _ hW hl)
    case bipush n => exact lv_bipush hx hb hd rfl (ih _ _ _ _ h _ _ _ hW hl)
    case sipush n => exact lv_sipush hx hb hd rfl (ih _ _ _ _ h _ _ _ hW hl)
    case lconst n => exact lv_lconst hx hb hd rfl (ih _ _ _ _ h _ _ _ hW hl)
    case iload_n k =>
      dsimp only [mv_do] at h
      split at h
      · next x hm2 => exact lv_iload_n hx hb hd rfl (mv_ks_at hl hm2) (ih _ _ _ _ h _ _ _ hW hl)
      · exact h.elim
    case iload k =>
      dsimp only [mv_do] at h
      split at h
      · next x hm2 => exact lv_iload hx hb hd (mv_ks_at hl hm2) (ih _ _ _ _ h _ _ _ hW hl)
      · exact h.elim
    case aload_n k =>
      dsimp only [mv_do] at h
      split at h
      · next x hm2 => exact lv_aload_n hx hb hd rfl (mv_ks_at hl hm2) (ih _ _ _ _ h _ _ _ hW hl)
      · exact h.elim
    case aload k =>
      dsimp only [mv_do] at h
      split at h
      · next x hm2 => exact lv_aload hx hb hd (mv_ks_at hl hm2) (ih _ _ _ _ h _ _ _ hW hl)
      · exact h.elim
    case lload_n k =>
      dsimp only [mv_do] at h
      split at h
      · next x hm2 => exact lv_lload_n hx hb hd rfl (mv_ks_at hl hm2) (ih _ _ _ _ h _ _ _ hW hl)
      · exact h.elim
    case istore_n k =>
      dsimp only [mv_do] at h
      split at h
      · next x r =>
        obtain ⟨hk, h⟩ := mv_bif h
        exact lv_istore_n hx hb hd rfl hl (Nat.le_of_ble_eq_true hk) (mv_ks_sv ad _ (.int x) lv) (fun ls' hl' => ih _ _ _ _ h _ _ _ hW hl')
      · exact h.elim
    case istore k =>
      dsimp only [mv_do] at h
      split at h
      · next x r =>
        obtain ⟨hk, h⟩ := mv_bif h
        exact lv_istore hx hb hd hl (Nat.le_of_ble_eq_true hk) (mv_ks_sv ad _ (.int x) lv) (fun ls' hl' => ih _ _ _ _ h _ _ _ hW hl')
      · exact h.elim
    case astore_n k =>
      dsimp only [mv_do] at h
      split at h
      · next x r =>
        obtain ⟨hk, h⟩ := mv_bif h
        exact lv_astore_n hx hb hd rfl hl (Nat.le_of_ble_eq_true hk) (mv_ks_sv ad _ (.ref x) lv) (fun ls' hl' => ih _ _ _ _ h _ _ _ hW hl')
      · exact h.elim
    case astore k =>
      dsimp only [mv_do] at h
      split at h
      · next x r =>
        obtain ⟨hk, h⟩ := mv_bif h
        exact lv_astore hx hb hd hl (Nat.le_of_ble_eq_true hk) (mv_ks_sv ad _ (.ref x) lv) (fun ls' hl' => ih _ _ _ _ h _ _ _ hW hl')
      · exact h.elim
    case iinc k n =>
      dsimp only [mv_do] at h
      split at h
      · next x hm2 =>
        obtain ⟨hk, h⟩ := mv_bif h
        obtain ⟨kk, hkk⟩ := List.getElem?_of_mem (mv_ks_mem (ad := ad) hm2)
        exact lv_iinc hx hb hd hl hkk rfl (Nat.le_of_ble_eq_true hk) (mv_ks_sv ad _ (.int (x + Int32.ofInt n)) lv) (fun ls' hl' => ih _ _ _ _ h _ _ _ hW hl')
      · exact h.elim
    case iadd =>
      dsimp only [mv_do] at h
      split at h
      · exact lv_iadd hx hb hd (ih _ _ _ _ h _ _ _ hW hl)
      · exact h.elim
    case isub =>
      dsimp only [mv_do] at h
      split at h
      · exact lv_isub hx hb hd (ih _ _ _ _ h _ _ _ hW hl)
      · exact h.elim
    case imul =>
      dsimp only [mv_do] at h
      split at h
      · exact lv_imul hx hb hd (ih _ _ _ _ h _ _ _ hW hl)
      · exact h.elim
    case iand =>
      dsimp only [mv_do] at h
      split at h
      · exact lv_iand hx hb hd (ih _ _ _ _ h _ _ _ hW hl)
      · exact h.elim
    case ixor =>
      dsimp only [mv_do] at h
      split at h
      · exact lv_ixor hx hb hd (ih _ _ _ _ h _ _ _ hW hl)
      · exact h.elim
    case idiv =>
      dsimp only [mv_do] at h
      split at h
      · exact lv_idiv hx hb hd h.1 (ih _ _ _ _ h.2 _ _ _ hW hl)
      · exact h.elim
    case irem =>
      dsimp only [mv_do] at h
      split at h
      · exact lv_irem hx hb hd h.1 (ih _ _ _ _ h.2 _ _ _ hW hl)
      · exact h.elim
    case ineg =>
      dsimp only [mv_do] at h
      split at h
      · exact lv_ineg hx hb hd (ih _ _ _ _ h _ _ _ hW hl)
      · exact h.elim
    case iushr =>
      dsimp only [mv_do] at h
      split at h
      · exact lv_iushr hx hb hd rfl (ih _ _ _ _ h _ _ _ hW hl)
      · exact h.elim
    case i2l =>
      dsimp only [mv_do] at h
      split at h
      · exact lv_i2l hx hb hd rfl (ih _ _ _ _ h _ _ _ hW hl)
      · exact h.elim
    case ladd =>
      dsimp only [mv_do] at h
      split at h
      · exact lv_ladd hx hb hd (ih _ _ _ _ h _ _ _ hW hl)
      · exact h.elim
    case lcmp =>
      dsimp only [mv_do] at h
      split at h
      · exact W.lcmp hx hb hd (ih _ _ _ _ h _ _ _ hW hl)
      · exact h.elim
    case dup =>
      dsimp only [mv_do] at h
      split at h
      · exact lv_dup hx hb hd rfl (ih _ _ _ _ h _ _ _ hW hl)
      · exact lv_dup hx hb hd rfl (ih _ _ _ _ h _ _ _ hW hl)
      · exact h.elim
    case pop =>
      dsimp only [mv_do] at h
      split at h
      · exact lv_pop hx hb hd rfl (ih _ _ _ _ h _ _ _ hW hl)
      · exact lv_pop hx hb hd rfl (ih _ _ _ _ h _ _ _ hW hl)
      · exact h.elim
    case ldc k =>
      dsimp only [mv_do] at h
      split at h
      · next x hm2 => exact lv_ldc hx hb hown (hts _ (hT.2.1 _ _ (mv_at_mem hm2))) hd (ih _ _ _ _ h _ _ _ hW hl)
      · exact h.elim
    case ldc_w k =>
      dsimp only [mv_do] at h
      split at h
      · next x hm2 => exact lv_ldcw hx hb hown (hts _ (hT.2.1 _ _ (mv_at_mem hm2))) hd (ih _ _ _ _ h _ _ _ hW hl)
      · exact h.elim
    case ldc2_w k =>
      dsimp only [mv_do] at h
      split at h
      · next x hm2 => exact lv_ldc2 hx hb hown (hts _ (hT.2.2 _ _ (mv_at_mem hm2))) hd (ih _ _ _ _ h _ _ _ hW hl)
      · exact h.elim
    case goto off =>
      obtain ⟨t, e1, h⟩ := mv_to_spec h
      exact lv_goto hx hb hd e1 (ih _ _ _ _ h _ _ _ hW hl)
    case ifCond cd off =>
      dsimp only [mv_do] at h
      split at h
      · obtain ⟨t, e1, h1, h2⟩ := mv_to_spec h
        cases cd
        case eq => exact lv_if_eq hx hb hd e1 (fun h => ih _ _ _ _ (h1 h) _ _ _ hW hl) (fun h => ih _ _ _ _ (h2 h) _ _ _ hW hl)
        case ne => exact lv_if_ne hx hb hd e1 (fun h => ih _ _ _ _ (h1 h) _ _ _ hW hl) (fun h => ih _ _ _ _ (h2 h) _ _ _ hW hl)
        case lt => exact lv_if_lt hx hb hd e1 (fun h => ih _ _ _ _ (h1 h) _ _ _ hW hl) (fun h => ih _ _ _ _ (h2 h) _ _ _ hW hl)
        case ge => exact lv_if_ge hx hb hd e1 (fun h => ih _ _ _ _ (h1 h) _ _ _ hW hl) (fun h => ih _ _ _ _ (h2 h) _ _ _ hW hl)
        case gt => exact lv_if_gt hx hb hd e1 (fun h => ih _ _ _ _ (h1 h) _ _ _ hW hl) (fun h => ih _ _ _ _ (h2 h) _ _ _ hW hl)
        case le => exact lv_if_le hx hb hd e1 (fun h => ih _ _ _ _ (h1 h) _ _ _ hW hl) (fun h => ih _ _ _ _ (h2 h) _ _ _ hW hl)
      · exact h.elim
    case if_icmp cd off =>
      dsimp only [mv_do] at h
      split at h
      · obtain ⟨t, e1, h1, h2⟩ := mv_to_spec h
        cases cd
        case eq => exact lv_icmp_eq hx hb hd e1 (fun h => ih _ _ _ _ (h1 h) _ _ _ hW hl) (fun h => ih _ _ _ _ (h2 h) _ _ _ hW hl)
        case ne => exact lv_icmp_ne hx hb hd e1 (fun h => ih _ _ _ _ (h1 h) _ _ _ hW hl) (fun h => ih _ _ _ _ (h2 h) _ _ _ hW hl)
        case lt => exact lv_icmp_lt hx hb hd e1 (fun h => ih _ _ _ _ (h1 h) _ _ _ hW hl) (fun h => ih _ _ _ _ (h2 h) _ _ _ hW hl)
        case ge => exact lv_icmp_ge hx hb hd e1 (fun h => ih _ _ _ _ (h1 h) _ _ _ hW hl) (fun h => ih _ _ _ _ (h2 h) _ _ _ hW hl)
        case gt => exact lv_icmp_gt hx hb hd e1 (fun h => ih _ _ _ _ (h1 h) _ _ _ hW hl) (fun h => ih _ _ _ _ (h2 h) _ _ _ hW hl)
        case le => exact lv_icmp_le hx hb hd e1 (fun h => ih _ _ _ _ (h1 h) _ _ _ hW hl) (fun h => ih _ _ _ _ (h2 h) _ _ _ hW hl)
      · exact h.elim
    case tableswitch d lo hi offs =>
      dsimp only [mv_do] at h
      split at h
      · obtain ⟨hk, h⟩ := mv_bif h
        simp only [Bool.and_eq_true, decide_eq_true_eq] at hk
        exact mv_swt hx hb hd hk.1.1 hk.1.2 hk.2 (fun t h => ih _ _ _ _ h _ _ _ hW hl) h
      · exact h.elim
    case lookupswitch d ps =>
      dsimp only [mv_do] at h
      split at h
      · obtain ⟨hk, h⟩ := mv_bif h
        simp only [Bool.and_eq_true] at hk
        exact mv_sws hx hb hd hk.1 hk.2 (fun t h => ih _ _ _ _ h _ _ _ hW hl) h
      · exact h.elim
    case getfield k =>
      dsimp only [mv_do] at h
      split at h
      · split at h
        · next hf => exact mv_get1 hx hb hown hts hK hlay hT hd hf rfl hW (ih _ _ _ _ h _ _ _ hW hl)
        · next hf => exact mv_get1 hx hb hown hts hK hlay hT hd hf rfl hW (ih _ _ _ _ h _ _ _ hW hl)
        · next hf => exact mv_get1 hx hb hown hts hK hlay hT hd hf rfl hW (ih _ _ _ _ h _ _ _ hW hl)
        · exact h.elim
      · exact h.elim
    case putfield k =>
      dsimp only [mv_do] at h
      split at h
      · split at h
        · next hf => exact mv_put1 hx hb hown hts hK hlay hT hd hf (Or.inl rfl) hW (fun H1 locs1 hW1 => ih _ _ _ _ h _ _ _ hW1 hl)
        · next hf => exact mv_put1 hx hb hown hts hK hlay hT hd hf (Or.inr ⟨rfl, h.1⟩) hW (fun H1 locs1 hW1 => ih _ _ _ _ h.2 _ _ _ hW1 hl)
        · exact h.elim
      · exact h.elim
    case iaload =>
      dsimp only [mv_do] at h
      split at h
      · split at h
        · next hq => exact va_iald (tys := mv_tys cy) hx hb hK hW.1 _ 0 (mv_w_get hq) rfl h.1 hd (ih _ _ _ _ h.2 _ _ _ hW hl)
        · exact h.elim
      · exact h.elim
    case baload =>
      dsimp only [mv_do] at h
      split at h
      · split at h
        · next hq => exact va_zald (tys := mv_tys cy) hx hb hK hW.1 _ 1 (mv_w_get hq) rfl h.1 hd (ih _ _ _ _ h.2 _ _ _ hW hl)
        · exact h.elim
      · exact h.elim
    case laload =>
      dsimp only [mv_do] at h
      split at h
      · split at h
        · next hq => exact va_lald (tys := mv_tys cy) hx hb hK hW.1 _ 2 (mv_w_get hq) rfl h.1 hd (ih _ _ _ _ h.2 _ _ _ hW hl)
        · exact h.elim
      · exact h.elim
    case iastore =>
      dsimp only [mv_do] at h
      split at h
      · split at h
        · next hq =>
          refine va_iast (tys := mv_tys cy) hx hb hK hW.1 hW.2.1 hW.2.2 _ 0 (mv_w_get hq) rfl h.1 hd (fun H1 locs1 hP1 hD1 hS1 => ih _ _ _ _ h.2 H1 locs1 _ ?_ hl)
          rw [mv_w_pr (by decide) hq] at hP1 hD1
          exact ⟨hP1, hD1, hS1⟩
        · exact h.elim
      · exact h.elim
    case bastore =>
      dsimp only [mv_do] at h
      split at h
      · split at h
        · next hq =>
          refine va_zast (tys := mv_tys cy) hx hb hK hW.1 hW.2.1 hW.2.2 _ 1 (mv_w_get hq) rfl h.2.1 hd (fun H1 locs1 hP1 hD1 hS1 => ih _ _ _ _ h.2.2 H1 locs1 _ ?_ hl)
          rw [(mv_nar h.1).1, mv_w_pr (by decide) hq] at hP1 hD1
          exact ⟨hP1, hD1, hS1⟩
        · exact h.elim
      · exact h.elim
    case lastore =>
      dsimp only [mv_do] at h
      split at h
      · split at h
        · next hq =>
          refine va_last (tys := mv_tys cy) hx hb hK hW.1 hW.2.1 hW.2.2 _ 2 (mv_w_get hq) rfl h.1 hd (fun H1 locs1 hP1 hD1 hS1 => ih _ _ _ _ h.2 H1 locs1 _ ?_ hl)
          rw [mv_w_pl hq] at hP1 hD1
          exact ⟨hP1, hD1, hS1⟩
        · exact h.elim
      · exact h.elim
    case arraylength =>
      dsimp only [mv_do] at h
      split at h
      · split at h
        · next hq => exact va_alen (tys := mv_tys cy) hx hb hK hW.1 _ 0 (mv_w_get hq) rfl rfl hd (ih _ _ _ _ h _ _ _ hW hl)
        · next hq => exact va_alen (tys := mv_tys cy) hx hb hK hW.1 _ 1 (mv_w_get hq) rfl rfl hd (ih _ _ _ _ h _ _ _ hW hl)
        · next hq => exact va_alen (tys := mv_tys cy) hx hb hK hW.1 _ 2 (mv_w_get hq) rfl rfl hd (ih _ _ _ _ h _ _ _ hW hl)
        · exact h.elim
      · exact h.elim
    case invokevirtual k =>
      dsimp only [mv_do] at h
      split at h
      · next hi => exact hV _ _ _ _ _ _ hd hi _ _ _ _ _ h hW hl.1 (fun r S' H' locs' h' hW' => ih _ _ _ _ h' _ _ _ hW' hl)
      · exact h.elim
    case invokestatic k =>
      dsimp only [mv_do] at h
      split at h
      · next hi => exact hI _ _ _ _ _ _ hd hi _ _ _ _ _ h hW hl.1 (fun r S' H' locs' h' hW' => ih _ _ _ _ h' _ _ _ hW' hl)
      · exact h.elim
    case ireturn =>
      dsimp only [mv_do] at h
      split at h
      · next x =>
        split at h
        · exact W.iret (Qc := Qc) hx hb hr (fun t ht hw => hQ (some (.int x)) S H locs t h hW ht hw) hW.2.2.2.2 hd
        · exact W.zret (Qc := Qc) hx hb hr (mv_nar h.1).2.1 (fun t ht hw => hQ (some (.int x)) S H locs t h.2 hW ht hw) hW.2.2.2.2 hd
        · exact h.elim
      · exact h.elim
    case lreturn =>
      dsimp only [mv_do] at h
      split at h
      · next x =>
        split at h
        · exact W.lret (Qc := Qc) hx hb hr (fun t ht hw => hQ (some (.long x)) S H locs t h hW ht hw) hW.2.2.2.2 hd
        · exact h.elim
      · exact h.elim
    case return_ =>
      dsimp only [mv_do] at h
      split at h
      · split at h
        · exact W.vret (Qc := Qc) hx hb hr (fun t ht hw => hQ none S H locs t h hW ht hw) hW.2.2.2.2 hd
        · exact h.elim
      · exact h.elim
    all_goals exact False.elim h
end MVW
