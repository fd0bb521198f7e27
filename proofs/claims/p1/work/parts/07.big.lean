/-! THE SMALL MACHINE IS SOUND: methods, calls, levels -/
def mv_rm (d : Nat) : Room := { frames := d, cells := 0, slots := 0, locals := 40 * d }
/-- a contract's start and end, over the store -/
def mv_Pc (D : va_G) (cy : Nat → ClassId) (ad : Nat → Nat) (A : Nat → Prop) (lay : List mv_D) (a : List Value) (S : mv_S) : Array Value → State → Prop := va_Pc (a.map (mv_k ad)) (fun U => va_P D vwCl (mv_w cy ad S 0 lay) U.heap ∧ va_K D vwCl (mv_tys cy) U ∧ va_D A (mv_w cy ad S 0 lay))
def mv_Qc (D : va_G) (cy : Nat → ClassId) (ad : Nat → Nat) (A : Nat → Prop) (lay : List mv_D) (P : Option Value → mv_S → Prop) : Array Value → State → Outcome → State → Prop := fun _ st oc t => (∃ (r : Option Value) (S' : mv_S), oc = .returned (r.map (mv_k ad)) ∧ P r S' ∧ va_P D vwCl (mv_w cy ad S' 0 lay) t.heap ∧ va_K D vwCl (mv_tys cy) t ∧ va_D A (mv_w cy ad S' 0 lay)) ∧ va_F A st t
/-- what a method of the system must be -/
def mv_mok (sys : List mv_M) (M : mv_M) : Prop :=
  plainName M.1.cls = true ∧ Cond.code M.1 M.2.1 M.2.2.1 M.2.2.2.1 ∈ mv_Ts ∧ (∀ q ∈ M.2.2.2.2.2.2.2, decode M.2.1 q.1 = .ok (q.2, mv_len q.1 q.2)) ∧ mv_Tok M.1.cls M.2.2.2.2.2.2.1 ∧
  (∀ (i j : Nat), (i, j) ∈ M.2.2.2.2.2.2.1.2.2.2 → ∀ M', sys[j]? = some M' → Cond.methodLink M.1.cls i M'.1 ∈ mv_Ts) ∧
  (M.1.cls ≠ "java/lang/invoke/MethodHandle" ∧ M.1.cls ≠ "java/lang/invoke/VarHandle" ∧ (parseMethodDescriptor M.1.desc).map (fun d => d.parameters.length) = some M.2.2.2.2.1) ∧ M.2.2.1 ≤ 21 ∧
  (Cond.initialized M.1.cls ∈ mv_Ts) ∧ (∀ ci, M.2.2.2.2.2.1 = some ci → (∃ (T : u_T) (N : Nat), vwCl[ci]? = some (M.1.cls, T, N)) ∧ Cond.instanceMethod M.1 ∈ mv_Ts ∧ Cond.selects M.1.cls M.1 M.1 ∈ mv_Ts) ∧ (M.2.2.2.2.2.1 = none → Cond.static M.1 ∈ mv_Ts)
theorem mv_goodIn {w : Cond} (h : w ∈ mv_Ts) : GoodIn mv_Ts (w :: mv_Ts) := fun v hv => by
  have : v ∈ mv_Ts := by
    rcases List.mem_cons.mp hv with rfl | h1
    · exact h
    · exact h1
  exact ⟨this, good_of_word (mv_good v this)⟩
theorem mv_blind {D : va_G} {cy : Nat → ClassId} {ad : Nat → Nat} {A : Nat → Prop} {lay : List mv_D} {a : List Value} {S : mv_S} : FrameBlind (mv_Pc D cy ad A lay a S) := fun a U g mk q => by
  obtain ⟨q0, qP, qK, qD⟩ := q
  exact ⟨q0, qP, va_K.moved (u := U) (U := U.calling g mk a) (Vm.Alike.refl U.vm) qK, qD⟩
section MVB
variable {p : Program} {l : Launch} {e : Env} {R : Room} {s : State} {m : MethodId} {args : Array Value} {below : List Frame} {meth : Method} {c : Code} {Q : State → Prop}
variable {cc : ByteArray} {D : va_G} {cy : Nat → ClassId} {ad : Nat → Nat} {A : Nat → Prop} {lay : List mv_D} {sys : List mv_M} {own : String} {T : mv_T} {nL : Nat} {Call : mv_Call} {P : Option Value → mv_S → Prop}
theorem mv_run {pc : Nat} {ls : Array Slot} {st0 rest : List Value} {a : Array Value} {H : Heap} {locs : List Loc} {S : mv_S} (hr : va_Run p l e R s m args below meth c H locs 0 0 0 0 (F0 m pc ls st0) (rest.map (mv_k ad)) (mv_Qc D cy ad A lay P a) A) (hW : mv_W D cy ad A lay s S H locs)
    (kk : ∀ (r : Option Value) (S' : mv_S) (H' : Heap) (locs' : List Loc), P r S' → mv_W D cy ad A lay s S' H' locs' → W p l e R s m args below meth c H' locs' 0 0 Q (F0 m (pc + 3) ls ((r.toList ++ rest).map (mv_k ad)))) : W p l e R s m args below meth c H locs 0 0 Q (F0 m pc ls st0) := by
  intro U hU X
  obtain ⟨v, st₀, t, T', L, h0, X', hL, e1, e2, ⟨⟨r, S', hv, hp, hP1, hK1, hD1⟩, hz, hk⟩, st⟩ := hr U hU X
  rw [h0] at hz hk
  obtain ⟨hP, hD, hS⟩ := hW
  have ev : v = r.map (mv_k ad) := by cases hv; rfl
  subst ev
  obtain ⟨t2, a1, b1⟩ := kk r S' T'.heap (locs ++ L) hp ⟨by rw [e1]; exact hP1, hD1, Nat.le_trans hS.1 (by rw [e1]; exact hz), fun q h1 h2 => by rw [e1, hk q (Nat.lt_of_lt_of_le h1 hS.1) h2]; exact hS.2.1 q h1 h2, fun q hq => by
      rcases List.mem_append.mp hq with h | h
      · exact hS.2.2 q h
      · exact hL q h⟩ T' rfl X'
  refine ⟨t2, st t2 ?_, b1⟩
  have : (r.map (mv_k ad)).toList ++ rest.map (mv_k ad) = (r.toList ++ rest).map (mv_k ad) := by cases r <;> simp
  rw [this]
  exact a1
end MVB
theorem mv_met {l : Launch} {D : va_G} {cy : Nat → ClassId} {ad : Nat → Nat} {A : Nat → Prop} {lay : List mv_D} {sys : List mv_M} (hlay : mv_lok lay) (hsys : ∀ (j : Nat) (M : mv_M), sys[j]? = some M → mv_mok sys M) :
    ∀ (d j : Nat) (a : List Value) (S : mv_S) (P : Option Value → mv_S → Prop) (M : mv_M), sys[j]? = some M → mv_big lay sys d j a S P → Met l M.1 (Cond.code M.1 M.2.1 M.2.2.1 M.2.2.2.1 :: mv_Ts) (mv_rm d) (mv_Pc D cy ad A lay a S) (mv_Qc D cy ad A lay P) 0 0 A := by
  intro d
  induction d with
  | zero => intro j a S P M _ h; exact h.elim
  | succ d ih =>
    intro j a S P M hM h
    unfold mv_big at h
    rw [hM] at h
    obtain ⟨hlen, n, h⟩ := mv_bif h
    obtain ⟨h1, h2, h3, h4, h5, h6, h7, h8, h9, h10⟩ := hsys j M hM
    refine Met.ofW (cc := M.2.1) (maxL := M.2.2.1) (ret := M.2.2.2.1) h1 rfl ?_
    intro p e s m args below meth c s₁ B hml hv
    obtain ⟨rfl, hP, hK, hD⟩ := hv
    have hx := B.exec
    have hb := B.bytes
    have hr := B.returns
    have hts0 := atoms_spec (ws := Cond.code M.1 M.2.1 M.2.2.1 M.2.2.2.1 :: mv_Ts) B.pre
    have hts : ∀ w ∈ mv_Ts, w.before (a.map (mv_k ad)).toArray s = true := fun w hw => hts0 w (List.mem_cons_of_mem _ hw)
    have hown : s.vm.findClass M.1.cls = some m.cls := findClass_of_methodNamed B.named
    have hlocks := B.notSynchronized
    have hl := lv_entry (a.map (mv_k ad)) (n := M.2.2.1) (by rw [mv_sl_len]; exact Nat.le_of_ble_eq_true hlen)
    rw [mv_ks_args] at hl
    rw [lg_entry_eq]
    generalize (lg_sl (a.map (mv_k ad)) ++ List.replicate (M.2.2.1 - (lg_sl (a.map (mv_k ad))).length) Slot.unset).toArray = ls at hl ⊢
    refine mv_snd (own := M.1.cls) (Call := mv_big lay sys d) (Qc := mv_Qc D cy ad A lay P) hx hb hown hr hlocks hts hK hlay h4 h3 ?_ ?_ ?_ n 0 (lv_args 0 a) [] S h s.heap [] ls ⟨hP, hD, va_S.rf⟩ hl
    · intro r S' H locs t hp hW ht hwm
      exact ⟨⟨r, S', rfl, hp, by rw [ht]; exact hW.1, va_K.moved hwm.alike hK, hW.2.1⟩, hW.2.2.F ht⟩
    · intro pc i st j' a' rest hd hiv
      obtain ⟨hm, y, cc', mL, rt, np, ci, T', il', q, fs, As, hs', hq, hAs, rfl, rfl, hcat⟩ := mv_iv_spec hiv
      obtain ⟨g1, g2, g3, g4, g5, g6, g7, g8, g9, g10⟩ := hsys j' _ hs'
      obtain ⟨⟨Tt, N, hcl⟩, gi, gs⟩ := g9 ci rfl
      intro S' P' H locs ls' hc hW hsz kk
      have hM' := ih j' _ S' P' _ hs' hc
      have cb : CallB (headSpec (Cond.code M.1 M.2.1 M.2.2.1 M.2.2.2.1 :: mv_Ts) (mv_rm (d + 1))).room s (a.map (mv_k ad)).toArray M.1.cls i y cc' mL rt (Cond.code y cc' mL rt :: mv_Ts) (mv_rm d) 0 0 np :=
        callB_of np hts (mv_goodIn g2) rfl rfl rfl (hts _ g8) (hts _ (h5 _ _ hm _ hs')) g6 ⟨Nat.le_refl _, by show 8 + (mL + 11) + 40 * d ≤ 40 * (d + 1); have : mL ≤ 21 := g7; omega⟩
      refine mv_run (S := S') (a := (Value.ref (ad q) :: As.map (mv_k ad)).toArray) (va_runV (C := y.cls) (b := ad q) (As := As.map (mv_k ad)) (rest := rest.map (mv_k ad)) ⟨hx, hb, hml, hown, hts⟩ hM' ⟨cb, hts _ gi, hts _ gs⟩ ⟨mv_blind, va_recv hK hW.1 hcl (mv_w_get hq), fun U hU hWm => ⟨rfl, by rw [hU]; exact hW.1, va_K.moved hWm.alike hK, hW.2.1⟩⟩ rfl (by rw [List.length_map]; exact hAs) hsz ?_ (lv_room (by rw [mv_cat_k]; exact hcat)) hd ⟨Nat.zero_le _, Nat.zero_le _⟩) hW kk
      simp [mv_k]
    · intro pc i st j' a' rest hd his
      obtain ⟨hm, y, cc', mL, rt, np, T', il', hs', hAs, rfl, hcat⟩ := mv_is_spec his
      obtain ⟨g1, g2, g3, g4, g5, g6, g7, g8, g9, g10⟩ := hsys j' _ hs'
      intro S' P' H locs ls' hc hW hsz kk
      have hM' := ih j' _ S' P' _ hs' hc
      have cb : CallB (headSpec (Cond.code M.1 M.2.1 M.2.2.1 M.2.2.2.1 :: mv_Ts) (mv_rm (d + 1))).room s (a.map (mv_k ad)).toArray M.1.cls i y cc' mL rt (Cond.code y cc' mL rt :: mv_Ts) (mv_rm d) 0 0 np :=
        callB_of np hts (mv_goodIn g2) rfl rfl rfl (hts _ g8) (hts _ (h5 _ _ hm _ hs')) g6 ⟨Nat.le_refl _, by show 8 + (mL + 11) + 40 * d ≤ 40 * (d + 1); have : mL ≤ 21 := g7; omega⟩
      refine mv_run (S := S') (a := (a'.map (mv_k ad)).toArray) (va_runS (As := a'.map (mv_k ad)) (rest := rest.map (mv_k ad)) ⟨hx, hb, hml, hown, hts⟩ hM' ⟨cb, hts _ (g10 rfl)⟩ ⟨mv_blind, fun U hU hWm => ⟨rfl, by rw [hU]; exact hW.1, va_K.moved hWm.alike hK, hW.2.1⟩⟩ rfl (by rw [List.length_map]; exact hAs) hsz ?_ (lv_room (by rw [mv_cat_k]; exact hcat)) hd ⟨Nat.zero_le _, Nat.zero_le _⟩) hW kk
      simp
