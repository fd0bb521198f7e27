/-! THE CONSTRUCTORS' MACHINE IS SOUND: calls, levels -/
theorem mc_blind {D : va_G} {cy : Nat → ClassId} {ad : Nat → Nat} {a : List Value} {M : mc_M} {sz : Nat} : FrameBlind (mc_Pc D cy ad a M sz) := fun a U g mk q => by
  obtain ⟨q0, qz, qP, qK, qD, qN⟩ := q
  exact ⟨q0, qz, qP, va_K.moved (u := U) (U := U.calling g mk a) (Vm.Alike.refl U.vm) qK, qD, qN.same rfl⟩
section MCB
variable {p : Program} {l : Launch} {e : Env} {R : Room} {s : State} {m : MethodId} {args : Array Value} {below : List Frame} {meth : Method} {c : Code}
variable {D : va_G} {cy : Nat → ClassId} {ad0 : Nat → Nat} {M0 : mc_M} {Q : State → Prop}
theorem mc_run {ad : Nat → Nat} {M M2 : mc_M} {k n k2 n2 pc : Nat} {ls : Array Slot} {st0 rest : List Value} {a : Array Value} {H : Heap} {locs : List Loc} (hr : va_Run p l e R s m args below meth c H locs k n k2 n2 (F0 m pc ls st0) (rest.map (mv_k ad)) (mc_Qc D cy ad M M2 H.size a) (mc_A cy ad M H.size)) (hW : mc_W D cy ad0 M0 s ad M H locs)
    (kk : ∀ (ad2 : Nat → Nat) (H' : Heap) (locs' : List Loc), (∀ q, q < M.length → ad2 q = ad q) → va_P D vwCl (mc_w cy ad2 0 M2) H' → va_D (mc_A cy ad0 M0 s.heap.size) (mc_w cy ad2 0 M2) → va_S (mc_A cy ad0 M0 s.heap.size) s.heap H' locs' → W p l e R s m args below meth c H' locs' (k + k2) (n + n2) Q (F0 m (pc + 3) ls (rest.map (mv_k ad)))) : W p l e R s m args below meth c H locs k n Q (F0 m pc ls st0) := by
  intro U hU X
  obtain ⟨v, st₀, t, T', L, h0, X', hL, e1, e2, ⟨⟨ad2, hv, hu, hP1, hK1, hD1⟩, hz, hk⟩, st⟩ := hr U hU X
  rw [h0] at hz hk
  obtain ⟨hu0, hm0, hP, hD, hS⟩ := hW
  have hA : ∀ q, mc_A cy ad M H.size q → mc_A cy ad0 M0 s.heap.size q := by
    intro q hq
    rcases hq with ⟨k1, e1, hk1⟩ | hq
    · exact hD.2 k1 _ hk1
    · exact Or.inr (Nat.le_trans hS.1 hq)
  cases hv
  obtain ⟨t2, a1, b1⟩ := kk ad2 T'.heap (locs ++ L) hu (by rw [e1]; exact hP1) (hD1.weaken (fun _ q _ h => hA q.1 h)) ⟨Nat.le_trans hS.1 (by rw [e1]; exact hz), fun q h1 h2 => by rw [e1, hk q (Nat.lt_of_lt_of_le h1 hS.1) (fun z => h2 (hA q z))]; exact hS.2.1 q h1 h2, fun q hq => by
      rcases List.mem_append.mp hq with h | h
      · exact hS.2.2 q h
      · exact hA _ (hL q h)⟩ T' rfl X'
  exact ⟨t2, st t2 a1, b1⟩
end MCB
set_option maxHeartbeats 4000000 in
theorem mc_met {l : Launch} {D : va_G} {cy : Nat → ClassId} {df : List (List Value)} {ctors : List mc_C} (hct : ∀ (j : Nat) (C : mc_C), ctors[j]? = some C → mc_cok df ctors C) (hAr : ∀ ty : FieldType, ty = .int ∨ ty = .boolean ∨ ty = .long → Cond.arrayClass ty ∈ mv_Ts) :
    ∀ (d j : Nat) (a : List Value) (M M' : mc_M) (k' n' : Nat) (C : mc_C) (ad : Nat → Nat) (sz : Nat), ctors[j]? = some C → mc_big df ctors d j a M = some (M', k', n') → Met l C.1 (Cond.code C.1 C.2.1 C.2.2.1 none :: mv_Ts) (mc_rm d k' n') (mc_Pc D cy ad a M sz) (mc_Qc D cy ad M M' sz) k' n' (mc_A cy ad M sz) := by
  intro d
  induction d with
  | zero => intro j a M M' k' n' C ad sz _ h; cases h
  | succ d ih =>
    intro j a M M' k' n' C ad sz hC h
    unfold mc_big at h
    rw [hC] at h
    obtain ⟨hg, h⟩ := mc_bif h
    simp only [Bool.and_eq_true] at hg
    obtain ⟨⟨hlen, hall⟩, hnx⟩ := hg
    obtain ⟨i0, r0, hil⟩ := mc_nx_of hnx
    have hok := hct j C hC
    refine Met.ofW (cc := C.2.1) (maxL := C.2.2.1) (ret := none) hok.1 rfl ?_
    intro p e s m args below meth c s₁ B hml hv
    obtain ⟨rfl, hsz, hP, hK, hD0, hN⟩ := hv
    subst hsz
    have hx := B.exec
    have hb := B.bytes
    have hr := B.returns
    have hts0 := atoms_spec (ws := Cond.code C.1 C.2.1 C.2.2.1 none :: mv_Ts) B.pre
    have hts : ∀ w ∈ mv_Ts, w.before (a.map (mv_k ad)).toArray s = true := fun w hw => hts0 w (List.mem_cons_of_mem _ hw)
    have hown : s.vm.findClass C.1.cls = some m.cls := findClass_of_methodNamed B.named
    have hname : meth.name = C.1.name := (name_of_methodNamed B.named B.method).1
    have hlocks := B.notSynchronized
    have hl := lv_entry (a.map (mv_k ad)) (n := C.2.2.1) (by rw [mv_sl_len]; exact Nat.le_of_ble_eq_true hlen)
    rw [mv_ks_args] at hl
    rw [lg_entry_eq]
    generalize (lg_sl (a.map (mv_k ad)) ++ List.replicate (C.2.2.1 - (lg_sl (a.map (mv_k ad))).length) Slot.unset).toArray = ls at hl ⊢
    have hgood : ∀ (j' : Nat) (C' : mc_C), ctors[j']? = some C' → GoodIn mv_Ts (Cond.code C'.1 C'.2.1 C'.2.2.1 none :: mv_Ts) := fun j' C' h' => mv_goodIn (hct j' C' h').2.1
    have hroom : ∀ (j' : Nat) (C' : mc_C), ctors[j']? = some C' → ∀ k2 n2 : Nat, (mc_rm d k2 n2).frames + 1 ≤ (headSpec (Cond.code C.1 C.2.1 C.2.2.1 none :: mv_Ts) (mc_rm (d + 1) k' n')).room.frames ∧ 8 + (C'.2.2.1 + 11) + (mc_rm d k2 n2).locals ≤ (headSpec (Cond.code C.1 C.2.1 C.2.2.1 none :: mv_Ts) (mc_rm (d + 1) k' n')).room.locals := fun j' C' h' k2 n2 => ⟨Nat.le_refl _, by
      have := (hct j' C' h').2.2.2.2.2.2.2.1
      show 8 + (C'.2.2.1 + 11) + 40 * d ≤ 40 * (d + 1)
      omega⟩
    refine mc_snd (df := df) (ctors := ctors) (Call := mc_big df ctors d) (C := C) (ad0 := ad) (M0 := M) (M' := M') (lv := lv_args 0 a) (Qc := mc_Qc D cy ad M M' s.heap.size) hx hb hml hown hname hr hlocks hts hK hok hAr (Nat.le_refl _) (Nat.le_refl _) (by show 1 ≤ d + 1; omega) (by show 20 ≤ 40 * (d + 1); omega) ?_ ?_ ?_ C.2.2.2.2.2 (fun _ h => h) 0 i0 r0 hil [] M 0 0 h ad s.heap [] ls ⟨fun _ _ => rfl, Nat.le_refl _, hP, hD0.self, va_S.rf⟩ hl
    · intro ad' H locs t hW ht hwm
      exact ⟨⟨ad', rfl, hW.1, by rw [ht]; exact hW.2.2.1, va_K.moved hwm.alike hK, hW.2.2.2.1⟩, hW.2.2.2.2.F ht⟩
    · intro pc i t j' C' a' rest M1 M2 k2 n2 hd hm ht hC' hlen' hcall ad1 H locs ls' st k n hst hcat hk hn hW hsz kk
      obtain ⟨q, As, rfl, rfl⟩ := hst
      have hM' := ih j' _ M1 M2 k2 n2 C' ad1 H.size hC' hcall
      obtain ⟨-, g2, -, -, -, -, g6, g7, g8⟩ := hct j' C' hC'
      have hAs : (As.map (mv_k ad1)).length = C'.2.2.2.1 := by rw [List.length_map]; simpa using hlen'
      have hpre : PreS s H (mc_Pc D cy ad1 (Value.ref q :: As) M1 H.size) (.ref (ad1 q) :: As.map (mv_k ad1)) := ⟨mc_blind, fun U hU hWm => ⟨rfl, by rw [hU], by rw [hU]; exact hW.2.2.1, va_K.moved hWm.alike hK, hW.2.2.2.1.weaken (fun _ _ _ _ => trivial), hN.moved hWm⟩⟩
      have hstk : (F0 m pc ls' ((As.reverse ++ Value.ref q :: rest).map (mv_k ad1))).stack = (As.map (mv_k ad1)).reverse ++ .ref (ad1 q) :: rest.map (mv_k ad1) := by simp [mv_k]
      match t, ht with
      | 0, _ =>
        obtain ⟨w1, w2, w3⟩ := ((hok.2.2.2.2.1 _ _ _ hm).2 C' hC').1 rfl
        exact mc_run (va_runI (b := ad1 q) (As := As.map (mv_k ad1)) (rest := rest.map (mv_k ad1)) ⟨hx, hb, hml, hown, hts⟩ hM' ⟨callB_of C'.2.2.2.1 hts (hgood j' C' hC') rfl rfl rfl (hts _ g8) (hts _ w1) g6 (hroom j' C' hC' k2 n2), w2, hts _ w3⟩ hpre rfl hAs hsz hstk (lv_room (by rw [mv_cat_k]; exact hcat)) hd ⟨hk, hn⟩) hW kk
      | 1, _ =>
        obtain ⟨w1, w2, w3⟩ := ((hok.2.2.2.2.1 _ _ _ hm).2 C' hC').2.1 rfl
        exact mc_run (va_runIN (host := "MapMachine") (b := ad1 q) (As := As.map (mv_k ad1)) (rest := rest.map (mv_k ad1)) ⟨hx, hb, hml, hown, hts⟩ hM' ⟨va_cnB C'.2.2.2.1 hts (hgood j' C' hC') rfl rfl rfl (w1 s hN) (hts _ g8) g6 (hroom j' C' hC' k2 n2), w2, hts _ w3⟩ hpre rfl hAs hsz hstk (lv_room (by rw [mv_cat_k]; exact hcat)) hd ⟨hk, hn⟩) hW kk
    · intro pc i j' q ci fs C' As0 rest M1 M2 k2 n2 hd hm hC' hlen' hq hcls hcall ad1 H locs ls' st k n hst hcat hk hn hW hsz kk
      obtain ⟨q', As, e1, rfl⟩ := hst
      cases e1
      have hM' := ih j' _ M1 M2 k2 n2 C' ad1 H.size hC' hcall
      obtain ⟨-, g2, -, -, -, -, g6, g7, g8⟩ := hct j' C' hC'
      have hAs : (As0.map (mv_k ad1)).length = C'.2.2.2.1 := by rw [List.length_map]; exact hlen'
      have hstk : (F0 m pc ls' ((As0.reverse ++ Value.ref q :: rest).map (mv_k ad1))).stack = (As0.map (mv_k ad1)).reverse ++ .ref (ad1 q) :: rest.map (mv_k ad1) := by simp [mv_k]
      obtain ⟨w1, w2, w3⟩ := ((hok.2.2.2.2.1 _ _ _ hm).2 C' hC').2.2 rfl
      obtain ⟨qc, hqc, hqe⟩ := Option.map_eq_some_iff.mp hcls
      have hrecv := va_recv hK hW.2.2.1 hqc (mc_w_get hq)
      rw [hqe] at hrecv
      exact mc_run (va_runV (C := C'.1.cls) (b := ad1 q) (As := As0.map (mv_k ad1)) (rest := rest.map (mv_k ad1)) ⟨hx, hb, hml, hown, hts⟩ hM' ⟨callB_of C'.2.2.2.1 hts (hgood j' C' hC') rfl rfl rfl (hts _ g8) (hts _ w1) g6 (hroom j' C' hC' k2 n2), hts _ w2, hts _ w3⟩ ⟨mc_blind, hrecv, fun U hU hWm => ⟨rfl, by rw [hU], by rw [hU]; exact hW.2.2.1, va_K.moved hWm.alike hK, hW.2.2.2.1.weaken (fun _ _ _ _ => trivial), hN.moved hWm⟩⟩ rfl hAs hsz hstk (lv_room (by rw [mv_cat_k]; exact hcat)) hd ⟨hk, hn⟩) hW kk
