/-! THE CONSTRUCTORS' MACHINE IS SOUND -/
def mc_N (U : State) : Prop := va_Nw (.methodLinkNest "MapMachine" 11 ⟨"MapMachine$Program", "<init>", "()V"⟩ "MapMachine") U ∧ va_Nw (.methodLinkNest "MapMachine" 27 ⟨"MapMachine$Cells", "<init>", "()V"⟩ "MapMachine") U
theorem mc_N.moved {s U : State} (hW : s.WarmedH U.vm) (h : mc_N s) : mc_N U := ⟨h.1.warmM hW, h.2.warmM hW⟩
theorem mc_N.same {s U : State} (e : s.vm = U.vm) (h : mc_N s) : mc_N U := ⟨h.1.same rfl e, h.2.same rfl e⟩
def mc_A (cy : Nat → ClassId) (ad : Nat → Nat) (M : mc_M) (sz : Nat) : Nat → Prop := va_A (mc_w cy ad 0 M) sz
def mc_Pc (D : va_G) (cy : Nat → ClassId) (ad : Nat → Nat) (a : List Value) (M : mc_M) (sz : Nat) : Array Value → State → Prop := va_Pc (a.map (mv_k ad)) (fun U => U.heap.size = sz ∧ va_P D vwCl (mc_w cy ad 0 M) U.heap ∧ va_K D vwCl (mv_tys cy) U ∧ va_D (fun _ => True) (mc_w cy ad 0 M) ∧ mc_N U)
def mc_Qc (D : va_G) (cy : Nat → ClassId) (ad : Nat → Nat) (M M' : mc_M) (sz : Nat) : Array Value → State → Outcome → State → Prop := fun _ st oc t => (∃ ad' : Nat → Nat, oc = .returned none ∧ (∀ q, q < M.length → ad' q = ad q) ∧ va_P D vwCl (mc_w cy ad' 0 M') t.heap ∧ va_K D vwCl (mv_tys cy) t ∧ va_D (mc_A cy ad M sz) (mc_w cy ad' 0 M')) ∧ va_F (mc_A cy ad M sz) st t
def mc_rm (d k n : Nat) : Room := { frames := d, cells := k, slots := n, locals := 40 * d }
/-- what a constructor's links must be -/
def mc_cok (df : List (List Value)) (ctors : List mc_C) (C : mc_C) : Prop :=
  plainName C.1.cls = true ∧ Cond.code C.1 C.2.1 C.2.2.1 none ∈ mv_Ts ∧ (∀ q ∈ C.2.2.2.2.2, decode C.2.1 q.1 = .ok (q.2, if q.2 = .newarray .int ∨ q.2 = .newarray .boolean ∨ q.2 = .newarray .long then 2 else match q.2 with
    | .new _ => 3
    | .invokespecial _ => 3
    | i => mv_len q.1 i)) ∧
  (∀ i ci k, (i, ci, k) ∈ C.2.2.2.2.1.1 → mv_fok C.1.cls i ci k ∧ mv_cok ci ∧ ∀ (Cn : String) (T : u_T) (N : Nat), vwCl[ci]? = some (Cn, T, N) → (T k).2.2.2 = true → (T k).1 = C.1.cls ∧ C.1.name = "<init>") ∧
  (∀ (i t c : Nat), (i, t, c) ∈ C.2.2.2.2.1.2.1 → (t = 0 → Cond.methodLink C.1.cls i objectInit ∈ mv_Ts ∧ Cond.instanceMethod objectInit ∈ mv_Ts ∧ Cond.code objectInit ⟨#[0xb1]⟩ 1 none ∈ mv_Ts) ∧
    ∀ C' : mc_C, ctors[c]? = some C' → (t = 1 → Cond.methodLink C.1.cls i C'.1 ∈ mv_Ts ∧ C'.1.name = "<init>" ∧ Cond.instanceMethod C'.1 ∈ mv_Ts) ∧ (t = 2 → (∀ U : State, mc_N U → va_Nw (.methodLinkNest C.1.cls i C'.1 "MapMachine") U) ∧ C'.1.name = "<init>" ∧ Cond.instanceMethod C'.1 ∈ mv_Ts) ∧ (t = 3 → Cond.methodLink C.1.cls i C'.1 ∈ mv_Ts ∧ Cond.instanceMethod C'.1 ∈ mv_Ts ∧ Cond.selects C'.1.cls C'.1 C'.1 ∈ mv_Ts)) ∧
  (∀ (i ci : Nat), (i, ci) ∈ C.2.2.2.2.1.2.2 → mv_cok ci ∧ ∃ (Cn : String) (T : u_T) (N : Nat) (fs : List Value), vwCl[ci]? = some (Cn, T, N) ∧ df[ci]? = some fs ∧ fs.length = N ∧ Cond.classLink C.1.cls i Cn ∈ mv_Ts ∧ Cond.instantiable Cn N ∈ mv_Ts ∧ Cond.initialized Cn ∈ mv_Ts ∧ ∀ j, j < N → ∀ t, parseFieldDescriptor (T j).2.2.1 = some t → defaultValue t = vp_V fs j) ∧
  (C.1.cls ≠ "java/lang/invoke/MethodHandle" ∧ C.1.cls ≠ "java/lang/invoke/VarHandle" ∧ (parseMethodDescriptor C.1.desc).map (fun d => d.parameters.length) = some C.2.2.2.1) ∧ C.2.2.1 ≤ 21 ∧ Cond.initialized C.1.cls ∈ mv_Ts
theorem mc_bif {b : Bool} {X : Option (mc_M × Nat × Nat)} {r : mc_M × Nat × Nat} (h : (bif b then X else none) = some r) : b = true ∧ X = some r := by cases b <;> simp_all
theorem mc_nx_of {pc : Nat} {r : List (Nat × Instr)} (h : mc_nx pc r = true) : ∃ i t, r = (pc, i) :: t := by
  match r, h with
  | (q, i) :: t, h => exact ⟨i, t, by rw [Nat.eq_of_beq_eq_true h]⟩
theorem mc_ty {D : va_G} {cy : Nat → ClassId} {s : State} {cA : ClassId} {t : Nat} {ty : FieldType} (ht : (mv_tys cy)[t]? = some (cy t, ty)) (hob : ∀ C, ty ≠ .object C) (h : va_K D vwCl (mv_tys cy ++ [(cA, ty)]) s) : cA = cy t := by
  have h1 := (h.2 3 (cA, ty) (by simp [mv_tys])).2
  have hlt : t < 3 := mv_lt ht
  have h2 := (h.2 t (cy t, ty) (by rw [List.getElem?_append_left (by simpa [mv_tys] using hlt)]; exact ht)).2
  unfold va_RA at h1 h2
  cases ty with
  | object C => exact absurd rfl (hob C)
  | _ => exact Option.some.inj (h1.symm.trans h2)
section MC
variable {p : Program} {l : Launch} {e : Env} {R : Room} {s : State} {m : MethodId} {args : Array Value} {below : List Frame} {meth : Method} {c : Code}
variable {D : va_G} {cy : Nat → ClassId} {ad0 : Nat → Nat} {M0 M' : mc_M} {k' n' : Nat} {df : List (List Value)} {ctors : List mc_C} {Call : mc_Call} {C : mc_C} {lv : List (Nat × Value)} {Q : State → Prop}
def mc_W (D : va_G) (cy : Nat → ClassId) (ad0 : Nat → Nat) (M0 : mc_M) (s : State) (ad : Nat → Nat) (M : mc_M) (H : Heap) (locs : List Loc) : Prop := (∀ q, q < M0.length → ad q = ad0 q) ∧ M0.length ≤ M.length ∧ va_P D vwCl (mc_w cy ad 0 M) H ∧ va_D (mc_A cy ad0 M0 s.heap.size) (mc_w cy ad 0 M) ∧ va_S (mc_A cy ad0 M0 s.heap.size) s.heap H locs
/-- a call's row -/
def mc_Row (p : Program) (l : Launch) (e : Env) (R : Room) (s : State) (m : MethodId) (args : Array Value) (below : List Frame) (meth : Method) (c : Code) (Q : State → Prop) (D : va_G) (cy : Nat → ClassId) (ad0 : Nat → Nat) (M0 : mc_M) (nL pc : Nat) (a rest : List Value) (M M2 : mc_M) (k2 n2 : Nat) : Prop :=
  ∀ (ad : Nat → Nat) (H : Heap) (locs : List Loc) (ls : Array Slot) (st : List Value) (k n : Nat), (∃ (q : Nat) (As : List Value), a = .ref q :: As ∧ st = As.reverse ++ .ref q :: rest) → mv_cat rest ≤ 8 → k + k2 ≤ R.cells → n + n2 ≤ R.slots → mc_W D cy ad0 M0 s ad M H locs → ls.size = nL →
    (∀ (ad2 : Nat → Nat) (H' : Heap) (locs' : List Loc), (∀ q, q < M.length → ad2 q = ad q) → va_P D vwCl (mc_w cy ad2 0 M2) H' → va_D (mc_A cy ad0 M0 s.heap.size) (mc_w cy ad2 0 M2) → va_S (mc_A cy ad0 M0 s.heap.size) s.heap H' locs' → W p l e R s m args below meth c H' locs' (k + k2) (n + n2) Q (F0 m (pc + 3) ls (rest.map (mv_k ad)))) →
    W p l e R s m args below meth c H locs k n Q (F0 m pc ls (st.map (mv_k ad)))
theorem mc_push {cy : Nat → ClassId} {ad0 ad : Nat → Nat} {M0 M : mc_M} {s : State} {H1 : Heap} {locs : List Loc} {D : va_G} {q : Nat} {e : mc_X} {e2 : va_E} {A : Nat → Prop} (hu : ∀ q, q < M0.length → ad q = ad0 q) (hm : M0.length ≤ M.length) (hg : M.all (mc_cv M.length) = true) (he : ∀ ad', mc_e cy ad' e = e2) (hA : A = mc_A cy ad0 M0 s.heap.size) (hP : va_P D vwCl (mc_w cy ad 0 M ++ [(q, e2)]) H1) (hD : va_D A (mc_w cy ad 0 M ++ [(q, e2)])) (hS : va_S A s.heap H1 locs) : mc_W D cy ad0 M0 s (va_up ad M.length q) (M ++ [e]) H1 locs := by
  subst hA
  rw [mc_w_push hg he] at hP hD
  exact ⟨fun q' hq' => by rw [va_up_ne _ _ (Nat.ne_of_lt (Nat.lt_of_lt_of_le hq' hm))]; exact hu q' hq', by rw [List.length_append]; omega, hP, hD, hS⟩
theorem mc_frame {ad : Nat → Nat} {n q : Nat} {m : MethodId} {pc : Nat} {ls : Array Slot} {st : List Value} (h : st.all (mc_v n) = true) : F0 m pc ls (.ref q :: st.map (mv_k ad)) = F0 m pc ls ((Value.ref n :: st).map (mv_k (va_up ad n q))) := by
  have e1 : st.map (mv_k (va_up ad n q)) = st.map (mv_k ad) := mc_ks_up (fun q' hq' => va_up_ne _ _ (Nat.ne_of_lt hq')) h
  rw [List.map_cons, e1]
  simp only [mv_k, va_up_self]
set_option maxHeartbeats 4000000 in
theorem mc_snd {Qc : Array Value → State → Outcome → State → Prop} (hx : p.tables.exec = Jvm.exec) (hb : c.code = C.2.1) (hml : c.maxLocals = C.2.2.1) (hown : s.vm.findClass C.1.cls = some m.cls) (hname : meth.name = C.1.name) (hr : meth.sig.returnType = none) (hlocks : meth.locks = false) (hts : ∀ w ∈ mv_Ts, w.before args s = true) (hK : va_K D vwCl (mv_tys cy) s) (hC : mc_cok df ctors C)
    (hAr : ∀ ty : FieldType, ty = .int ∨ ty = .boolean ∨ ty = .long → Cond.arrayClass ty ∈ mv_Ts) (hRk : k' ≤ R.cells) (hRn : n' ≤ R.slots) (hRf : 1 ≤ R.frames) (hRl : 20 ≤ R.locals)
    (hQ : ∀ (ad : Nat → Nat) (H : Heap) (locs : List Loc) (t : State), mc_W D cy ad0 M0 s ad M' H locs → t.heap = H → s.WarmedH t.vm → Qc args s (.returned none) t)
    (hI : ∀ (pc i t j : Nat) (C' : mc_C) (a rest : List Value) (M M2 : mc_M) (k2 n2 : Nat), decode C.2.1 pc = .ok (.invokespecial i, 3) → (i, t + 1, j) ∈ C.2.2.2.2.1.2.1 → t < 2 → ctors[j]? = some C' → a.length = C'.2.2.2.1 + 1 → Call j a M = some (M2, k2, n2) → mc_Row p l e R s m args below meth c (MQ below Qc args s k' n' (mc_A cy ad0 M0 s.heap.size)) D cy ad0 M0 C.2.2.1 pc a rest M M2 k2 n2)
    (hV : ∀ (pc i j q ci : Nat) (fs : List Value) (C' : mc_C) (As rest : List Value) (M M2 : mc_M) (k2 n2 : Nat), decode C.2.1 pc = .ok (.invokevirtual i, 3) → (i, 3, j) ∈ C.2.2.2.2.1.2.1 → ctors[j]? = some C' → As.length = C'.2.2.2.1 → M[q]? = some (.inl (ci, fs)) → (vwCl[ci]?).map (fun q => q.1) = some C'.1.cls → Call j (.ref q :: As) M = some (M2, k2, n2) → mc_Row p l e R s m args below meth c (MQ below Qc args s k' n' (mc_A cy ad0 M0 s.heap.size)) D cy ad0 M0 C.2.2.1 pc (.ref q :: As) rest M M2 k2 n2) :
    ∀ (il : List (Nat × Instr)), (∀ q ∈ il, q ∈ C.2.2.2.2.2) → ∀ (pc : Nat) (i : Instr) (r : List (Nat × Instr)), il = (pc, i) :: r → ∀ (st : List Value) (M : mc_M) (k n : Nat), mc_go df ctors Call C.2.2.2.2.1 lv il st M k n = some (M', k', n') → ∀ (ad : Nat → Nat) (H : Heap) (locs : List Loc) (ls : Array Slot), mc_W D cy ad0 M0 s ad M H locs → lv_has ls C.2.2.1 (mv_ks ad lv) → W p l e R s m args below meth c H locs k n (MQ below Qc args s k' n' (mc_A cy ad0 M0 s.heap.size)) (F0 m pc ls (st.map (mv_k ad))) := by
  obtain ⟨-, -, hdec, hfl, hcl, hnl, -, -, -⟩ := hC
  have hA : ∀ q : Nat, s.heap.size ≤ q → mc_A cy ad0 M0 s.heap.size q := fun q h => Or.inr h
  intro il
  induction il with
  | nil => intro _ pc i r h; cases h
  | cons x r ih =>
    intro hsub pc i r2 hil st M k n h ad H locs ls hW hl
    cases hil
    have hsub2 : ∀ q ∈ r, q ∈ C.2.2.2.2.2 := fun q hq => hsub q (List.mem_cons_of_mem _ hq)
    have hd := hdec _ (hsub _ List.mem_cons_self)
    have go : ∀ {pc' : Nat} {st' : List Value} {M1 : mc_M} {k1 n1 : Nat} {ad' : Nat → Nat} {H' : Heap} {locs' : List Loc} {ls' : Array Slot}, mc_nx pc' r = true → mc_go df ctors Call C.2.2.2.2.1 lv r st' M1 k1 n1 = some (M', k', n') → mc_W D cy ad0 M0 s ad' M1 H' locs' → lv_has ls' C.2.2.1 (mv_ks ad' lv) → W p l e R s m args below meth c H' locs' k1 n1 (MQ below Qc args s k' n' (mc_A cy ad0 M0 s.heap.size)) (F0 m pc' ls' (st'.map (mv_k ad'))) := by
      intro pc' st' M1 k1 n1 ad' H' locs' ls' hn hg hW' hl'
      obtain ⟨i', t', e1⟩ := mc_nx_of hn
      exact ih hsub2 pc' i' t' e1 st' M1 k1 n1 hg ad' H' locs' ls' hW' hl'
    dsimp only at hd
    unfold mc_go at h
    split at h
    · -- return
      split at h
      · cases h
        exact W.vret (Qc := Qc) hx hb hr (fun t ht hw => hQ ad H locs t hW ht hw) hW.2.2.2.2.2.2 hd
      · cases h
    · -- aload
      split at h
      · next q hm =>
        obtain ⟨h1, h2⟩ := mc_bif h
        exact lv_aload_n hx hb hd rfl (mv_ks_at hl hm) (go h1 h2 hW hl)
      · cases h
    · split at h
      · next q hm =>
        obtain ⟨h1, h2⟩ := mc_bif h
        exact lv_iload_n hx hb hd rfl (mv_ks_at hl hm) (go h1 h2 hW hl)
      · cases h
    · obtain ⟨h1, h2⟩ := mc_bif h
      exact lv_iconst hx hb hd rfl (go h1 h2 hW hl)
    · obtain ⟨h1, h2⟩ := mc_bif h
      exact lv_bipush hx hb hd rfl (go h1 h2 hW hl)
    · obtain ⟨h1, h2⟩ := mc_bif h
      exact lv_sipush hx hb hd rfl (go h1 h2 hW hl)
    · split at h
      · obtain ⟨h1, h2⟩ := mc_bif h
        exact lv_dup hx hb hd rfl (go h1 h2 hW hl)
      · cases h
    · rename_i ty
      split at h
      · next x s2 =>
        split at h
        · next ex hat =>
          obtain ⟨hg, h2⟩ := mc_bif h
          simp only [Bool.and_eq_true, decide_eq_true_eq] at hg
          obtain ⟨⟨⟨⟨g1, g2⟩, g3⟩, g4⟩, g5, g6⟩ := hg
          have g33 : x.toNatClampNeg + 1 ≤ 60000000 := Nat.le_of_ble_eq_true g3
          obtain ⟨gk, gn⟩ := mc_grow _ _ _ _ _ h2
          cases ty <;> simp only [mc_at2] at hat <;> cases hat
          case int =>
            refine va_newa (atype := .int) (tys := mv_tys cy) (ty := .int) (a0 := (x.toNatClampNeg, .inl (fun _ => 0))) hx hb (hts _ (hAr .int (Or.inl rfl))) rfl hK hW.2.2.1 hW.2.2.2.1 hW.2.2.2.2 hA (fun cA => rfl) g2 rfl (by show _ * 4 ≤ _; omega) (by omega) (by omega) (by simpa using hd) (fun q cA H1 hK1 hP1 hD1 hS1 => ?_)
            have hcA : cA = cy 0 := mc_ty (t := 0) rfl (by intro C h; cases h) hK1
            subst hcA
            exact W.eq (mc_frame g5) (go g1 h2 (mc_push hW.1 hW.2.1 g4 (fun _ => rfl) rfl hP1 hD1 hS1) (by rw [mc_lv_up (fun q' hq' => va_up_ne _ _ (Nat.ne_of_lt hq')) g6]; exact hl))
          case boolean =>
            refine va_newa (atype := .boolean) (tys := mv_tys cy) (ty := .boolean) (a0 := (x.toNatClampNeg, .inl (fun _ => 0))) hx hb (hts _ (hAr .boolean (Or.inr (Or.inl rfl)))) rfl hK hW.2.2.1 hW.2.2.2.1 hW.2.2.2.2 hA (fun cA => rfl) g2 rfl (by show _ * 1 ≤ _; omega) (by omega) (by omega) (by simpa using hd) (fun q cA H1 hK1 hP1 hD1 hS1 => ?_)
            have hcA : cA = cy 1 := mc_ty (t := 1) rfl (by intro C h; cases h) hK1
            subst hcA
            exact W.eq (mc_frame g5) (go g1 h2 (mc_push hW.1 hW.2.1 g4 (fun _ => rfl) rfl hP1 hD1 hS1) (by rw [mc_lv_up (fun q' hq' => va_up_ne _ _ (Nat.ne_of_lt hq')) g6]; exact hl))
          case long =>
            refine va_newa (atype := .long) (tys := mv_tys cy) (ty := .long) (a0 := (x.toNatClampNeg, .inr (.inl (fun _ => 0)))) hx hb (hts _ (hAr .long (Or.inr (Or.inr rfl)))) rfl hK hW.2.2.1 hW.2.2.2.1 hW.2.2.2.2 hA (fun cA => rfl) g2 rfl (by show _ * 8 ≤ _; omega) (by omega) (by omega) (by simpa using hd) (fun q cA H1 hK1 hP1 hD1 hS1 => ?_)
            have hcA : cA = cy 2 := mc_ty (t := 2) rfl (by intro C h; cases h) hK1
            subst hcA
            exact W.eq (mc_frame g5) (go g1 h2 (mc_push hW.1 hW.2.1 g4 (fun _ => rfl) rfl hP1 hD1 hS1) (by rw [mc_lv_up (fun q' hq' => va_up_ne _ _ (Nat.ne_of_lt hq')) g6]; exact hl))
        · cases h
      · cases h
    · split at h
      · next ci hm =>
        split at h
        · next fs hfs =>
          obtain ⟨hg, h2⟩ := mc_bif h
          simp only [Bool.and_eq_true] at hg
          obtain ⟨⟨⟨g1, g4⟩, g5, g6⟩, g7⟩ := hg
          obtain ⟨gk, gn⟩ := mc_grow _ _ _ _ _ h2
          obtain ⟨⟨C', T', N', ty, hc', hin, hty, hnm⟩, Cn, Tt, N, fs', hc, hfs', hlen, w1, w2, w3, hdf⟩ := hnl _ _ (mv_at_mem hm)
          have he : (C', T', N') = (Cn, Tt, N) := Option.some.inj (hc'.symm.trans hc)
          cases he
          have hf : fs' = fs := Option.some.inj (hfs'.symm.trans hfs)
          subst hf
          rw [hlen] at gn h2
          refine va_new (tys := mv_tys cy) (ci := ci) (fs := fs') hx hb hts hin ty hty hown (hts _ w1) (hts _ w2) (hts _ w3) hK hW.2.2.1 hW.2.2.2.1 hW.2.2.2.2 hA hc (fun j hj => hdf j hj _ (hty j hj)) (by omega) (by omega) (by simpa using hd) (fun q H1 hP1 hD1 hS1 => ?_)
          exact W.eq (mc_frame g5) (go g1 h2 (mc_push hW.1 hW.2.1 g4 (fun ad' => by
            simp only [mc_e]
            rw [mc_ks_up (ad := fun q => q) (n := 0) (fun q hq => absurd hq (Nat.not_lt_zero q)) g7]
            congr 2
            conv => rhs; rw [← List.map_id fs']
            exact List.map_congr_left (fun v _ => by cases v <;> rfl)) rfl hP1 hD1 hS1) (by rw [mc_lv_up (fun q' hq' => va_up_ne _ _ (Nat.ne_of_lt hq')) g6]; exact hl))
        · cases h
      · cases h
    · split at h
      · next q s2 =>
        split at h
        · next ci f hm =>
          split at h
          · next cj fs hq =>
            split at h
            · next v hv =>
              obtain ⟨hg, h2⟩ := mc_bif h
              simp only [Bool.and_eq_true] at hg
              have e1 : cj = ci := Nat.eq_of_beq_eq_true hg.1
              subst e1
              obtain ⟨⟨Cn, Tt, N, hc, hkN, hlink, hCn⟩, ⟨C', T', N', ty, hc', hin, hty, hnm⟩, -⟩ := hfl _ _ _ (mv_at_mem hm)
              have he : (C', T', N') = (Cn, Tt, N) := Option.some.inj (hc'.symm.trans hc)
              cases he
              refine va_get (D := D) (cl := vwCl) (tys := mv_tys cy) (ci := cj) (fs := fs.map (mv_k ad)) hx hb hts hin hown hK hW.2.2.1 q (mc_w_get hq) hc f hkN (hts _ hlink) (fun x hxx => by rw [hCn] at hxx; exact hxx) (v := mv_k ad v) (by rw [List.getElem?_map, hv]; rfl) hd ?_
              exact go hg.2 h2 hW hl
            · cases h
          · cases h
        · cases h
      · cases h
    · split at h
      · next v q s2 =>
        split at h
        · next ci f hm =>
          split at h
          · next cj fs hq =>
            obtain ⟨hg, h2⟩ := mc_bif h
            simp only [Bool.and_eq_true] at hg
            obtain ⟨⟨⟨g1, g2⟩, g3⟩, g4⟩ := hg
            have e1 : cj = ci := Nat.eq_of_beq_eq_true g1
            subst e1
            obtain ⟨⟨Cn, Tt, N, hc, hkN, hlink, hCn⟩, ⟨C', T', N', ty, hc', hin, hty, hnm⟩, hfin⟩ := hfl _ _ _ (mv_at_mem hm)
            have he : (C', T', N') = (Cn, Tt, N) := Option.some.inj (hc'.symm.trans hc)
            cases he
            have hlen : f < (fs.map (mv_k ad)).length := by rw [List.length_map]; exact Nat.le_of_ble_eq_true g2
            obtain ⟨t1, hp1, hn1, hf1⟩ : ∃ t1 : FieldType, parseFieldDescriptor (Tt f).2.2.1 = some t1 ∧ narrow t1 (mv_k ad v) = mv_k ad v ∧ fits t1 (mv_k ad v) = true := by
              unfold mc_pok at g3
              split at g3
              · rw [hc] at g3
                exact ⟨.int, of_decide_eq_true g3, rfl, rfl⟩
              · rw [hc] at g3
                dsimp only at g3
                split at g3
                · next hp => exact ⟨_, hp, rfl, rfl⟩
                · next hp => exact ⟨_, hp, rfl, rfl⟩
                · cases g3
              · cases g3
            have fin : ∀ (H1 : Heap) (locs1 : List Loc), va_P D vwCl ((mc_w cy ad 0 M).set q (ad q, .inr (cj, (fs.map (mv_k ad)).set f (mv_k ad v)))) H1 → va_D (mc_A cy ad0 M0 s.heap.size) ((mc_w cy ad 0 M).set q (ad q, .inr (cj, (fs.map (mv_k ad)).set f (mv_k ad v)))) → va_S (mc_A cy ad0 M0 s.heap.size) s.heap H1 locs1 → W p l e R s m args below meth c H1 locs1 k n (MQ below Qc args s k' n' (mc_A cy ad0 M0 s.heap.size)) (F0 m (pc + 3) ls (s2.map (mv_k ad))) := by
              intro H1 locs1 hP1 hD1 hS1
              rw [show (Sum.inr (cj, (fs.map (mv_k ad)).set f (mv_k ad v)) : va_E) = mc_e cy ad (.inl (cj, fs.set f v)) by simp only [mc_e, List.map_set]] at hP1 hD1
              rw [mc_w_set] at hP1 hD1
              exact go g4 h2 ⟨hW.1, by rw [List.length_set]; exact hW.2.1, hP1, hD1, hS1⟩ hl
            by_cases hfn : (Tt f).2.2.2 = true
            · obtain ⟨z1, z2⟩ := hfin _ _ _ hc hfn
              exact va_putF (D := D) (cl := vwCl) (tys := mv_tys cy) (ci := cj) (fs := fs.map (mv_k ad)) hx hb hts hin ty hty hnm hown hK hW.2.2.1 hW.2.2.2.1 hW.2.2.2.2 q (mc_w_get hq) hc f hkN (hts _ hlink) (fun x hxx => by rw [hCn] at hxx; exact hxx) hfn (by rw [hname]; exact z2) z1 hp1 hn1 hf1 hlen hd fin
            · exact va_put (D := D) (cl := vwCl) (tys := mv_tys cy) (ci := cj) (fs := fs.map (mv_k ad)) hx hb hts hin ty hty hnm hown hK hW.2.2.1 hW.2.2.2.1 hW.2.2.2.2 q (mc_w_get hq) hc f hkN (hts _ hlink) (fun x hxx => by rw [hCn] at hxx; exact hxx) (by cases hz : (Tt f).2.2.2 <;> simp_all) hp1 hn1 hf1 hlen hd fin
          · cases h
        · cases h
      · cases h
    · split at h
      · next hm =>
        split at h
        · next q s2 =>
          obtain ⟨hg, h2⟩ := mc_bif h
          simp only [Bool.and_eq_true] at hg
          obtain ⟨w1, w2, w3⟩ := (hcl _ _ _ (mv_at_mem hm)).1 rfl
          refine W.objInit hx hb hown (hts _ w1) (hts _ w2) (hts _ w3) (g := F0 m pc ls ((Value.ref q :: s2).map (mv_k ad))) rfl (by rw [hml]; exact hl.1) rfl (by simpa using hd) hRf ?_ (go hg.1 h2 hW hl)
          have hq1 := lv_room (m := m) (pc := pc) (ls := ls) (rest := (Value.ref q :: s2).map (mv_k ad)) (st := s2.map (mv_k ad)) (by rw [mv_cat_k]; exact Nat.le_of_ble_eq_true hg.2)
          omega
        · cases h
      · next t j hm =>
        split at h
        · next C' hC' =>
          split at h
          · next q s2 hdr =>
            split at h
            · next M2 k2 n2 hcall =>
              obtain ⟨hg, h2⟩ := mc_bif h
              simp only [Bool.and_eq_true] at hg
              obtain ⟨⟨⟨⟨⟨g1, g2⟩, g3⟩, g4⟩, g5⟩, g6, g7⟩ := hg
              obtain ⟨gk, gn⟩ := mc_grow _ _ _ _ _ h2
              have e3 : (st.take C'.2.2.2.1).length = C'.2.2.2.1 := Nat.eq_of_beq_eq_true g3
              refine hI pc _ t j C' _ s2 M M2 k2 n2 (by simpa using hd) (mv_at_mem hm) (Nat.le_of_ble_eq_true g2) hC' (by simp [e3]) hcall ad H locs ls st k n ⟨q, (st.take C'.2.2.2.1).reverse, rfl, ?_⟩ (Nat.le_of_ble_eq_true g4) (by omega) (by omega) hW hl.1 (fun ad2 H' locs' hu hP1 hD1 hS1 => ?_)
              · rw [List.reverse_reverse, ← hdr, List.take_append_drop]
              · rw [← mc_ks_up hu g6]
                exact go g1 h2 ⟨fun q' hq' => by rw [hu q' (Nat.lt_of_lt_of_le hq' hW.2.1)]; exact hW.1 q' hq', Nat.le_trans hW.2.1 (Nat.le_of_ble_eq_true g5), hP1, hD1, hS1⟩ (by rw [mc_lv_up hu g7]; exact hl)
            · cases h
          · cases h
        · cases h
      · cases h
    · split at h
      · next j hm =>
        split at h
        · next C' hC' =>
          split at h
          · next q s2 hdr =>
            split at h
            · next ci fs hq =>
              split at h
              · next M2 k2 n2 hcall =>
                obtain ⟨hg, h2⟩ := mc_bif h
                simp only [Bool.and_eq_true] at hg
                obtain ⟨⟨⟨⟨⟨g1, g2⟩, g3⟩, g4⟩, g5⟩, g6, g7⟩ := hg
                obtain ⟨gk, gn⟩ := mc_grow _ _ _ _ _ h2
                have e3 : (st.take C'.2.2.2.1).length = C'.2.2.2.1 := Nat.eq_of_beq_eq_true g3
                refine hV pc _ j q ci fs C' _ s2 M M2 k2 n2 hd (mv_at_mem hm) hC' (by simp [e3]) hq (of_decide_eq_true g2) hcall ad H locs ls st k n ⟨q, (st.take C'.2.2.2.1).reverse, rfl, ?_⟩ (Nat.le_of_ble_eq_true g4) (by omega) (by omega) hW hl.1 (fun ad2 H' locs' hu hP1 hD1 hS1 => ?_)
                · rw [List.reverse_reverse, ← hdr, List.take_append_drop]
                · rw [← mc_ks_up hu g6]
                  exact go g1 h2 ⟨fun q' hq' => by rw [hu q' (Nat.lt_of_lt_of_le hq' hW.2.1)]; exact hW.1 q' hq', Nat.le_trans hW.2.1 (Nat.le_of_ble_eq_true g5), hP1, hD1, hS1⟩ (by rw [mc_lv_up hu g7]; exact hl)
              · cases h
            · cases h
          · cases h
        · cases h
      · cases h
    · cases h
end MC
