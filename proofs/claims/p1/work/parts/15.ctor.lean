/-! THE CONSTRUCTORS: a second small machine, straight on, that makes cells. Its store is the list of the cells. -/
/-- a cell: an object (its class, its fields), or a row of zeros (0 ints, 1 booleans, 2 longs; its length) -/
abbrev mc_X : Type := (Nat × List Value) ⊕ (Nat × Nat)
abbrev mc_M : Type := List mc_X
def mc_e (cy : Nat → ClassId) (ad : Nat → Nat) : mc_X → va_E
  | .inl (ci, fs) => .inr (ci, fs.map (mv_k ad))
  | .inr (0, n) => .inl (cy 0, n, .inl (fun _ => 0))
  | .inr (1, n) => .inl (cy 1, n, .inl (fun _ => 0))
  | .inr (_ + 2, n) => .inl (cy 2, n, .inr (.inl (fun _ => 0)))
def mc_w (cy : Nat → ClassId) (ad : Nat → Nat) : Nat → mc_M → va_W
  | _, [] => []
  | q, e :: r => (ad q, mc_e cy ad e) :: mc_w cy ad (q + 1) r
def mc_v (n : Nat) : Value → Bool
  | .ref i => Nat.blt i n
  | _ => true
def mc_cv (n : Nat) : mc_X → Bool
  | .inl (_, fs) => fs.all (mc_v n)
  | .inr _ => true
/-- name, bytes, locals, number of parameters, (fields, callees: index, kind, number; classes that are made), instructions; kinds: 0 Object's, 1 a constructor, 2 a nest mate's, 3 a method -/
abbrev mc_C : Type := MethodName × ByteArray × Nat × Nat × (List (Nat × Nat × Nat) × List (Nat × Nat × Nat) × List (Nat × Nat)) × List (Nat × Instr)
abbrev mc_Call : Type := Nat → List Value → mc_M → Option (mc_M × Nat × Nat)
def mc_nx (pc : Nat) : List (Nat × Instr) → Bool
  | (q, _) :: _ => Nat.beq q pc
  | [] => false
def mc_df : List (List Value) := [[.null, .null, .null, .null, .null, .null, .null, .null, .int 0, .int 0, .int 0, .int 0, .int 0, .int 0, .int 0, .int 0], [.null, .int 0, .int 0, .int 0], [.null, .null, .null, .null, .null, .null, .null, .int 0, .int 0, .int 0, .int 0, .int 0, .int 0], [.null, .null, .int 0, .int 0, .int 0], [.null, .null, .null, .null, .null, .null, .null, .null, .null, .null, .null, .int 0, .int 0, .int 0, .int 0, .int 0, .int 0], [.null, .null, .null, .null, .int 0, .int 0], [.null, .null, .null, .null, .int 0, .int 0, .int 0, .int 0, .int 0], [.null, .null, .null, .null, .null, .null]]
def mc_at2 (ty : Jvm.ClassFile.ArrayType) (n : Nat) : Option mc_X := match ty with
  | .int => some (.inr (0, n))
  | .boolean => some (.inr (1, n))
  | .long => some (.inr (2, n))
  | _ => none
def mc_pok (ci k : Nat) : Value → Bool
  | .int x => (match vwCl[ci]? with
    | some (_, T, _) => decide (parseFieldDescriptor (T k).2.2.1 = some .int)
    | none => false)
  | .ref _ => (match vwCl[ci]? with
    | some (_, T, _) => (match parseFieldDescriptor (T k).2.2.1 with
      | some (.array _) => true
      | some (.object _) => true
      | _ => false)
    | none => false)
  | _ => false
def mc_go (df : List (List Value)) (ctors : List mc_C) (Call : mc_Call) (T : List (Nat × Nat × Nat) × List (Nat × Nat × Nat) × List (Nat × Nat)) (lv : List (Nat × Value)) : List (Nat × Instr) → List Value → mc_M → Nat → Nat → Option (mc_M × Nat × Nat)
  | [], _, _, _, _ => none
  | (pc, i) :: r, st, M, k, n => match i with
    | .return_ => match st with
      | [] => some (M, k, n)
      | _ => none
    | .aload_n j => match mv_at j.val lv with
      | some (.ref q) => bif mc_nx (pc + 1) r then mc_go df ctors Call T lv r (.ref q :: st) M k n else none
      | _ => none
    | .iload_n j => match mv_at j.val lv with
      | some (.int q) => bif mc_nx (pc + 1) r then mc_go df ctors Call T lv r (.int q :: st) M k n else none
      | _ => none
    | .iconst x => bif mc_nx (pc + 1) r then mc_go df ctors Call T lv r (.int (Int32.ofInt x) :: st) M k n else none
    | .bipush x => bif mc_nx (pc + 2) r then mc_go df ctors Call T lv r (.int (Int8.ofInt x).toInt32 :: st) M k n else none
    | .sipush x => bif mc_nx (pc + 3) r then mc_go df ctors Call T lv r (.int (Int16.ofInt x).toInt32 :: st) M k n else none
    | .dup => match st with
      | .ref q :: s2 => bif mc_nx (pc + 1) r then mc_go df ctors Call T lv r (.ref q :: .ref q :: s2) M k n else none
      | _ => none
    | .newarray ty => match st with
      | .int x :: s2 => match mc_at2 ty x.toNatClampNeg with
        | some e => bif mc_nx (pc + 2) r && decide (¬ x < 0) && Nat.blt x.toNatClampNeg 60000000 && M.all (mc_cv M.length) && (s2.all (mc_v M.length) && lv.all (fun q => mc_v M.length q.2)) then mc_go df ctors Call T lv r (.ref M.length :: s2) (M ++ [e]) (k + 1) (n + x.toNatClampNeg) else none
        | none => none
      | _ => none
    | .new j => match mv_at j T.2.2 with
      | some ci => match df[ci]? with
        | some fs => bif mc_nx (pc + 3) r && M.all (mc_cv M.length) && (st.all (mc_v M.length) && lv.all (fun q => mc_v M.length q.2)) && fs.all (mc_v 0) then mc_go df ctors Call T lv r (.ref M.length :: st) (M ++ [.inl (ci, fs)]) (k + 1) (n + fs.length) else none
        | none => none
      | none => none
    | .getfield j => match st with
      | .ref q :: s2 => match mv_at j T.1 with
        | some (ci, f) => match M[q]? with
          | some (.inl (cj, fs)) => match fs[f]? with
            | some v => bif Nat.beq cj ci && mc_nx (pc + 3) r then mc_go df ctors Call T lv r (v :: s2) M k n else none
            | none => none
          | _ => none
        | none => none
      | _ => none
    | .putfield j => match st with
      | v :: .ref q :: s2 => match mv_at j T.1 with
        | some (ci, f) => match M[q]? with
          | some (.inl (cj, fs)) => bif Nat.beq cj ci && Nat.blt f fs.length && mc_pok ci f v && mc_nx (pc + 3) r then mc_go df ctors Call T lv r s2 (M.set q (.inl (ci, fs.set f v))) k n else none
          | _ => none
        | none => none
      | _ => none
    | .invokespecial j => match mv_at j T.2.1 with
      | some (0, _) => match st with
        | .ref _ :: s2 => bif mc_nx (pc + 3) r && Nat.ble (mv_cat s2) 8 then mc_go df ctors Call T lv r s2 M k n else none
        | _ => none
      | some (t + 1, c) => match ctors[c]? with
        | some C => match st.drop C.2.2.2.1 with
          | .ref q :: s2 => match Call c (.ref q :: (st.take C.2.2.2.1).reverse) M with
            | some (M2, k2, n2) => bif mc_nx (pc + 3) r && Nat.blt t 2 && Nat.beq (st.take C.2.2.2.1).length C.2.2.2.1 && Nat.ble (mv_cat s2) 8 && Nat.ble M.length M2.length && (s2.all (mc_v M.length) && lv.all (fun q => mc_v M.length q.2)) then mc_go df ctors Call T lv r s2 M2 (k + k2) (n + n2) else none
            | none => none
          | _ => none
        | none => none
      | none => none
    | .invokevirtual j => match mv_at j T.2.1 with
      | some (3, c) => match ctors[c]? with
        | some C => match st.drop C.2.2.2.1 with
          | .ref q :: s2 => match M[q]? with
            | some (.inl (ci, _)) => match Call c (.ref q :: (st.take C.2.2.2.1).reverse) M with
              | some (M2, k2, n2) => bif mc_nx (pc + 3) r && decide ((vwCl[ci]?).map (fun q => q.1) = some C.1.cls) && Nat.beq (st.take C.2.2.2.1).length C.2.2.2.1 && Nat.ble (mv_cat s2) 8 && Nat.ble M.length M2.length && (s2.all (mc_v M.length) && lv.all (fun q => mc_v M.length q.2)) then mc_go df ctors Call T lv r s2 M2 (k + k2) (n + n2) else none
              | none => none
            | _ => none
          | _ => none
        | none => none
      | _ => none
    | _ => none
def mc_big (df : List (List Value)) (ctors : List mc_C) : Nat → mc_Call
  | 0, _, _, _ => none
  | d + 1, j, a, M => match ctors[j]? with
    | none => none
    | some C => bif Nat.ble (lg_sl a).length C.2.2.1 && a.all (mc_v M.length) && mc_nx 0 C.2.2.2.2.2 then mc_go df ctors (mc_big df ctors d) C.2.2.2.2.1 (lv_args 0 a) C.2.2.2.2.2 [] M 0 0 else none
/-! rows of it -/
theorem mc_w_at (cy : Nat → ClassId) (ad : Nat → Nat) : ∀ (l : mc_M) (q0 q : Nat), (mc_w cy ad q0 l)[q]? = (l[q]?).map (fun e => (ad (q0 + q), mc_e cy ad e))
  | [], q0, q => by simp [mc_w]
  | d :: r, q0, 0 => by simp [mc_w]
  | d :: r, q0, q + 1 => by
    simp only [mc_w, List.getElem?_cons_succ]
    rw [mc_w_at cy ad r (q0 + 1) q, show q0 + 1 + q = q0 + (q + 1) by omega]
theorem mc_w_get {cy : Nat → ClassId} {ad : Nat → Nat} {M : mc_M} {q : Nat} {e : mc_X} (h : M[q]? = some e) : (mc_w cy ad 0 M)[q]? = some (ad q, mc_e cy ad e) := by
  rw [mc_w_at, h, Nat.zero_add]; rfl
theorem mc_w_len (cy : Nat → ClassId) (ad : Nat → Nat) : ∀ (l : mc_M) (q0 : Nat), (mc_w cy ad q0 l).length = l.length
  | [], _ => rfl
  | _ :: r, q0 => by simp [mc_w, mc_w_len cy ad r]
theorem mc_w_set (cy : Nat → ClassId) (ad : Nat → Nat) (M : mc_M) (q : Nat) (e : mc_X) : (mc_w cy ad 0 M).set q (ad q, mc_e cy ad e) = mc_w cy ad 0 (M.set q e) := by
  apply List.ext_getElem?
  intro p
  rw [List.getElem?_set, mc_w_at, mc_w_at, List.getElem?_set, mc_w_len]
  by_cases hp : q = p
  · subst hp
    rw [if_pos rfl, if_pos rfl]
    by_cases hl : q < M.length
    · rw [if_pos hl, if_pos hl, Nat.zero_add]; rfl
    · rw [if_neg hl, if_neg hl]; rfl
  · rw [if_neg hp, if_neg hp]
theorem mc_k_up {ad ad' : Nat → Nat} {n : Nat} (hu : ∀ q, q < n → ad' q = ad q) {v : Value} (h : mc_v n v = true) : mv_k ad' v = mv_k ad v := by
  cases v <;> try rfl
  next i =>
    simp only [mv_k]
    rw [hu i (Nat.le_of_ble_eq_true h)]
theorem mc_ks_up {ad ad' : Nat → Nat} {n : Nat} (hu : ∀ q, q < n → ad' q = ad q) {l : List Value} (h : l.all (mc_v n) = true) : l.map (mv_k ad') = l.map (mv_k ad) := List.map_congr_left (fun v hv => mc_k_up hu (List.all_eq_true.mp h v hv))
theorem mc_lv_up {ad ad' : Nat → Nat} {n : Nat} (hu : ∀ q, q < n → ad' q = ad q) {l : List (Nat × Value)} (h : l.all (fun q => mc_v n q.2) = true) : mv_ks ad' l = mv_ks ad l := List.map_congr_left (fun v hv => by rw [mc_k_up hu (List.all_eq_true.mp h v hv)])
theorem mc_e_up {cy : Nat → ClassId} {ad ad' : Nat → Nat} {n : Nat} (hu : ∀ q, q < n → ad' q = ad q) {e : mc_X} (h : mc_cv n e = true) : mc_e cy ad' e = mc_e cy ad e := by
  match e with
  | .inl (ci, fs) => simp only [mc_e]; rw [mc_ks_up hu h]
  | .inr (0, n) => rfl
  | .inr (1, n) => rfl
  | .inr (_ + 2, n) => rfl
theorem mc_w_up {cy : Nat → ClassId} {ad ad' : Nat → Nat} {M : mc_M} (hu : ∀ q, q < M.length → ad' q = ad q) (h : M.all (mc_cv M.length) = true) : mc_w cy ad' 0 M = mc_w cy ad 0 M := by
  apply List.ext_getElem?
  intro p
  rw [mc_w_at, mc_w_at]
  cases hp : M[p]? with
  | none => rfl
  | some e =>
    simp only [Option.map, Nat.zero_add]
    rw [hu p (mv_lt hp), mc_e_up hu (List.all_eq_true.mp h e (List.mem_of_getElem? hp))]
theorem mc_w_push {cy : Nat → ClassId} {ad : Nat → Nat} {M : mc_M} {a : Nat} {e : mc_X} {e2 : va_E} (h : M.all (mc_cv M.length) = true) (he : ∀ ad', mc_e cy ad' e = e2) : mc_w cy ad 0 M ++ [(a, e2)] = mc_w cy (va_up ad M.length a) 0 (M ++ [e]) := by
  have hu : ∀ q, q < M.length → va_up ad M.length a q = ad q := fun q hq => va_up_ne _ _ (Nat.ne_of_lt hq)
  rw [← mc_w_up hu h]
  apply List.ext_getElem?
  intro p
  rw [List.getElem?_append, mc_w_at, mc_w_at, mc_w_len, List.getElem?_append]
  by_cases hp : p < M.length
  · rw [if_pos hp, if_pos hp]
  · rw [if_neg hp, if_neg hp]
    by_cases h0 : p = M.length
    · subst h0
      simp [va_up, he]
    · have : p - M.length ≠ 0 := by omega
      obtain ⟨z, hz⟩ := Nat.exists_eq_succ_of_ne_zero this
      rw [hz]; simp
theorem mc_grow {df : List (List Value)} {ctors : List mc_C} {Call : mc_Call} {T : List (Nat × Nat × Nat) × List (Nat × Nat × Nat) × List (Nat × Nat)} {lv : List (Nat × Value)} {M' : mc_M} {k' n' : Nat} : ∀ (il : List (Nat × Instr)) (st : List Value) (M : mc_M) (k n : Nat), mc_go df ctors Call T lv il st M k n = some (M', k', n') → k ≤ k' ∧ n ≤ n'
  | [], st, M, k, n, h => by simp [mc_go] at h
  | (pc, i) :: r, st, M, k, n, h => by
    have ih := mc_grow (df := df) (ctors := ctors) (Call := Call) (T := T) (lv := lv) (M' := M') (k' := k') (n' := n') r
    have cd : ∀ {b : Bool} {X : Option (mc_M × Nat × Nat)}, (bif b then X else none) = some (M', k', n') → X = some (M', k', n') := fun {b X} h => by cases b <;> simp_all
    unfold mc_go at h
    split at h
    · split at h
      · cases h; exact ⟨Nat.le_refl _, Nat.le_refl _⟩
      · cases h
    · split at h
      · exact ih _ _ _ _ (cd h)
      · cases h
    · split at h
      · exact ih _ _ _ _ (cd h)
      · cases h
    · exact ih _ _ _ _ (cd h)
    · exact ih _ _ _ _ (cd h)
    · exact ih _ _ _ _ (cd h)
    · split at h
      · exact ih _ _ _ _ (cd h)
      · cases h
    · split at h
      · split at h
        · obtain ⟨a, b⟩ := ih _ _ _ _ (cd h); omega
        · cases h
      · cases h
    · split at h
      · split at h
        · obtain ⟨a, b⟩ := ih _ _ _ _ (cd h); omega
        · cases h
      · cases h
    · split at h
      · split at h
        · split at h
          · split at h
            · exact ih _ _ _ _ (cd h)
            · cases h
          · cases h
        · cases h
      · cases h
    · split at h
      · split at h
        · split at h
          · exact ih _ _ _ _ (cd h)
          · cases h
        · cases h
      · cases h
    · split at h
      · split at h
        · exact ih _ _ _ _ (cd h)
        · cases h
      · split at h
        · split at h
          · split at h
            · obtain ⟨a, b⟩ := ih _ _ _ _ (cd h); omega
            · cases h
          · cases h
        · cases h
      · cases h
    · split at h
      · split at h
        · split at h
          · split at h
            · split at h
              · obtain ⟨a, b⟩ := ih _ _ _ _ (cd h); omega
              · cases h
            · cases h
          · cases h
        · cases h
      · cases h
    · cases h
