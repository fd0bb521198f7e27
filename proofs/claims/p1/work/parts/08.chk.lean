/-! the tables' checks, by program -/
def mv_mem (h : Nat) (w : Cond) : Bool := decide (lw_tbl[h]? = some w) && goodWord w
theorem mv_mem_of {h : Nat} {w : Cond} (q : mv_mem h w = true) : w ∈ mv_Ts := by
  simp only [mv_mem, Bool.and_eq_true, decide_eq_true_eq] at q
  exact mv_in (List.mem_of_getElem? q.1) q.2
def mv_fchk (own : String) : List (Nat × Nat × Nat) → List Nat → Bool
  | [], _ => true
  | _ :: _, [] => false
  | (i, ci, k) :: r, h :: hs => (match vwCl[ci]? with
    | some (C, T, N) => decide (k < N) && mv_mem h (.fieldLink own i C (T k).2.1 (T k).2.2.1) && decide ((T k).1 = C)
    | none => false) && mv_fchk own r hs
theorem mv_fchk_of {own : String} : ∀ {l : List (Nat × Nat × Nat)} {hs : List Nat}, mv_fchk own l hs = true → ∀ i ci k, (i, ci, k) ∈ l → mv_fok own i ci k
  | [], _, _, _, _, _, h => by cases h
  | _ :: _, [], h, _, _, _, _ => by simp [mv_fchk] at h
  | (i, ci, k) :: r, h :: hs, q, i', ci', k', hm => by
    simp only [mv_fchk, Bool.and_eq_true] at q
    rcases List.mem_cons.mp hm with e | hm
    · cases e
      split at q
      · next C T N hc =>
        have q1 := q.1
        simp only [Bool.and_eq_true, decide_eq_true_eq] at q1
        exact ⟨C, T, N, hc, q1.1.1, mv_mem_of q1.1.2, q1.2⟩
      · simp at q
    · exact mv_fchk_of q.2 i' ci' k' hm
def mv_kchk (own : String) : List (Nat × Int32) → List Nat → Bool
  | [], _ => true
  | _ :: _, [] => false
  | (i, v) :: r, h :: hs => mv_mem h (.constant own i v) && mv_kchk own r hs
theorem mv_kchk_of {own : String} : ∀ {l : List (Nat × Int32)} {hs : List Nat}, mv_kchk own l hs = true → ∀ i v, (i, v) ∈ l → Cond.constant own i v ∈ mv_Ts
  | [], _, _, _, _, h => by cases h
  | _ :: _, [], h, _, _, _ => by simp [mv_kchk] at h
  | (i, v) :: r, h :: hs, q, i', v', hm => by
    simp only [mv_kchk, Bool.and_eq_true] at q
    rcases List.mem_cons.mp hm with e | hm
    · cases e; exact mv_mem_of q.1
    · exact mv_kchk_of q.2 i' v' hm
def mv_jchk (own : String) : List (Nat × Int64) → List Nat → Bool
  | [], _ => true
  | _ :: _, [] => false
  | (i, v) :: r, h :: hs => mv_mem h (.constantLong own i v) && mv_jchk own r hs
theorem mv_jchk_of {own : String} : ∀ {l : List (Nat × Int64)} {hs : List Nat}, mv_jchk own l hs = true → ∀ i v, (i, v) ∈ l → Cond.constantLong own i v ∈ mv_Ts
  | [], _, _, _, _, h => by cases h
  | _ :: _, [], h, _, _, _ => by simp [mv_jchk] at h
  | (i, v) :: r, h :: hs, q, i', v', hm => by
    simp only [mv_jchk, Bool.and_eq_true] at q
    rcases List.mem_cons.mp hm with e | hm
    · cases e; exact mv_mem_of q.1
    · exact mv_jchk_of q.2 i' v' hm
def mv_mchk (own : String) (sys : List mv_M) : List (Nat × Nat) → List Nat → Bool
  | [], _ => true
  | _ :: _, [] => false
  | (i, j) :: r, h :: hs => (match sys[j]? with
    | some M => mv_mem h (.methodLink own i M.1)
    | none => false) && mv_mchk own sys r hs
theorem mv_mchk_of {own : String} {sys : List mv_M} : ∀ {l : List (Nat × Nat)} {hs : List Nat}, mv_mchk own sys l hs = true → ∀ (i j : Nat), (i, j) ∈ l → ∀ M', sys[j]? = some M' → Cond.methodLink own i M'.1 ∈ mv_Ts
  | [], _, _, _, _, h => by cases h
  | _ :: _, [], h, _, _, _ => by simp [mv_mchk] at h
  | (i, j) :: r, h :: hs, q, i', j', hm => by
    simp only [mv_mchk, Bool.and_eq_true] at q
    rcases List.mem_cons.mp hm with e | hm
    · cases e
      intro M' hM
      have q1 := q.1
      rw [hM] at q1
      exact mv_mem_of q1
    · exact mv_mchk_of q.2 i' j' hm
def mv_Tchk (own : String) (T : mv_T) (sys : List mv_M) (h1 h2 h3 h4 : List Nat) : Bool := mv_fchk own T.1 h1 && mv_kchk own T.2.1 h2 && mv_jchk own T.2.2.1 h3 && mv_mchk own sys T.2.2.2 h4
theorem mv_Tok_of {own : String} {T : mv_T} {sys : List mv_M} {h1 h2 h3 h4 : List Nat} (h : mv_Tchk own T sys h1 h2 h3 h4 = true) : mv_Tok own T ∧ ∀ (i j : Nat), (i, j) ∈ T.2.2.2 → ∀ M', sys[j]? = some M' → Cond.methodLink own i M'.1 ∈ mv_Ts := by
  simp only [mv_Tchk, Bool.and_eq_true] at h
  exact ⟨⟨mv_fchk_of h.1.1.1, mv_kchk_of h.1.1.2, mv_jchk_of h.1.2⟩, mv_mchk_of h.2⟩
def mv_dchk (M : mv_M) : Bool := M.2.2.2.2.2.2.2.all (fun q => decide (decode M.2.1 q.1 = .ok (q.2, mv_len q.1 q.2)))
def mv_c2 (hc h2 h3 hi : Nat) (M : mv_M) : Bool := plainName M.1.cls && mv_mem hc (.code M.1 M.2.1 M.2.2.1 M.2.2.2.1) && decide (M.1.cls ≠ "java/lang/invoke/MethodHandle") && decide (M.1.cls ≠ "java/lang/invoke/VarHandle") && decide ((parseMethodDescriptor M.1.desc).map (fun d => d.parameters.length) = some M.2.2.2.2.1) && decide (M.2.2.1 ≤ 21) && mv_mem hi (.initialized M.1.cls) && (match M.2.2.2.2.2.1 with
  | some ci => (match vwCl[ci]? with
    | some (C, _, _) => decide (C = M.1.cls)
    | none => false) && mv_mem h2 (.instanceMethod M.1) && mv_mem h3 (.selects M.1.cls M.1 M.1)
  | none => mv_mem h2 (.static M.1))
theorem mv_mok_of {sys : List mv_M} {M : mv_M} {hc h2 h3 hi : Nat} (hd : mv_dchk M = true) (hT : mv_Tok M.1.cls M.2.2.2.2.2.2.1 ∧ ∀ (i j : Nat), (i, j) ∈ M.2.2.2.2.2.2.1.2.2.2 → ∀ M', sys[j]? = some M' → Cond.methodLink M.1.cls i M'.1 ∈ mv_Ts) (h : mv_c2 hc h2 h3 hi M = true) : mv_mok sys M := by
  simp only [mv_c2, Bool.and_eq_true, decide_eq_true_eq] at h
  obtain ⟨⟨⟨⟨⟨⟨⟨a1, a2⟩, a3⟩, a4⟩, a5⟩, a6⟩, a7⟩, a8⟩ := h
  refine ⟨a1, mv_mem_of a2, ?_, hT.1, hT.2, ⟨a3, a4, a5⟩, a6, mv_mem_of a7, ?_, ?_⟩
  · intro q hq
    exact of_decide_eq_true (List.all_eq_true.mp hd q hq)
  · intro ci hci
    rw [hci] at a8
    simp only [Bool.and_eq_true] at a8
    obtain ⟨⟨b1, b2⟩, b3⟩ := a8
    refine ⟨?_, mv_mem_of b2, mv_mem_of b3⟩
    split at b1
    · next C T N hc =>
      rw [← of_decide_eq_true b1]
      exact ⟨T, N, hc⟩
    · cases b1
  · intro hn
    rw [hn] at a8
    exact mv_mem_of a8
def mv_wchk (C : String) (T : u_T) : List Nat → List Nat → Bool
  | [], _ => true
  | _ :: _, [] => false
  | k :: r, h :: hs => mv_mem h (u_lay C T k) && mv_wchk C T r hs
theorem mv_wchk_of {C : String} {T : u_T} : ∀ {l hs : List Nat}, mv_wchk C T l hs = true → ∀ k ∈ l, u_lay C T k ∈ mv_Ts
  | [], _, _, _, h => by cases h
  | _ :: _, [], h, _, _ => by simp [mv_wchk] at h
  | k :: r, h :: hs, q, k', hm => by
    simp only [mv_wchk, Bool.and_eq_true] at q
    rcases List.mem_cons.mp hm with e | hm
    · cases e; exact mv_mem_of q.1
    · exact mv_wchk_of q.2 k' hm
theorem mv_cok_of {ci : Nat} {C : String} {T : u_T} {N : Nat} {ty : Nat → FieldType} {hs : List Nat} (hc : vwCl[ci]? = some (C, T, N)) (h : mv_wchk C T (List.range N) hs = true) (hty : ∀ k, k < N → parseFieldDescriptor (T k).2.2.1 = some (ty k)) (hnm : ∀ a, a < N → ∀ b, b < N → a ≠ b → (T a).2.1 ≠ (T b).2.1) : mv_cok ci := by
  refine ⟨C, T, N, ty, hc, ?_, hty, hnm⟩
  intro w hw
  obtain ⟨k, hk, rfl⟩ := List.mem_map.mp hw
  exact mv_wchk_of h k hk
def mv_sok (ci : Nat) (fs : List Nat) : Bool := match vwCl[ci]? with
  | some (_, T, N) => decide (fs.length = N) && (List.range N).all (fun k => match fs[k]? with
    | some 0 => decide ((T k).2.2.2 = false) && decide (parseFieldDescriptor (T k).2.2.1 = some .int)
    | some 1 => decide ((T k).2.2.2 = false) && decide (parseFieldDescriptor (T k).2.2.1 = some .boolean)
    | _ => true)
  | none => false
theorem mv_lok_of {lay : List mv_D} (hc : ∀ ci < 9, mv_cok ci) (h : lay.all (fun d => match d with
    | .inl (ci, fs) => decide (ci < 9) && mv_sok ci fs
    | _ => true) = true) : mv_lok lay := by
  intro q ci fs hq
  have h1 := List.all_eq_true.mp h _ (List.mem_of_getElem? hq)
  simp only [Bool.and_eq_true, decide_eq_true_eq] at h1
  refine ⟨hc ci h1.1, ?_⟩
  intro C T N hcl
  have h2 := h1.2
  unfold mv_sok at h2
  rw [hcl] at h2
  simp only [Bool.and_eq_true, decide_eq_true_eq] at h2
  refine ⟨h2.1, ?_⟩
  intro k f hk
  have hkN : k < N := by rw [← h2.1]; exact mv_lt hk
  have h3 := List.all_eq_true.mp h2.2 k (List.mem_range.mpr hkN)
  rw [hk] at h3
  constructor
  · intro e; subst e
    simp only [Bool.and_eq_true, decide_eq_true_eq] at h3
    exact h3
  · intro e; subst e
    simp only [Bool.and_eq_true, decide_eq_true_eq] at h3
    exact h3
