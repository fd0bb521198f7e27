/-! A TREE'S NODES (step, key); cells that hold them -/
def tNd : tT → List (Nat × Int32)
  | .leaf => []
  | .inner s k _ l r => (s, k) :: (tNd l ++ tNd r)
def tSt (P : Nat → Prop) : tT → Prop
  | .leaf => True
  | .inner s _ _ l r => P s ∧ tSt P l ∧ tSt P r
theorem tSt_imp {P Q : Nat → Prop} (h : ∀ s, P s → Q s) : ∀ {T : tT}, tSt P T → tSt Q T
  | .leaf, _ => trivial
  | .inner _ _ _ _ _, a => ⟨h _ a.1, tSt_imp h a.2.1, tSt_imp h a.2.2⟩
theorem tSt_lo {P : Nat → Prop} {s : Nat} {k : Int32} (hs : P s) : ∀ {T : tT}, tSt P T → tSt P (tLo s k T)
  | .leaf, _ => trivial
  | .inner t k' v l r, a => by
    unfold tLo
    split
    · exact a.2.1
    · split
      · exact tSt_lo hs a.2.1
      · exact ⟨hs, a.2.1, tSt_lo hs a.2.2⟩
theorem tSt_hi {P : Nat → Prop} {s : Nat} {k : Int32} (hs : P s) : ∀ {T : tT}, tSt P T → tSt P (tHi s k T)
  | .leaf, _ => trivial
  | .inner t k' v l r, a => by
    unfold tHi
    split
    · exact a.2.2
    · split
      · exact ⟨hs, tSt_hi hs a.2.1, a.2.2⟩
      · exact tSt_hi hs a.2.2
theorem tSt_put {P : Nat → Prop} {R : Int32 → Int32} {s : Nat} {k v : Int32} (hs : P s) : ∀ {T : tT}, tSt P T → tSt P (tPut R s k v T)
  | .leaf, _ => ⟨hs, trivial, trivial⟩
  | .inner t k' v' l r, a => by
    unfold tPut
    split
    · exact ⟨hs, a.2.1, a.2.2⟩
    · split
      · split
        · exact ⟨hs, tSt_put hs a.2.1, a.2.2⟩
        · exact ⟨hs, a.2.1, tSt_put hs a.2.2⟩
      · exact ⟨hs, tSt_lo hs a, tSt_hi hs a⟩
theorem tSt_jr {P : Nat → Prop} {R : Int32 → Int32} {s : Nat} {kl vl : Int32} {ll L : tT} {f : tT → tT} (hs : P s) (hL : tSt P L) (hll : tSt P ll) (hf : ∀ r, tSt P r → tSt P (f r)) : ∀ {B : tT}, tSt P B → tSt P (tJr R s kl vl ll L f B)
  | .leaf, _ => hL
  | .inner t k' v' l r, a => by
    unfold tJr
    split
    · exact ⟨hs, hll, hf _ a⟩
    · exact ⟨hs, tSt_jr hs hL hll hf a.2.1, a.2.2⟩
theorem tSt_jn {P : Nat → Prop} {R : Int32 → Int32} {s : Nat} (hs : P s) : ∀ {A B : tT}, tSt P A → tSt P B → tSt P (tJn R s A B)
  | .leaf, _, _, b => b
  | .inner t k v l r, _, a, b => tSt_jr hs a a.2.1 (fun _ h => tSt_jn hs a.2.2 h) b
theorem tSt_wo {P : Nat → Prop} {R : Int32 → Int32} {s : Nat} {k : Int32} (hs : P s) : ∀ {T : tT}, tSt P T → tSt P (tWo R s k T)
  | .leaf, _ => trivial
  | .inner t k' v l r, a => by
    unfold tWo
    split
    · exact tSt_jn hs a.2.1 a.2.2
    · split
      · exact ⟨hs, tSt_wo hs a.2.1, a.2.2⟩
      · exact ⟨hs, a.2.1, tSt_wo hs a.2.2⟩
theorem tSt_un {P : Nat → Prop} {R : Int32 → Int32} {s : Nat} (hs : P s) : ∀ n {A B : tT}, tSt P A → tSt P B → tSt P (tUn R s n A B)
  | 0, _, _, _, _ => trivial
  | _ + 1, .leaf, _, _, b => b
  | _ + 1, .inner _ _ _ _ _, .leaf, a, _ => a
  | n + 1, .inner t k v l r, .inner t' k' v' l' r', a, b => by
    unfold tUn
    split
    · exact ⟨hs, tSt_un hs n (tSt_lo hs a) b.2.1, tSt_un hs n (tSt_hi hs a) b.2.2⟩
    · exact ⟨hs, tSt_un hs n a.2.1 (tSt_lo hs b), tSt_un hs n a.2.2 (tSt_hi hs b)⟩
theorem tSt_nd {P : Nat → Prop} : ∀ {T : tT}, tSt P T ↔ ∀ x, x ∈ tNd T → P x.1
  | .leaf => ⟨fun _ _ h => (by cases h), fun _ => trivial⟩
  | .inner s k v l r => by
    have il := @tSt_nd P l
    have ir := @tSt_nd P r
    constructor
    · rintro ⟨a, b, c⟩ x hx
      rcases List.mem_cons.mp hx with rfl | hx
      · exact a
      · rcases List.mem_append.mp hx with hx | hx
        · exact il.mp b x hx
        · exact ir.mp c x hx
    · intro h
      exact ⟨h (s, k) (List.mem_cons_self ..), il.mpr (fun x hx => h x (List.mem_cons_of_mem _ (List.mem_append.mpr (Or.inl hx)))), ir.mpr (fun x hx => h x (List.mem_cons_of_mem _ (List.mem_append.mpr (Or.inr hx))))⟩
theorem tNd_len : ∀ {T : tT}, (tNd T).length = tN T
  | .leaf => rfl
  | .inner s k v l r => by
    simp only [tNd, tN, List.length_cons, List.length_append, @tNd_len l, @tNd_len r]
theorem tNd_all {P : Int32 → Prop} : ∀ {T : tT}, tAll P T → ∀ x, x ∈ tNd T → P x.2
  | .leaf, _, x, hx => by cases hx
  | .inner s k v l r, a, x, hx => by
    rcases List.mem_cons.mp hx with rfl | hx
    · exact a.1
    · rcases List.mem_append.mp hx with hx | hx
      · exact tNd_all a.2.1 x hx
      · exact tNd_all a.2.2 x hx
theorem tNd_pw : ∀ {T : tT}, tOrd T → (tNd T).Pairwise (fun a b => ¬ a.2 = b.2)
  | .leaf, _ => List.Pairwise.nil
  | .inner s k v l r, h => by
    obtain ⟨h1, h2, h3, h4⟩ := h
    refine List.pairwise_cons.mpr ⟨fun x hx => ?_, List.pairwise_append.mpr ⟨tNd_pw h3, tNd_pw h4, fun a ha b hb e => ?_⟩⟩
    · rcases List.mem_append.mp hx with hx | hx
      · have := tNd_all h1 x hx
        exact fun e => Int32.lt_irrefl (by rw [← e] at this; exact this)
      · have := tNd_all h2 x hx
        exact fun e => Int32.lt_irrefl (by rw [← e] at this; exact this)
    · have q1 := tNd_all h1 a ha
      have q2 := tNd_all h2 b hb
      rw [e] at q1
      exact Int32.lt_irrefl (Int32.lt_trans q1 q2)
theorem tNd_nodup {T : tT} (h : tOrd T) : (tNd T).Nodup := (tNd_pw h).imp (fun {a b} z e => z (by rw [e]))
theorem pw_inj {α β : Type} {f : α → β} : ∀ {l : List α}, l.Pairwise (fun a b => ¬ f a = f b) → ∀ {i j : α}, i ∈ l → j ∈ l → f i = f j → i = j
  | [], _, _, _, h, _, _ => by cases h
  | x :: t, h, i, j, hi, hj, e => by
    obtain ⟨h1, h2⟩ := List.pairwise_cons.mp h
    rcases List.mem_cons.mp hi with a | a
    · rcases List.mem_cons.mp hj with b | b
      · rw [a, b]
      · exact absurd (by rw [← a]; exact e) (h1 j b)
    · rcases List.mem_cons.mp hj with b | b
      · exact absurd (by rw [← b]; exact e.symm) (h1 i a)
      · exact pw_inj h2 a b e
theorem map_nodup {α β : Type} {f : α → β} : ∀ {l : List α}, l.Nodup → (∀ a b, a ∈ l → b ∈ l → f a = f b → a = b) → (l.map f).Nodup
  | [], _, _ => List.Pairwise.nil
  | x :: t, h, hf => by
    obtain ⟨h1, h2⟩ := List.nodup_cons.mp h
    rw [List.map_cons]
    refine List.nodup_cons.mpr ⟨fun z => ?_, map_nodup h2 (fun a b ha hb => hf a b (List.mem_cons_of_mem _ ha) (List.mem_cons_of_mem _ hb))⟩
    obtain ⟨y, y1, y2⟩ := List.mem_map.mp z
    exact h1 (by rw [hf x y (List.mem_cons_self ..) (List.mem_cons_of_mem _ y1) y2.symm]; exact y1)
section HC
variable {K V A B : Nat → Int32} {σ : Nat → Nat} {M : Nat} {R : tT → Int32 → Prop}
theorem hCs_nd (hM : M < 2 ^ 31) : ∀ {T : tT} {c : Int32}, hTr K V A B σ M T c → (hCs A B T c).map (fun i => (σ i, K i)) = tNd T
  | .leaf, _, _ => rfl
  | .inner s k v l r, c, h => by
    obtain ⟨i, i1, i2, rfl, h1, h2, h3, h4, h5⟩ := h
    have ei : (nI i).toNatClampNeg = i := nI_clamp (by omega)
    simp only [hCs, ei, tNd, List.map_cons, List.map_append, hCs_nd hM h4, hCs_nd hM h5, h1, h2]
theorem hCs_key (hM : M < 2 ^ 31) {T : tT} {c : Int32} (h : hTr K V A B σ M T c) (ho : tOrd T) {i j : Nat} (hi : i ∈ hCs A B T c) (hj : j ∈ hCs A B T c) (e : K i = K j) : i = j := by
  have p := tNd_pw ho
  rw [← hCs_nd hM h] at p
  exact pw_inj (f := K) (List.pairwise_map.mp p) hi hj e
theorem hCs_mem (hM : M < 2 ^ 31) {T : tT} {c : Int32} (h : hTr K V A B σ M T c) (x : Nat × Int32) : x ∈ tNd T ↔ ∃ i, i ∈ hCs A B T c ∧ (σ i, K i) = x := by
  rw [← hCs_nd hM h, List.mem_map]
/-- no two cells of R's trees have one step and one key -/
def hInj (K A B : Nat → Int32) (σ : Nat → Nat) (R : tT → Int32 → Prop) : Prop := ∀ T c T' c' i j, R T c → R T' c' → i ∈ hCs A B T c → j ∈ hCs A B T' c' → σ i = σ j → K i = K j → i = j
/-- the nodes of R's trees -/
def hNs (R : tT → Prop) (L : List (Nat × Int32)) : Prop := L.Nodup ∧ ∀ x, x ∈ L ↔ ∃ T, R T ∧ x ∈ tNd T
theorem h_cnt (hM : M < 2 ^ 31) (hR : ∀ T c, R T c → hTr K V A B σ M T c) (hI : hInj K A B σ R) {W : List Nat} (nd : W.Nodup) (hW : ∀ i, i ∈ W ↔ ∃ T c, R T c ∧ i ∈ hCs A B T c) {L : List (Nat × Int32)} (hL : hNs (fun T => ∃ c, R T c) L) : W.length = L.length := by
  have e := nd_same (V := W.map (fun i => (σ i, K i))) (W := L) (map_nodup nd (fun a b ha hb e => ?_)) hL.1 (fun x => ?_)
  · rw [List.length_map] at e; exact e
  · obtain ⟨T, c, h1, h2⟩ := (hW a).mp ha
    obtain ⟨T', c', h3, h4⟩ := (hW b).mp hb
    simp only [Prod.mk.injEq] at e
    exact hI T c T' c' a b h1 h3 h2 h4 e.1 e.2
  · rw [List.mem_map, hL.2]
    constructor
    · rintro ⟨i, i1, i2⟩
      obtain ⟨T, c, h1, h2⟩ := (hW i).mp i1
      exact ⟨T, ⟨c, h1⟩, (hCs_mem hM (hR T c h1) x).mpr ⟨i, h2, i2⟩⟩
    · rintro ⟨T, ⟨c, h1⟩, h2⟩
      obtain ⟨i, i1, i2⟩ := (hCs_mem hM (hR T c h1) x).mp h2
      exact ⟨i, (hW i).mpr ⟨T, c, h1, i1⟩, i2⟩
theorem h_ns (hM : M < 2 ^ 31) (hR : ∀ T c, R T c → hTr K V A B σ M T c) (hI : hInj K A B σ R) {W : List Nat} (nd : W.Nodup) (hW : ∀ i, i ∈ W ↔ ∃ T c, R T c ∧ i ∈ hCs A B T c)   : hNs (fun T => ∃ c, R T c) (W.map (fun i => (σ i, K i))) := by
  refine ⟨map_nodup nd (fun a b ha hb e => ?_), fun x => ?_⟩
  · obtain ⟨T, c, h1, h2⟩ := (hW a).mp ha
    obtain ⟨T', c', h3, h4⟩ := (hW b).mp hb
    simp only [Prod.mk.injEq] at e
    exact hI T c T' c' a b h1 h3 h2 h4 e.1 e.2
  · rw [List.mem_map]
    constructor
    · rintro ⟨i, i1, i2⟩
      obtain ⟨T, c, h1, h2⟩ := (hW i).mp i1
      exact ⟨T, ⟨c, h1⟩, (hCs_mem hM (hR T c h1) x).mpr ⟨i, h2, i2⟩⟩
    · rintro ⟨T, ⟨c, h1⟩, h2⟩
      obtain ⟨i, i1, i2⟩ := (hCs_mem hM (hR T c h1) x).mp h2
      exact ⟨i, (hW i).mpr ⟨T, c, h1, i1⟩, i2⟩
theorem hCs_len (hM : M < 2 ^ 31) {T : tT} {c : Int32} (h : hTr K V A B σ M T c) : (hCs A B T c).length = tN T := by
  rw [← tNd_len, ← hCs_nd hM h, List.length_map]
theorem hCs_nodup (hM : M < 2 ^ 31) {T : tT} {c : Int32} (h : hTr K V A B σ M T c) (ho : tOrd T) : (hCs A B T c).Nodup := by
  have p := tNd_pw ho
  rw [← hCs_nd hM h] at p
  exact (List.pairwise_map.mp p).imp (fun {a b} z e => z (by rw [e]))
end HC
