/-! TREES: what PUT, WITHOUT and UNION make. .inner s k v l r: s the step that made the cell, k its key, v its value. R ranks keys -/
abbrev tT : Type := Std.DTreeMap.Internal.Impl Int32 (fun _ => Int32)
def tAll (P : Int32 → Prop) : tT → Prop
  | .leaf => True
  | .inner _ k _ l r => P k ∧ tAll P l ∧ tAll P r
/-- a search tree -/
def tOrd : tT → Prop
  | .leaf => True
  | .inner _ k _ l r => tAll (fun q => q < k) l ∧ tAll (fun q => k < q) r ∧ tOrd l ∧ tOrd r
/-- ranks fall -/
def tHp (R : Int32 → Int32) : tT → Prop
  | .leaf => True
  | .inner _ k _ l r => tAll (fun q => R q < R k) l ∧ tAll (fun q => R q < R k) r ∧ tHp R l ∧ tHp R r
def tN : tT → Nat
  | .leaf => 0
  | .inner _ _ _ l r => tN l + tN r + 1
def tLo (s : Nat) (k : Int32) : tT → tT
  | .leaf => .leaf
  | .inner _ k' v' l r => if k' = k then l else if k < k' then tLo s k l else .inner s k' v' l (tLo s k r)
def tHi (s : Nat) (k : Int32) : tT → tT
  | .leaf => .leaf
  | .inner _ k' v' l r => if k' = k then r else if k < k' then .inner s k' v' (tHi s k l) r else tHi s k r
/-- cells that a split makes -/
def tSpN (k : Int32) : tT → Nat
  | .leaf => 0
  | .inner _ k' _ l r => if k' = k then 0 else if k < k' then tSpN k l + 1 else tSpN k r + 1
def tPut (R : Int32 → Int32) (s : Nat) (k v : Int32) : tT → tT
  | .leaf => .inner s k v .leaf .leaf
  | .inner t k' v' l r => if k' = k then .inner s k v l r else if R k < R k' then (if k < k' then .inner s k' v' (tPut R s k v l) r else .inner s k' v' l (tPut R s k v r)) else .inner s k v (tLo s k (.inner t k' v' l r)) (tHi s k (.inner t k' v' l r))
def tPutN (R : Int32 → Int32) (k : Int32) : tT → Nat
  | .leaf => 1
  | .inner t k' v' l r => if k' = k then 1 else if R k < R k' then (if k < k' then tPutN R k l + 1 else tPutN R k r + 1) else tSpN k (.inner t k' v' l r) + 1
/-- the part whose top has the key -/
def tFnd (k : Int32) : tT → tT
  | .leaf => .leaf
  | .inner t k' v' l r => if k' = k then .inner t k' v' l r else if k < k' then tFnd k l else tFnd k r
/-- join of a tree with top (kl, vl, ll, f: what the join with its greater part makes) with r -/
def tJr (R : Int32 → Int32) (s : Nat) (kl vl : Int32) (ll L : tT) (f : tT → tT) : tT → tT
  | .leaf => L
  | .inner t kr vr rl rr => if R kr < R kl then .inner s kl vl ll (f (.inner t kr vr rl rr)) else .inner s kr vr (tJr R s kl vl ll L f rl) rr
def tJn (R : Int32 → Int32) (s : Nat) : tT → tT → tT
  | .leaf => fun r => r
  | .inner t k v l g => tJr R s k v l (.inner t k v l g) (tJn R s g)
def tJrN (R : Int32 → Int32) (kl : Int32) (f : tT → Nat) : tT → Nat
  | .leaf => 0
  | .inner t kr vr rl rr => if R kr < R kl then f (.inner t kr vr rl rr) + 1 else tJrN R kl f rl + 1
def tJnN (R : Int32 → Int32) : tT → tT → Nat
  | .leaf => fun _ => 0
  | .inner _ k _ _ g => tJrN R k (tJnN R g)
/-- without a key that is there -/
def tWo (R : Int32 → Int32) (s : Nat) (k : Int32) : tT → tT
  | .leaf => .leaf
  | .inner _ k' v' l r => if k' = k then tJn R s l r else if k < k' then .inner s k' v' (tWo R s k l) r else .inner s k' v' l (tWo R s k r)
def tWoN (R : Int32 → Int32) (k : Int32) : tT → Nat
  | .leaf => 0
  | .inner _ k' _ l r => if k' = k then tJnN R l r else if k < k' then tWoN R k l + 1 else tWoN R k r + 1
def tUn (R : Int32 → Int32) (s : Nat) : Nat → tT → tT → tT
  | 0, _, _ => .leaf
  | _ + 1, .leaf, b => b
  | _ + 1, .inner t k v l r, .leaf => .inner t k v l r
  | n + 1, .inner t k v l r, .inner t' k' v' l' r' => if R k ≤ R k' then .inner s k' v' (tUn R s n (tLo s k' (.inner t k v l r)) l') (tUn R s n (tHi s k' (.inner t k v l r)) r') else .inner s k v (tUn R s n l (tLo s k (.inner t' k' v' l' r'))) (tUn R s n r (tHi s k (.inner t' k' v' l' r')))
def tUnN (R : Int32 → Int32) (s : Nat) : Nat → tT → tT → Nat
  | 0, _, _ => 0
  | _ + 1, .leaf, _ => 0
  | _ + 1, .inner _ _ _ _ _, .leaf => 0
  | n + 1, .inner t k v l r, .inner t' k' v' l' r' => if R k ≤ R k' then 1 + tSpN k' (.inner t k v l r) + tUnN R s n (tLo s k' (.inner t k v l r)) l' + tUnN R s n (tHi s k' (.inner t k v l r)) r' else 1 + tSpN k (.inner t' k' v' l' r') + tUnN R s n l (tLo s k (.inner t' k' v' l' r')) + tUnN R s n r (tHi s k (.inner t' k' v' l' r'))
theorem i_tri {a b : Int32} (h : ¬ a = b) (h2 : ¬ b < a) : a < b := by
  rcases Int32.lt_or_eq_of_le (Int32.not_lt.mp h2) with c | c
  · exact c
  · exact absurd c h
theorem tAll_imp {P Q : Int32 → Prop} (h : ∀ q, P q → Q q) : ∀ {T : tT}, tAll P T → tAll Q T
  | .leaf, _ => trivial
  | .inner _ _ _ _ _, a => ⟨h _ a.1, tAll_imp h a.2.1, tAll_imp h a.2.2⟩
theorem tAll_lo {P : Int32 → Prop} {s : Nat} {k : Int32} : ∀ {T : tT}, tAll P T → tAll P (tLo s k T)
  | .leaf, _ => trivial
  | .inner _ k' v' l r, a => by
    unfold tLo
    split
    · exact a.2.1
    · split
      · exact tAll_lo a.2.1
      · exact ⟨a.1, a.2.1, tAll_lo a.2.2⟩
theorem tAll_hi {P : Int32 → Prop} {s : Nat} {k : Int32} : ∀ {T : tT}, tAll P T → tAll P (tHi s k T)
  | .leaf, _ => trivial
  | .inner _ k' v' l r, a => by
    unfold tHi
    split
    · exact a.2.2
    · split
      · exact ⟨a.1, tAll_hi a.2.1, a.2.2⟩
      · exact tAll_hi a.2.2
theorem tLo_lt {s : Nat} {k : Int32} : ∀ {T : tT}, tOrd T → tAll (fun q => q < k) (tLo s k T)
  | .leaf, _ => trivial
  | .inner _ k' v' l r, h => by
    unfold tLo
    split
    · rename_i e; subst e; exact h.1
    · rename_i e
      split
      · exact tLo_lt h.2.2.1
      · rename_i c
        have hk : k' < k := i_tri e c
        exact ⟨hk, tAll_imp (fun q z => Int32.lt_trans z hk) h.1, tLo_lt h.2.2.2⟩
theorem tHi_gt {s : Nat} {k : Int32} : ∀ {T : tT}, tOrd T → tAll (fun q => k < q) (tHi s k T)
  | .leaf, _ => trivial
  | .inner _ k' v' l r, h => by
    unfold tHi
    split
    · rename_i e; subst e; exact h.2.1
    · split
      · rename_i c
        exact ⟨c, tHi_gt h.2.2.1, tAll_imp (fun q z => Int32.lt_trans c z) h.2.1⟩
      · exact tHi_gt h.2.2.2
theorem tOrd_lo {s : Nat} {k : Int32} : ∀ {T : tT}, tOrd T → tOrd (tLo s k T)
  | .leaf, _ => trivial
  | .inner _ k' v' l r, h => by
    unfold tLo
    split
    · exact h.2.2.1
    · split
      · exact tOrd_lo h.2.2.1
      · exact ⟨h.1, tAll_lo h.2.1, h.2.2.1, tOrd_lo h.2.2.2⟩
theorem tOrd_hi {s : Nat} {k : Int32} : ∀ {T : tT}, tOrd T → tOrd (tHi s k T)
  | .leaf, _ => trivial
  | .inner _ k' v' l r, h => by
    unfold tHi
    split
    · exact h.2.2.2
    · split
      · exact ⟨tAll_hi h.1, h.2.1, tOrd_hi h.2.2.1, h.2.2.2⟩
      · exact tOrd_hi h.2.2.2
theorem tHp_lo {R : Int32 → Int32} {s : Nat} {k : Int32} : ∀ {T : tT}, tHp R T → tHp R (tLo s k T)
  | .leaf, _ => trivial
  | .inner _ k' v' l r, h => by
    unfold tLo
    split
    · exact h.2.2.1
    · split
      · exact tHp_lo h.2.2.1
      · exact ⟨h.1, tAll_lo h.2.1, h.2.2.1, tHp_lo h.2.2.2⟩
theorem tHp_hi {R : Int32 → Int32} {s : Nat} {k : Int32} : ∀ {T : tT}, tHp R T → tHp R (tHi s k T)
  | .leaf, _ => trivial
  | .inner _ k' v' l r, h => by
    unfold tHi
    split
    · exact h.2.2.2
    · split
      · exact ⟨tAll_hi h.1, h.2.1, tHp_hi h.2.2.1, h.2.2.2⟩
      · exact tHp_hi h.2.2.2
theorem tN_lo {s : Nat} {k : Int32} : ∀ {T : tT}, tN (tLo s k T) + tN (tHi s k T) ≤ tN T
  | .leaf => by simp [tLo, tHi, tN]
  | .inner _ k' v' l r => by
    unfold tLo tHi
    split
    · simp only [tN]; omega
    · split
      · have := @tN_lo s k l
        simp only [tN]; omega
      · have := @tN_lo s k r
        simp only [tN]; omega
theorem tSpN_le {k : Int32} : ∀ {T : tT}, tSpN k T ≤ tN T
  | .leaf => by simp [tSpN]
  | .inner _ k' v' l r => by
    unfold tSpN
    have h1 := @tSpN_le k l
    have h2 := @tSpN_le k r
    simp only [tN]
    split
    · omega
    · split <;> omega
theorem tAll_put {P : Int32 → Prop} {R : Int32 → Int32} {s : Nat} {k v : Int32} (hk : P k) : ∀ {T : tT}, tAll P T → tAll P (tPut R s k v T)
  | .leaf, _ => ⟨hk, trivial, trivial⟩
  | .inner _ k' v' l r, a => by
    unfold tPut
    split
    · exact ⟨hk, a.2⟩
    · split
      · split
        · exact ⟨a.1, tAll_put hk a.2.1, a.2.2⟩
        · exact ⟨a.1, a.2.1, tAll_put hk a.2.2⟩
      · exact ⟨hk, tAll_lo a, tAll_hi a⟩
theorem tOrd_put {R : Int32 → Int32} {s : Nat} {k v : Int32} : ∀ {T : tT}, tOrd T → tOrd (tPut R s k v T)
  | .leaf, _ => ⟨trivial, trivial, trivial, trivial⟩
  | .inner _ k' v' l r, h => by
    unfold tPut
    split
    · rename_i e; subst e; exact h
    · rename_i e
      split
      · split
        · rename_i c
          exact ⟨tAll_put (P := fun q => q < k') c h.1, h.2.1, tOrd_put h.2.2.1, h.2.2.2⟩
        · rename_i c
          exact ⟨h.1, tAll_put (P := fun q => k' < q) (i_tri e c) h.2.1, h.2.2.1, tOrd_put h.2.2.2⟩
      · exact ⟨tLo_lt h, tHi_gt h, tOrd_lo h, tOrd_hi h⟩
theorem tHp_put {R : Int32 → Int32} (hR : ∀ a b, R a = R b → a = b) {s : Nat} {k v : Int32} : ∀ {T : tT}, tHp R T → tHp R (tPut R s k v T)
  | .leaf, _ => ⟨trivial, trivial, trivial, trivial⟩
  | .inner _ k' v' l r, h => by
    unfold tPut
    split
    · rename_i e; subst e; exact h
    · rename_i e
      split
      · rename_i d
        split
        · exact ⟨tAll_put (P := fun q => R q < R k') d h.1, h.2.1, tHp_put hR h.2.2.1, h.2.2.2⟩
        · exact ⟨h.1, tAll_put (P := fun q => R q < R k') d h.2.1, h.2.2.1, tHp_put hR h.2.2.2⟩
      · rename_i d
        have hd : R k' < R k := i_tri (fun z => e (hR _ _ z)) d
        have ha : tAll (fun q => R q < R k) (Std.DTreeMap.Internal.Impl.inner ‹Nat› k' v' l r : tT) := ⟨hd, tAll_imp (fun q z => Int32.lt_trans z hd) h.1, tAll_imp (fun q z => Int32.lt_trans z hd) h.2.1⟩
        exact ⟨tAll_lo ha, tAll_hi ha, tHp_lo h, tHp_hi h⟩
theorem tAll_jr {P : Int32 → Prop} {R : Int32 → Int32} {s : Nat} {kl vl : Int32} {ll L : tT} {f : tT → tT} (h1 : P kl) (h2 : tAll P ll) (hL : tAll P L) (hf : ∀ r, tAll P r → tAll P (f r)) : ∀ {T : tT}, tAll P T → tAll P (tJr R s kl vl ll L f T)
  | .leaf, _ => hL
  | .inner _ k' v' l r, a => by
    unfold tJr
    split
    · exact ⟨h1, h2, hf _ a⟩
    · exact ⟨a.1, tAll_jr h1 h2 hL hf a.2.1, a.2.2⟩
theorem tAll_jn {P : Int32 → Prop} {R : Int32 → Int32} {s : Nat} : ∀ {A : tT} {B : tT}, tAll P A → tAll P B → tAll P (tJn R s A B)
  | .leaf, _, _, b => b
  | .inner _ k v l g, _, a, b => tAll_jr a.1 a.2.1 a (fun _ h => tAll_jn a.2.2 h) b
theorem tOrd_jr {R : Int32 → Int32} {s : Nat} {kl vl m : Int32} {ll L : tT} {f : tT → tT} (h1 : kl < m) (h2 : tAll (fun q => q < m) L) (hL : tOrd L) (h3 : tAll (fun q => q < kl) ll) (h4 : tOrd ll) (h5 : tAll (fun q => q < m) ll) (hf : ∀ r, tAll (fun q => m < q) r → tOrd r → tOrd (f r) ∧ tAll (fun q => kl < q) (f r)) (hfa : ∀ P : Int32 → Prop, tAll P L → ∀ r, tAll P r → tAll P (f r)) (hLl : ∀ P : Int32 → Prop, tAll P L → P kl ∧ tAll P ll) : ∀ {T : tT}, tAll (fun q => m < q) T → tOrd T → tOrd (tJr R s kl vl ll L f T)
  | .leaf, _, _ => hL
  | .inner t k' v' l r, a, o => by
    unfold tJr
    split
    · have := hf _ a o
      exact ⟨h3, this.2, h4, this.1⟩
    · have hmk : m < k' := a.1
      refine ⟨?_, o.2.1, tOrd_jr h1 h2 hL h3 h4 h5 hf hfa hLl a.2.1 o.2.2.1, o.2.2.2⟩
      have hLk : tAll (fun q => q < k') L := tAll_imp (fun q z => Int32.lt_trans z hmk) h2
      exact tAll_jr (P := fun q => q < k') (hLl _ hLk).1 (hLl _ hLk).2 hLk (fun r hr => hfa _ hLk r hr) o.1
theorem tOrd_jn {R : Int32 → Int32} {s : Nat} {m : Int32} : ∀ {A : tT} {B : tT}, tAll (fun q => q < m) A → tAll (fun q => m < q) B → tOrd A → tOrd B → tOrd (tJn R s A B)
  | .leaf, _, _, _, _, o => o
  | .inner t k v l g, B, a, b, oa, ob => by
    unfold tJn
    refine tOrd_jr (m := m) a.1 a oa oa.1 oa.2.2.1 a.2.1 (fun r hr ho => ⟨tOrd_jn a.2.2 hr oa.2.2.2 ho, tAll_jn oa.2.1 (tAll_imp (fun q z => Int32.lt_trans a.1 z) hr)⟩) (fun P hP r hr => tAll_jn hP.2.2 hr) (fun P hP => ⟨hP.1, hP.2.1⟩) b ob
theorem tHp_jr {R : Int32 → Int32} {s : Nat} {kl vl m : Int32} {ll L : tT} {f : tT → tT} (hkm : kl < m) (hL : tHp R L) (h1 : tAll (fun q => R q < R kl) ll) (h2 : tHp R ll) (hLt : tAll (fun q => R q ≤ R kl) L) (hf : ∀ r, tAll (fun q => m < q) r → tHp R r → tHp R (f r)) (hfr : ∀ r, tAll (fun q => R q < R kl) r → tAll (fun q => R q < R kl) (f r)) (hfa : ∀ P : Int32 → Prop, tAll P L → ∀ r, tAll P r → tAll P (f r)) (hLl : ∀ P : Int32 → Prop, tAll P L → P kl ∧ tAll P ll) (hR : ∀ a b, R a = R b → a = b) : ∀ {T : tT}, tAll (fun q => m < q) T → tHp R T → tHp R (tJr R s kl vl ll L f T)
  | .leaf, _, _ => hL
  | .inner t k' v' l r, hne, h => by
    unfold tJr
    split
    · rename_i c
      exact ⟨h1, hfr _ ⟨c, tAll_imp (fun q z => Int32.lt_trans z c) h.1, tAll_imp (fun q z => Int32.lt_trans z c) h.2.1⟩, h2, hf _ hne h⟩
    · rename_i c
      have hk : R kl < R k' := i_tri (fun z => by
        have e := hR _ _ z
        have q := Int32.lt_trans hkm hne.1
        rw [e] at q
        exact Int32.lt_irrefl q) c
      refine ⟨?_, h.2.1, tHp_jr hkm hL h1 h2 hLt hf hfr hfa hLl hR hne.2.1 h.2.2.1, h.2.2.2⟩
      have hLk : tAll (fun q => R q < R k') L := tAll_imp (fun q z => Int32.lt_of_le_of_lt z hk) hLt
      exact tAll_jr (P := fun q => R q < R k') (hLl _ hLk).1 (hLl _ hLk).2 hLk (fun r hr => hfa _ hLk r hr) h.1
theorem tHp_jn {R : Int32 → Int32} (hR : ∀ a b, R a = R b → a = b) {s : Nat} {m : Int32} : ∀ {A : tT} {B : tT}, tAll (fun q => q < m) A → tAll (fun q => m < q) B → tHp R A → tHp R B → tHp R (tJn R s A B)
  | .leaf, _, _, _, _, o => o
  | .inner t k v l g, B, a, b, oa, ob => by
    unfold tJn
    refine tHp_jr (m := m) a.1 oa oa.1 oa.2.2.1 ⟨Int32.le_refl _, tAll_imp (fun q z => Int32.le_of_lt z) oa.1, tAll_imp (fun q z => Int32.le_of_lt z) oa.2.1⟩ (fun r hr ho => tHp_jn hR a.2.2 hr oa.2.2.2 ho) (fun r hr => tAll_jn oa.2.1 hr) (fun P hP r hr => tAll_jn hP.2.2 hr) (fun P hP => ⟨hP.1, hP.2.1⟩) hR b ob
theorem tAll_wo {P : Int32 → Prop} {R : Int32 → Int32} {s : Nat} {k : Int32} : ∀ {T : tT}, tAll P T → tAll P (tWo R s k T)
  | .leaf, _ => trivial
  | .inner _ k' v' l r, a => by
    unfold tWo
    split
    · exact tAll_jn a.2.1 a.2.2
    · split
      · exact ⟨a.1, tAll_wo a.2.1, a.2.2⟩
      · exact ⟨a.1, a.2.1, tAll_wo a.2.2⟩
theorem tOrd_wo {R : Int32 → Int32} {s : Nat} {k : Int32} : ∀ {T : tT}, tOrd T → tOrd (tWo R s k T)
  | .leaf, _ => trivial
  | .inner _ k' v' l r, h => by
    unfold tWo
    split
    · exact tOrd_jn (m := k') h.1 h.2.1 h.2.2.1 h.2.2.2
    · split
      · exact ⟨tAll_wo h.1, h.2.1, tOrd_wo h.2.2.1, h.2.2.2⟩
      · exact ⟨h.1, tAll_wo h.2.1, h.2.2.1, tOrd_wo h.2.2.2⟩
theorem tHp_wo {R : Int32 → Int32} (hR : ∀ a b, R a = R b → a = b) {s : Nat} {k : Int32} : ∀ {T : tT}, tOrd T → tHp R T → tHp R (tWo R s k T)
  | .leaf, _, _ => trivial
  | .inner _ k' v' l r, o, h => by
    unfold tWo
    split
    · exact tHp_jn hR (m := k') o.1 o.2.1 h.2.2.1 h.2.2.2
    · split
      · exact ⟨tAll_wo h.1, h.2.1, tHp_wo hR o.2.2.1 h.2.2.1, h.2.2.2⟩
      · exact ⟨h.1, tAll_wo h.2.1, h.2.2.1, tHp_wo hR o.2.2.2 h.2.2.2⟩
theorem tAll_un {P : Int32 → Prop} {R : Int32 → Int32} {s : Nat} : ∀ n {A B : tT}, tAll P A → tAll P B → tAll P (tUn R s n A B)
  | 0, _, _, _, _ => trivial
  | _ + 1, .leaf, _, _, b => b
  | _ + 1, .inner _ _ _ _ _, .leaf, a, _ => a
  | n + 1, .inner t k v l r, .inner t' k' v' l' r', a, b => by
    unfold tUn
    split
    · exact ⟨b.1, tAll_un n (tAll_lo a) b.2.1, tAll_un n (tAll_hi a) b.2.2⟩
    · exact ⟨a.1, tAll_un n a.2.1 (tAll_lo b), tAll_un n a.2.2 (tAll_hi b)⟩
theorem tOrd_un {R : Int32 → Int32} {s : Nat} : ∀ n {A B : tT}, tOrd A → tOrd B → tOrd (tUn R s n A B)
  | 0, _, _, _, _ => trivial
  | _ + 1, .leaf, _, _, b => b
  | _ + 1, .inner _ _ _ _ _, .leaf, a, _ => a
  | n + 1, .inner t k v l r, .inner t' k' v' l' r', a, b => by
    unfold tUn
    split
    · exact ⟨tAll_un n (tLo_lt a) b.1, tAll_un n (tHi_gt a) b.2.1, tOrd_un n (tOrd_lo a) b.2.2.1, tOrd_un n (tOrd_hi a) b.2.2.2⟩
    · exact ⟨tAll_un n a.1 (tLo_lt b), tAll_un n a.2.1 (tHi_gt b), tOrd_un n a.2.2.1 (tOrd_lo b), tOrd_un n a.2.2.2 (tOrd_hi b)⟩
/-- all of a tree but what has the key k ranks below k, if its top does or has it -/
theorem tLo_rk {R : Int32 → Int32} (hR : ∀ a b, R a = R b → a = b) {s : Nat} {k : Int32} {A : tT} (o : tOrd A) (h : tHp R A) (ht : tAll (fun q => R q ≤ R k) A) : tAll (fun q => R q < R k) (tLo s k A) ∧ tAll (fun q => R q < R k) (tHi s k A) := by
  have both : ∀ {T : tT}, tAll (fun q => R q ≤ R k) T → tAll (fun q => ¬ q = k) T → tAll (fun q => R q < R k) T := by
    intro T
    induction T with
    | leaf => intros; trivial
    | inner t k' v' l r il ir =>
      intro a b
      refine ⟨?_, il a.2.1 b.2.1, ir a.2.2 b.2.2⟩
      rcases Int32.lt_or_eq_of_le a.1 with c | c
      · exact c
      · exact absurd (hR _ _ c) b.1
  exact ⟨both (tAll_lo ht) (tAll_imp (fun q z e => by subst e; exact Int32.lt_irrefl z) (tLo_lt o)), both (tAll_hi ht) (tAll_imp (fun q z e => by subst e; exact Int32.lt_irrefl z) (tHi_gt o))⟩
theorem tHp_un {R : Int32 → Int32} (hR : ∀ a b, R a = R b → a = b) {s : Nat} : ∀ n {A B : tT}, tOrd A → tOrd B → tHp R A → tHp R B → tHp R (tUn R s n A B)
  | 0, _, _, _, _, _, _ => trivial
  | _ + 1, .leaf, _, _, _, _, b => b
  | _ + 1, .inner _ _ _ _ _, .leaf, _, _, a, _ => a
  | n + 1, .inner t k v l r, .inner t' k' v' l' r', oa, ob, a, b => by
    unfold tUn
    split
    · rename_i c
      have ha : tAll (fun q => R q ≤ R k') (Std.DTreeMap.Internal.Impl.inner t k v l r : tT) := ⟨c, tAll_imp (fun q z => Int32.le_trans (Int32.le_of_lt z) c) a.1, tAll_imp (fun q z => Int32.le_trans (Int32.le_of_lt z) c) a.2.1⟩
      have hb := tLo_rk (s := s) hR oa a ha
      exact ⟨tAll_un n hb.1 b.1, tAll_un n hb.2 b.2.1, tHp_un hR n (tOrd_lo oa) ob.2.2.1 (tHp_lo a) b.2.2.1, tHp_un hR n (tOrd_hi oa) ob.2.2.2 (tHp_hi a) b.2.2.2⟩
    · rename_i c
      have c := Int32.le_of_lt (Int32.not_le.mp c)
      have hb0 : tAll (fun q => R q ≤ R k) (Std.DTreeMap.Internal.Impl.inner t' k' v' l' r' : tT) := ⟨c, tAll_imp (fun q z => Int32.le_trans (Int32.le_of_lt z) c) b.1, tAll_imp (fun q z => Int32.le_trans (Int32.le_of_lt z) c) b.2.1⟩
      have hb := tLo_rk (s := s) hR ob b hb0
      exact ⟨tAll_un n a.1 hb.1, tAll_un n a.2.1 hb.2, tHp_un hR n oa.2.2.1 (tOrd_lo ob) a.2.2.1 (tHp_lo b), tHp_un hR n oa.2.2.2 (tOrd_hi ob) a.2.2.2 (tHp_hi b)⟩
