section LX
variable {d : Nat} {S : mv_S} {P : Option Value → mv_S → Prop}
set_option maxHeartbeats 4000000 in
set_option maxRecDepth 100000 in
theorem x_make {k v l g : Int32} (h1 : ¬ xCpOk S 0 → P (some (.int 0)) (mv_pf S 3 15 1)) (h2 : xCpOk S 0 → P (some (.int (xFr S))) (xMk S (xFr S).toNatClampNeg k v l g)) : mv_big layX sysX (d + 2) 10 [.ref 3, .int k, .int v, .int l, .int g] S P := by
  refine ⟨80, ?_⟩
  refine x_copy (fun c => ?_) (fun c => ?_)
  · exact ⟨fun _ => h1 c, fun z => absurd (show (0 : Int32) ≤ 0 by decide) z⟩
  · have hp : 0 < xFr S := Int32.lt_of_lt_of_le (by decide) c.1.1
    have hf : vp_in (xFr S) 803 := vp_pos (by decide) hp c.1.2
    refine ⟨fun z => absurd hp (Int32.not_lt.mpr z), fun _ => ⟨fun z => absurd c.1.2 (Int32.not_lt.mpr z), fun _ => ⟨hf, hf, ?_⟩⟩⟩
    refine x_rankOf ?_
    exact ⟨hf, hf, hf, h2 c⟩
end LX
