theorem xbr_t {P A B : Prop} (h : P) : br P A B = A := propext ⟨fun k => k.1 h, fun k => ⟨fun _ => k, fun n => absurd h n⟩⟩
theorem xbr_f {P A B : Prop} (h : ¬ P) : br P A B = B := propext ⟨fun k => k.2 h, fun k => ⟨fun p => absurd p h, fun _ => k⟩⟩
theorem xst1 {ls : List AV} {k : Nat} {v : AV} {f : List AV → Prop} : st1 ls k v f = (k < ls.length ∧ nc2 ls k ∧ f (ls.set k v)) := rfl
theorem xst2 {ls : List AV} {k : Nat} {v : AV} {f : List AV → Prop} : st2 ls k v f = (k + 1 < ls.length ∧ nc2 ls k ∧ f ((ls.set k v).set (k + 1) vj)) := rfl
theorem xrd {c i : Nat} {j : Int} {σ : Sto} {f : AV → Prop} : rd c i j σ f = (c < 15 ∧ i < cnt c ∧ 0 ≤ j ∧ j < alen c i ∧ f (vi (σ c i j.toNat))) := rfl
section XF
variable {P : Par} {K : Option AV → Sto → Prop} {X : Nat → Nat → List AV → Sto → Nat → Prop} {N : Nat → List AV → List AV → Sto → Nat → Prop} {pc : Nat} {ls r : List AV} {σ : Sto} {k idx mc rc M : Nat} {sp : Spec}
theorem xinv1 {v1 : AV} (h : List.lookup idx P.2.1 = some (1, mc, rc + 1, sp)) (hm : P.2.2.2.2.2.1 = M) : stepf P K X N (.invokevirtual idx) 3 pc ls (v1 :: r) σ k = (rcv (rc + 1) [v1] ∧ r.length ≤ 4 ∧ k + mc ≤ M ∧ sp [v1] σ (fun x σ' => N (pc + 3) ls (x.toList ++ r) σ' (k + mc)) (fun e σ' => X pc e ls σ' (k + mc))) := by
  rw [sf_inv h hm]; simp
theorem xins1 {v1 : AV} (h : List.lookup idx P.2.1 = some (1, mc, 0, sp)) (hm : P.2.2.2.2.2.1 = M) : stepf P K X N (.invokestatic idx) 3 pc ls (v1 :: r) σ k = (r.length ≤ 4 ∧ k + mc ≤ M ∧ sp [v1] σ (fun x σ' => N (pc + 3) ls (x.toList ++ r) σ' (k + mc)) (fun e σ' => X pc e ls σ' (k + mc))) := by
  rw [sf_ins h hm]; simp
theorem xinv2 {v1 v2 : AV} (h : List.lookup idx P.2.1 = some (2, mc, rc + 1, sp)) (hm : P.2.2.2.2.2.1 = M) : stepf P K X N (.invokevirtual idx) 3 pc ls (v2 :: v1 :: r) σ k = (rcv (rc + 1) [v1, v2] ∧ r.length ≤ 4 ∧ k + mc ≤ M ∧ sp [v1, v2] σ (fun x σ' => N (pc + 3) ls (x.toList ++ r) σ' (k + mc)) (fun e σ' => X pc e ls σ' (k + mc))) := by
  rw [sf_inv h hm]; simp
theorem xins2 {v1 v2 : AV} (h : List.lookup idx P.2.1 = some (2, mc, 0, sp)) (hm : P.2.2.2.2.2.1 = M) : stepf P K X N (.invokestatic idx) 3 pc ls (v2 :: v1 :: r) σ k = (r.length ≤ 4 ∧ k + mc ≤ M ∧ sp [v1, v2] σ (fun x σ' => N (pc + 3) ls (x.toList ++ r) σ' (k + mc)) (fun e σ' => X pc e ls σ' (k + mc))) := by
  rw [sf_ins h hm]; simp
theorem xinv3 {v1 v2 v3 : AV} (h : List.lookup idx P.2.1 = some (3, mc, rc + 1, sp)) (hm : P.2.2.2.2.2.1 = M) : stepf P K X N (.invokevirtual idx) 3 pc ls (v3 :: v2 :: v1 :: r) σ k = (rcv (rc + 1) [v1, v2, v3] ∧ r.length ≤ 4 ∧ k + mc ≤ M ∧ sp [v1, v2, v3] σ (fun x σ' => N (pc + 3) ls (x.toList ++ r) σ' (k + mc)) (fun e σ' => X pc e ls σ' (k + mc))) := by
  rw [sf_inv h hm]; simp
theorem xins3 {v1 v2 v3 : AV} (h : List.lookup idx P.2.1 = some (3, mc, 0, sp)) (hm : P.2.2.2.2.2.1 = M) : stepf P K X N (.invokestatic idx) 3 pc ls (v3 :: v2 :: v1 :: r) σ k = (r.length ≤ 4 ∧ k + mc ≤ M ∧ sp [v1, v2, v3] σ (fun x σ' => N (pc + 3) ls (x.toList ++ r) σ' (k + mc)) (fun e σ' => X pc e ls σ' (k + mc))) := by
  rw [sf_ins h hm]; simp
theorem xinv4 {v1 v2 v3 v4 : AV} (h : List.lookup idx P.2.1 = some (4, mc, rc + 1, sp)) (hm : P.2.2.2.2.2.1 = M) : stepf P K X N (.invokevirtual idx) 3 pc ls (v4 :: v3 :: v2 :: v1 :: r) σ k = (rcv (rc + 1) [v1, v2, v3, v4] ∧ r.length ≤ 4 ∧ k + mc ≤ M ∧ sp [v1, v2, v3, v4] σ (fun x σ' => N (pc + 3) ls (x.toList ++ r) σ' (k + mc)) (fun e σ' => X pc e ls σ' (k + mc))) := by
  rw [sf_inv h hm]; simp
theorem xins4 {v1 v2 v3 v4 : AV} (h : List.lookup idx P.2.1 = some (4, mc, 0, sp)) (hm : P.2.2.2.2.2.1 = M) : stepf P K X N (.invokestatic idx) 3 pc ls (v4 :: v3 :: v2 :: v1 :: r) σ k = (r.length ≤ 4 ∧ k + mc ≤ M ∧ sp [v1, v2, v3, v4] σ (fun x σ' => N (pc + 3) ls (x.toList ++ r) σ' (k + mc)) (fun e σ' => X pc e ls σ' (k + mc))) := by
  rw [sf_ins h hm]; simp
theorem xinv5 {v1 v2 v3 v4 v5 : AV} (h : List.lookup idx P.2.1 = some (5, mc, rc + 1, sp)) (hm : P.2.2.2.2.2.1 = M) : stepf P K X N (.invokevirtual idx) 3 pc ls (v5 :: v4 :: v3 :: v2 :: v1 :: r) σ k = (rcv (rc + 1) [v1, v2, v3, v4, v5] ∧ r.length ≤ 4 ∧ k + mc ≤ M ∧ sp [v1, v2, v3, v4, v5] σ (fun x σ' => N (pc + 3) ls (x.toList ++ r) σ' (k + mc)) (fun e σ' => X pc e ls σ' (k + mc))) := by
  rw [sf_inv h hm]; simp
theorem xins5 {v1 v2 v3 v4 v5 : AV} (h : List.lookup idx P.2.1 = some (5, mc, 0, sp)) (hm : P.2.2.2.2.2.1 = M) : stepf P K X N (.invokestatic idx) 3 pc ls (v5 :: v4 :: v3 :: v2 :: v1 :: r) σ k = (r.length ≤ 4 ∧ k + mc ≤ M ∧ sp [v1, v2, v3, v4, v5] σ (fun x σ' => N (pc + 3) ls (x.toList ++ r) σ' (k + mc)) (fun e σ' => X pc e ls σ' (k + mc))) := by
  rw [sf_ins h hm]; simp
theorem xinv6 {v1 v2 v3 v4 v5 v6 : AV} (h : List.lookup idx P.2.1 = some (6, mc, rc + 1, sp)) (hm : P.2.2.2.2.2.1 = M) : stepf P K X N (.invokevirtual idx) 3 pc ls (v6 :: v5 :: v4 :: v3 :: v2 :: v1 :: r) σ k = (rcv (rc + 1) [v1, v2, v3, v4, v5, v6] ∧ r.length ≤ 4 ∧ k + mc ≤ M ∧ sp [v1, v2, v3, v4, v5, v6] σ (fun x σ' => N (pc + 3) ls (x.toList ++ r) σ' (k + mc)) (fun e σ' => X pc e ls σ' (k + mc))) := by
  rw [sf_inv h hm]; simp
theorem xins6 {v1 v2 v3 v4 v5 v6 : AV} (h : List.lookup idx P.2.1 = some (6, mc, 0, sp)) (hm : P.2.2.2.2.2.1 = M) : stepf P K X N (.invokestatic idx) 3 pc ls (v6 :: v5 :: v4 :: v3 :: v2 :: v1 :: r) σ k = (r.length ≤ 4 ∧ k + mc ≤ M ∧ sp [v1, v2, v3, v4, v5, v6] σ (fun x σ' => N (pc + 3) ls (x.toList ++ r) σ' (k + mc)) (fun e σ' => X pc e ls σ' (k + mc))) := by
  rw [sf_ins h hm]; simp
end XF
