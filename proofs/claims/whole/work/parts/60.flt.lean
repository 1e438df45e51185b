theorem fl_rr {s : Bool} {c d : Nat} {e : Int} : (∃ t, FP.Core.roundRatio FP.Core.b64 s c d e = .inf t) ∨ ∃ t a q, FP.Core.roundRatio FP.Core.b64 s c d e = .fin t a q ∧ a < 2 ^ 53 ∧ q ≤ 971 := by
  unfold FP.Core.roundRatio
  have hq : FP.Core.Fmt.qmax FP.Core.b64 = 971 := by decide +kernel
  have hm : FP.Core.Fmt.qmin FP.Core.b64 = -1074 := by decide +kernel
  have ht : FP.Core.Fmt.tails FP.Core.b64 = 2 ^ 52 := by decide +kernel
  have hp : FP.Core.b64.p = 53 := rfl
  by_cases h0 : c = 0
  · rw [if_pos h0, hm]
    exact Or.inr ⟨s, 0, -1074, rfl, by omega, by omega⟩
  · rw [if_neg h0]
    unfold FP.Core.roundAt FP.Core.settle FP.Core.bound
    rw [hq, hp, ht]
    split
    · split
      · exact Or.inr ⟨_, _, _, rfl, by assumption, by assumption⟩
      · exact Or.inl ⟨_, rfl⟩
    · split
      · exact Or.inr ⟨_, _, _, rfl, by omega, by assumption⟩
      · exact Or.inl ⟨_, rfl⟩
theorem fl_enc {d : FP.Core.Datum} (h : (∃ t, d = .inf t) ∨ ∃ t a q, d = .fin t a q ∧ a < 2 ^ 53 ∧ q ≤ 971) : FP.Core.encode FP.Core.b64 d % 2 ^ 63 ≤ 9218868437227405312 := by
  have hm : FP.Core.Fmt.qmin FP.Core.b64 = -1074 := by decide +kernel
  have ht : FP.Core.Fmt.tails FP.Core.b64 = 4503599627370496 := by decide +kernel
  have he : FP.Core.Fmt.exps FP.Core.b64 = 2048 := by decide +kernel
  rcases h with ⟨t, rfl⟩ | ⟨t, a, q, rfl, h1, h2⟩
  · unfold FP.Core.encode FP.Core.assemble
    rw [ht, he]
    cases t <;> decide +kernel
  · unfold FP.Core.encode FP.Core.assemble
    simp only [ht, he, hm]
    have : t.toNat = 0 ∨ t.toNat = 1 := by cases t <;> simp
    split <;> rcases this with e | e <;> rw [e] <;> omega
def flOK (n : Nat) : Bool := match FP.Core.decode FP.Core.b64 (UInt64.ofNat (FP.Core.fromInt FP.Core.b64 (Int.ofNat n))).toNat with
  | .fin _ c _ => n == 0 || c != 0
  | _ => false
theorem fl_tab : ∀ a, a < 64 → ∀ b, b < 64 → flOK (64 * a + b) = true := by decide +kernel
theorem fl_n64 {n m : Int} (h0 : 0 ≤ n) (h1 : n < 4096) (h2 : 0 < m) (h3 : m < 4096) : vf_n64 (FP.ddiv (FP.i2d (Int32.ofInt n)) (FP.i2d (Int32.ofInt m))) := by
  have tab : ∀ x : Int, 0 ≤ x → x < 4096 → ∃ s c q, FP.Core.decode FP.Core.b64 (FP.i2d (Int32.ofInt x)).toNat = .fin s c q ∧ (x ≠ 0 → c ≠ 0) := by
    intro x hx hy
    have g := fl_tab (x.toNat / 64) (by omega) (x.toNat % 64) (by omega)
    rw [show 64 * (x.toNat / 64) + x.toNat % 64 = x.toNat by omega] at g
    have e : FP.i2d (Int32.ofInt x) = UInt64.ofNat (FP.Core.fromInt FP.Core.b64 (Int.ofNat x.toNat)) := by
      show UInt64.ofNat (FP.Core.fromInt FP.Core.b64 (Int32.ofInt x).toInt) = _
      rw [i32_to (by unfold inR; omega)]
      congr 2
      exact (Int.toNat_of_nonneg hx).symm
    unfold flOK at g
    rw [e]
    split at g
    · rename_i s c q hd
      refine ⟨s, c, q, hd, fun hne hc => ?_⟩
      subst hc
      simp at g
      omega
    · cases g
  obtain ⟨s, c, q, hd, -⟩ := tab n h0 h1
  obtain ⟨t, d, r, hd2, hne⟩ := tab m (by omega) h3
  have hdz := hne (by omega)
  have key : FP.Core.div FP.Core.b64 (FP.i2d (Int32.ofInt n)).toNat (FP.i2d (Int32.ofInt m)).toNat % 2 ^ 63 ≤ 9218868437227405312 := by
    unfold FP.Core.div
    rw [hd, hd2]
    apply fl_enc
    unfold FP.Core.quotient
    dsimp only
    rw [if_neg hdz]
    exact fl_rr
  unfold vf_n64
  rw [UInt64.le_iff_toNat_le, UInt64.toNat_and]
  have e1 : (0x7fffffffffffffff : UInt64).toNat = 2 ^ 63 - 1 := by decide +kernel
  have e2 : (0x7ff0000000000000 : UInt64).toNat = 9218868437227405312 := by decide +kernel
  rw [e1, e2, Nat.and_two_pow_sub_one_eq_mod]
  show (UInt64.ofNat (FP.Core.div FP.Core.b64 (FP.i2d (Int32.ofInt n)).toNat (FP.i2d (Int32.ofInt m)).toNat)).toNat % 2 ^ 63 ≤ _
  rw [UInt64.toNat_ofNat', Nat.mod_mod_of_dvd _ (by decide)]
  exact key
