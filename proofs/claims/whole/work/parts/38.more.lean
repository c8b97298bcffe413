/-! the reference's first and last; sums over what is stopped -/
def fsN (p : Nat → Bool) (n : Nat) : Int32 := if cntN p n = 0 then -1 else nI (lowN p n)
def lsN (p : Nat → Bool) (n : Nat) : Int32 := if cntN p n = 0 then -1 else nI (hiN p n)
theorem lowN_le (p : Nat → Bool) : ∀ n, lowN p n ≤ n
  | 0 => Nat.le_refl _
  | n + 1 => by
    have := lowN_le p n
    unfold lowN
    by_cases h : p n = true
    · rw [if_pos h]
      by_cases q : cntN p n = 0
      · rw [if_pos q]; omega
      · rw [if_neg q]; omega
    · rw [if_neg h]; omega
theorem fsN_neg {p : Nat → Bool} {n : Nat} (hn : n ≤ 1000) : fsN p n < 0 ↔ cntN p n = 0 := by
  unfold fsN
  by_cases h : cntN p n = 0
  · rw [if_pos h]; exact ⟨fun _ => h, fun _ => by decide⟩
  · rw [if_neg h]; have := lowN_le p n; exact ⟨fun q => absurd q (nI_pos (by omega)), fun q => absurd q h⟩
theorem fs_f {p : Nat → Bool} {n : Nat} (h : p n = false) : cntN p (n + 1) = cntN p n ∧ fsN p (n + 1) = fsN p n ∧ lsN p (n + 1) = lsN p n := by
  simp [cntN, fsN, lsN, lowN, hiN, h]
theorem fs_t {p : Nat → Bool} {n : Nat} (h : p n = true) : cntN p (n + 1) = cntN p n + 1 ∧ lsN p (n + 1) = nI n := by
  simp [cntN, lsN, hiN, h]
theorem fs_z {p : Nat → Bool} {n : Nat} (hn : n ≤ 1000) (h : p n = true) (h0 : fsN p n < 0) : fsN p (n + 1) = nI n := by
  have := (fsN_neg hn).mp h0
  simp [cntN, fsN, lowN, h, this]
theorem fs_n {p : Nat → Bool} {n : Nat} (hn : n ≤ 1000) (h : p n = true) (h0 : ¬ fsN p n < 0) : fsN p (n + 1) = fsN p n := by
  have : ¬ cntN p n = 0 := fun q => h0 ((fsN_neg hn).mpr q)
  simp [cntN, fsN, lowN, h, this]
