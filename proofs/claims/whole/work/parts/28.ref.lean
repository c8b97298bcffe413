/-! the reference: rounds, sets, orders -/
theorem ot_k {S : Nat → Int32} (w : wf S) {i k : Nat} (hi : i < gcN S) (hk : k < 6) : S (11 + 8 * i) = nI k ↔ (¬ S (11 + 8 * i) = -1 ∧ otN S i = k) := by
  constructor
  · intro h
    have hn : ¬ S (11 + 8 * i) = -1 := fun q => by
      rw [h] at q
      have := nI_toInt (n := k) (by omega)
      rw [q] at this
      have e : (-1 : Int32).toInt = -1 := by decide
      omega
    refine ⟨hn, ?_⟩
    have := wf_ot w hi hn
    have ho := wf_ot6 w hi hn
    rw [h] at this
    exact ((nI_eq (by omega) (by omega)).mp this).symm
  · rintro ⟨h, rfl⟩
    exact wf_ot w hi h
theorem pop_low : ∀ f m, m < 2 ^ f → m ≠ 0 → popc f (m &&& (m - 1)) + 1 = popc f m
  | 0, m, h, h0 => by omega
  | f + 1, m, h, h0 => by
    have e : (2 : Nat) ^ (f + 1) = 2 * 2 ^ f := by rw [Nat.pow_succ]; omega
    by_cases c : m % 2 = 1
    · have a := and_e 1 (m / 2) 0 (m / 2) (by omega) (by omega)
      rw [show 1 + 2 * (m / 2) = m by omega, show 0 + 2 * (m / 2) = m - 1 by omega, show 1 &&& 0 = 0 from rfl, Nat.and_self] at a
      rw [a]
      unfold popc
      rw [show (0 + 2 * (m / 2)) % 2 = 0 by omega, show (0 + 2 * (m / 2)) / 2 = m / 2 by omega]; omega
    · have a := and_e 0 (m / 2) 1 (m / 2 - 1) (by omega) (by omega)
      rw [show 0 + 2 * (m / 2) = m by omega, show 1 + 2 * (m / 2 - 1) = m - 1 by omega, show 0 &&& 1 = 0 from rfl] at a
      rw [a]
      have ih := pop_low f (m / 2) (by omega) (by omega)
      unfold popc
      rw [show (0 + 2 * (m / 2 &&& (m / 2 - 1))) % 2 = 0 by omega, show (0 + 2 * (m / 2 &&& (m / 2 - 1))) / 2 = (m / 2 &&& (m / 2 - 1)) by omega]; omega
theorem and_lt' {m : Nat} (h : m ≠ 0) : m &&& (m - 1) < m := by
  have : m &&& (m - 1) ≤ m - 1 := Nat.and_le_right
  omega
theorem shS_lo (S : Nat → Int32) (v : Int32) (m n : Nat) {k : Nat} (h : k < 16) : shS S v m n k = S k := by rw [shS_k, if_neg (by omega)]
def opB (S : Nat → Int32) (m : Nat) : Nat → Bool
  | 0 => true
  | n + 1 => opB S m n && (!(m.testBit n) || decide (S (16 + 8 * n) = 0))
theorem opB_iff (S : Nat → Int32) (m : Nat) : ∀ n, opB S m n = true ↔ opn S m n
  | 0 => ⟨fun _ g h => absurd h (Nat.not_lt_zero g), fun _ => rfl⟩
  | n + 1 => by
    have ih := opB_iff S m n
    unfold opB
    rw [Bool.and_eq_true, ih]
    constructor
    · rintro ⟨h1, h2⟩ g hg hb
      by_cases e : g = n
      · subst e; simpa [hb] using h2
      · exact h1 g (by omega) hb
    · intro h
      refine ⟨fun g hg hb => h g (by omega) hb, ?_⟩
      by_cases b : m.testBit n = true
      · simp [h n (by omega) b]
      · simp [b]
abbrev stOk (S : Nat → Int32) (m : Nat) : Prop := m < 2 ^ gcN S ∧ pop m ≤ 10 ∧ opB S m (gcN S) = true
theorem set_in {n m : Nat} (hn : n ≤ 20) (hm : m < 2 ^ 32) : (0 ≤ nI m ∧ nI m ≤ nI (2 ^ n) - 1) ↔ m < 2 ^ n := by
  have hp : 2 ^ n ≤ 2 ^ 20 := Nat.pow_le_pow_right (by decide) hn
  rw [pred_lt (by omega)]
  constructor
  · rintro ⟨h1, h2⟩
    obtain ⟨j, hj, e⟩ := nI_of (x := nI m) (by have := h1; rw [Int32.le_iff_toInt_le] at this; rw [Int32.lt_iff_toInt_lt] at h2 ⊢; rw [nI_toInt (n := 2 ^ n) (by omega)] at h2; omega)
    have : m = j := by have q := congrArg (fun z : Int32 => z.toUInt32.toNat) e; simpa only [nI_u hm, nI_u (show j < 2 ^ 32 by omega)] using q
    subst this
    exact (nI_ltI hj (by omega)).mp h2
  · intro h
    exact ⟨nI_pos' (by omega), (nI_ltI (by omega) (by omega)).mpr h⟩
theorem shS_one {S : Nat → Int32} {v : Int32} {g n : Nat} (hg : g < n) : shS S v (2 ^ g) n = upd S (16 + 8 * g) v := funext fun k => by
  rw [shS_k]
  by_cases e : k = 16 + 8 * g
  · subst e
    rw [upd_s, if_pos]
    refine ⟨by omega, ?_⟩
    rw [show (16 + 8 * g - 16) / 8 = g by omega, Nat.testBit_two_pow_self]
  · rw [upd_n e, if_neg]
    rintro ⟨h1, h2⟩
    rw [Nat.testBit_two_pow] at h2
    have := of_decide_eq_true h2
    omega
theorem opB_le {S : Nat → Int32} {m n i : Nat} (h : i ≤ n) (q : opB S m n = true) : opB S m i = true := by
  rw [opB_iff] at q ⊢
  exact fun g hg => q g (by omega)
