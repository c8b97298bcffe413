/-! the reference: what its tests and its numbers say -/
theorem i64_le (a b : Int32) : a.toInt64 ≤ b.toInt64 ↔ a ≤ b := by
  rw [Int64.le_iff_toInt_le, Int32.le_iff_toInt_le, Int32.toInt_toInt64, Int32.toInt_toInt64]
theorem in_c {a lo hi : Int32} {l h : Int64} (e1 : lo.toInt64 = l) (e2 : hi.toInt64 = h) : (l ≤ a.toInt64 ∧ a.toInt64 ≤ h) ↔ (lo ≤ a ∧ a ≤ hi) := by
  rw [← e1, ← e2, i64_le, i64_le]
theorem lt_in {x l h : Int64} : (¬ lg_cmp x l < 0 ∧ ¬ 0 < lg_cmp x h) ↔ (l ≤ x ∧ x ≤ h) := by
  rw [lg_cmp_lt, lg_cmp_gt, Int64.not_lt, Int64.not_lt]
theorem pred_lt {g : Int32} {n : Nat} (hn : n < 2 ^ 31) : g ≤ nI n - 1 ↔ g < nI n := by
  have e : (nI n - 1).toInt = (n : Int) - 1 := by
    rw [show nI n - 1 = nI n - nI 1 from rfl]
    rw [Int32.toInt_sub, nI_toInt (by omega), nI_toInt (by decide)]
    rw [Int.bmod_eq_of_le (by omega) (by omega)]; rfl
  rw [Int32.le_iff_toInt_le, Int32.lt_iff_toInt_lt, e, nI_toInt (by omega)]
  omega
theorem nI_s1 (n : Nat) : nI (n + 1) - 1 = nI n := by
  rw [show (1 : Int32) = nI 1 from rfl, pk_sub (by omega)]; rfl
theorem wf_gap {S : Nat → Int32} (w : wf S) {g : Int32} (h : 0 ≤ g ∧ g < S 1) : ∃ j, j < gcN S ∧ g = nI j := by
  rw [wf_g w] at h
  have g20 := wf_g20 w
  obtain ⟨j, hj, rfl⟩ := nI_of (x := g) (by have := h.1; rw [Int32.le_iff_toInt_le] at this; have h2 := h.2; rw [Int32.lt_iff_toInt_lt] at h2 ⊢; rw [nI_toInt (by omega)] at h2; omega)
  exact ⟨j, (nI_ltI hj (by omega)).mp h.2, rfl⟩
theorem wf_room {S : Nat → Int32} (w : wf S) {g : Int32} (h : 0 ≤ g ∧ g < S 0) : ∃ j, j < rcN S ∧ g = nI j := by
  rw [wf_r w] at h
  have g20 := wf_r6 w
  obtain ⟨j, hj, rfl⟩ := nI_of (x := g) (by have := h.1; rw [Int32.le_iff_toInt_le] at this; have h2 := h.2; rw [Int32.lt_iff_toInt_lt] at h2 ⊢; rw [nI_toInt (by omega)] at h2; omega)
  exact ⟨j, (nI_ltI hj (by omega)).mp h.2, rfl⟩
theorem in4 {a : Int32} (h : 0 ≤ a ∧ a < 4) : a = 0 ∨ a = 1 ∨ a = 2 ∨ a = 3 := by
  rcases kind_cases a with rfl | rfl | rfl | rfl | rfl | rfl | q
  · simp
  · simp
  · simp
  · simp
  · exact absurd h.2 (by decide)
  · exact absurd h.2 (by decide)
  · exfalso; apply q; refine ⟨h.1, ?_⟩
    have := h.2; rw [Int32.lt_iff_toInt_lt] at this ⊢
    have e1 : (4 : Int32).toInt = 4 := by decide
    have e2 : (6 : Int32).toInt = 6 := by decide
    omega
/-- the wind on a side, in the reference's words -/
theorem turn_w {S : Nat → Int32} {d : Int32} (h1 : 0 ≤ S 4 ∧ S 4 < 4) (h2 : 0 ≤ d ∧ d < 4) : (if (S 4 - d + 4) - (S 4 - d + 4) / 4 * 4 = 0 then S 3 else if (S 4 - d + 4) - (S 4 - d + 4) / 4 * 4 = 2 then 0 - S 3 / 2 else 0 - S 3 / 4) = windOn S d := by
  unfold windOn
  generalize S 4 = a at h1 ⊢
  have z : ∀ x : Int32, -x = 0 - x := fun x => by grind
  rw [z, z]
  rcases in4 h1 with rfl | rfl | rfl | rfl <;> rcases in4 h2 with rfl | rfl | rfl | rfl <;> rfl
