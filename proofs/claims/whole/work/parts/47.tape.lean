/-! the tape as it is fed; images -/
theorem byt_u {m i : Nat} (hm : m < 2 ^ 32) (hi : i < 4) : (((nI m).toUInt32 >>> ((nI (8 * i)).toUInt32 &&& Int32.toUInt32 31)).toInt32 &&& 255) = byt (nI m) i := by
  unfold byt
  rw [ux_n hm]
  exact (congrArg (fun z => z &&& 255) (ush_n hm (by omega))).trans ((nx_and _ 255).trans (congrArg nI (and_255 _)))
theorem byt_s {m i : Nat} (hm : m < 2 ^ 32) (hi : i < 4) : ((nI m >>> (nI (8 * i) &&& 31)) &&& 255) = byt (nI m) i := by
  unfold byt
  rw [ux_n hm]
  exact sar_n hm hi
theorem fd_go {k i : Nat} (hk : k < 2 ^ 31) (h : ¬ nI (k - i) - 1 < 0) : i < k := by
  have := mt (nI_m1_neg (i := k - i) (by omega)).mpr h
  omega
theorem fd_l {k i : Nat} (h : i < k) : nI (k - 1 - i) = nI (k - i) - 1 := by
  rw [show k - i = (k - 1 - i) + 1 by omega, nI_s1]
theorem fd_n {k i : Nat} : nI (k - (i + 1)) - 1 = nI (k - 1 - i) + (-1) := by
  rw [pk_s1, show k - (i + 1) = k - 1 - i by omega]
theorem fd_e {k i : Nat} (hk : k < 2 ^ 31) (hi : i ≤ k) (h : nI (k - i) - 1 < 0) : k = i := by
  have := (nI_m1_neg (i := k - i) (by omega)).mp h
  omega
theorem S0_upd : (upd (upd (upd (fun _ => 0) 2 10) 6 5) 8 1) = S0 := funext fun k => by
  unfold S0 upd
  grind
theorem cFeed_0 {x : Int32} {n : Nat} (h : ¬ (1 ≤ x ∧ x ≤ 4)) : cFeed x n = 0 := if_neg h
theorem cFeed_1 {k n : Nat} (h1 : 1 ≤ k) (h4 : k ≤ 4) (h : 120 < n + k) : cFeed (nI k) n = 1 := by
  unfold cFeed
  rw [if_pos ⟨(nI_leI (a := 1) (by decide) (by omega)).mpr h1, (nI_leI (b := 4) (by omega) (by decide)).mpr h4⟩, bst_n (by omega), if_pos h]
theorem cFeed_7 {k n : Nat} (h1 : 1 ≤ k) (h4 : k ≤ 4) (h : ¬ 120 < n + k) : cFeed (nI k) n = 7 := by
  unfold cFeed
  rw [if_pos ⟨(nI_leI (a := 1) (by decide) (by omega)).mpr h1, (nI_leI (b := 4) (by omega) (by decide)).mpr h4⟩, bst_n (by omega), if_neg h]
theorem in14 {x : Int32} (h : 1 ≤ x ∧ x ≤ 4) : ∃ k, x = nI k ∧ 1 ≤ k ∧ k ≤ 4 := by
  obtain ⟨k, hk, rfl⟩ := nI_ge0 (Int32.le_trans (by decide) h.1)
  exact ⟨k, rfl, (nI_leI (a := 1) (by decide) hk).mp h.1, (nI_leI (b := 4) hk (by decide)).mp h.2⟩
