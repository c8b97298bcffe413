/-! the class's four sheets in one block; what a sheet's calls ask -/
abbrev shB (cy : Nat → ClassId) (qq : Nat → Nat) (bi si : Nat → Int32) (f : Nat → Nat → Int64) : va_W := [(qq 0, .inl (cy 3, 4, .inr (.inr (.inr (.inr (fun i => if i < 4 then some (qq (1 + i)) else none)))))), (qq 1, .inr (2, [.ref (qq 5), .int (bi 0), .int (si 0)])), (qq 2, .inr (2, [.ref (qq 6), .int (bi 1), .int (si 1)])), (qq 3, .inr (2, [.ref (qq 7), .int (bi 2), .int (si 2)])), (qq 4, .inr (2, [.ref (qq 8), .int (bi 3), .int (si 3)])), (qq 5, .inl (cy 1, 40, .inr (.inl (f 0)))), (qq 6, .inl (cy 1, 40, .inr (.inl (f 1)))), (qq 7, .inl (cy 1, 40, .inr (.inl (f 2)))), (qq 8, .inl (cy 1, 40, .inr (.inl (f 3))))]
abbrev qsB (cy : Nat → ClassId) (qq : Nat → Nat) : Nat × va_E := (qq 0, .inl (cy 3, 4, .inr (.inr (.inr (.inr (fun i => if i < 4 then some (qq (1 + i)) else none))))))
def wrR (bi : Nat → Int32) (x : Int32) : Int32 := if 0 ≤ x ∧ x ≤ 3 then (if bi (bstN x) = 0 then -1000000006 else 0) else -1000000001
theorem wr_c (bi : Nat → Int32) (x : Int32) : (¬ (0 ≤ x ∧ x ≤ 3) ∧ wrR bi x = -1000000001) ∨ ((0 ≤ x ∧ x ≤ 3) ∧ bi (bstN x) = 0 ∧ wrR bi x = -1000000006) ∨ ((0 ≤ x ∧ x ≤ 3) ∧ ¬ bi (bstN x) = 0 ∧ wrR bi x = 0) := by
  unfold wrR
  by_cases h : 0 ≤ x ∧ x ≤ 3
  · rw [if_pos h]
    by_cases q : bi (bstN x) = 0
    · rw [if_pos q]; exact Or.inr (Or.inl ⟨h, q, rfl⟩)
    · rw [if_neg q]; exact Or.inr (Or.inr ⟨h, q, rfl⟩)
  · rw [if_neg h]; exact Or.inl ⟨h, rfl⟩
theorem lg_eq {x y : Int64} : lg_cmp x y = 0 ↔ x = y := lg_cmp_eq x y
theorem sub_le {a s b : Nat} (ha : a < 2 ^ 31) (hs : s < 2 ^ 31) (hb : b < 2 ^ 31) : nI b ≤ nI s - nI a ↔ a + b ≤ s := by
  rw [Int32.le_iff_toInt_le, Int32.toInt_sub, nI_toInt ha, nI_toInt hs, nI_toInt hb, Int.bmod_eq_of_le (by omega) (by omega)]
  omega
theorem row_n {a s b : Nat} (ha : a < 2 ^ 31) (hs : s < 2 ^ 31) (hb : b < 2 ^ 31) : (nI b ≤ nI s ∧ nI a ≤ nI s - nI b) ↔ a + b ≤ s := by
  rw [nI_leI hb hs, sub_le hb hs ha]
  omega
theorem row_eq {y n : Int32} {s : Nat} (hs : s < 2 ^ 31) : (0 ≤ y ∧ 0 ≤ n ∧ n ≤ nI s ∧ y ≤ nI s - n) ↔ (0 ≤ y ∧ 0 ≤ n ∧ n ≤ nI s - y) := by
  constructor
  · rintro ⟨h1, h2, h3⟩
    obtain ⟨a, ha, rfl⟩ := nI_ge0 h1
    obtain ⟨b, hb, rfl⟩ := nI_ge0 h2
    exact ⟨h1, h2, (sub_le ha hs hb).mpr ((row_n ha hs hb).mp h3)⟩
  · rintro ⟨h1, h2, h3⟩
    obtain ⟨a, ha, rfl⟩ := nI_ge0 h1
    obtain ⟨b, hb, rfl⟩ := nI_ge0 h2
    exact ⟨h1, h2, (row_n ha hs hb).mpr ((sub_le ha hs hb).mp h3)⟩
theorem row_at {y n : Int32} {s : Nat} (hs : s < 2 ^ 31) (h : 0 ≤ y ∧ 0 ≤ n ∧ n ≤ nI s ∧ y ≤ nI s - n) : ∃ a b, a + b ≤ s ∧ y = nI a ∧ n = nI b := by
  obtain ⟨h1, h2, h3⟩ := h
  obtain ⟨a, ha, rfl⟩ := nI_ge0 h1
  obtain ⟨b, hb, rfl⟩ := nI_ge0 h2
  exact ⟨a, b, (row_n ha hs hb).mp h3, rfl, rfl⟩
theorem va_up_s {α : Type} (f : Nat → α) (i : Nat) : va_up f i (f i) = f := funext fun j => by
  unfold va_up
  by_cases h : j = i
  · subst h; rw [if_pos rfl]
  · rw [if_neg h]
theorem va_up_i {α : Type} (f : Nat → α) (i : Nat) (x : α) : va_up f i x i = x := if_pos rfl
theorem va_cpy_0 (F G : Nat → Int64) (a b : Nat) : G = va_cpy F G a b 0 := funext fun j => by
  rw [va_cpy, if_neg (by omega)]
theorem va_cpy_s (F G : Nat → Int64) (a b i : Nat) : vp_updL (va_cpy F G a b i) (b + i) (F (a + i)) = va_cpy F G a b (i + 1) := funext fun j => by
  unfold vp_updL va_cpy
  by_cases h : j = b + i
  · subst h; rw [if_pos rfl, if_pos (by omega)]; congr 1; omega
  · rw [if_neg h]
    by_cases q : b ≤ j ∧ j < b + i
    · rw [if_pos q, if_pos (by omega)]
    · rw [if_neg q, if_neg (by omega)]
def filL (F g : Nat → Int64) (i : Nat) : Nat → Int64 := fun j => if j < i then F j else g j
theorem filL_0 (F g : Nat → Int64) : g = filL F g 0 := funext fun j => by unfold filL; rw [if_neg (by omega)]
theorem filL_s (F g : Nat → Int64) (i : Nat) : vp_updL (filL F g i) i (F i) = filL F g (i + 1) := funext fun j => by
  unfold filL vp_updL
  grind
theorem filL_in {F g : Nat → Int64} {i j : Nat} (h : j < i) : filL F g i j = F j := if_pos h
theorem minN_u {a b i : Nat} (h1 : i ≤ a) (h2 : i ≤ b) (h3 : a ≤ i ∨ b ≤ i) : minN a b = i := by
  unfold minN
  by_cases h : a < b
  · rw [if_pos h]; omega
  · rw [if_neg h]; omega
theorem minN_b (a b : Nat) : minN a b ≤ a ∧ minN a b ≤ b := minN_l a b
theorem shOk_0 : shOk (fun _ => 0) (fun _ _ => 0) := fun i _ => ⟨rfl, Nat.zero_le _, fun _ _ => rfl⟩
theorem nI_k3 {k : Nat} (h : k < 4) : nI k = nI k ∧ k ≤ 3 := ⟨rfl, by omega⟩
