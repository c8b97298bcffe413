/-! stops, orders, lines: the reference's walk by the same words -/
theorem sp_r {S : Nat → Int32} {m k : Nat} {co le : Int32} {dk : Nat} (hm : m < 2 ^ 20) (e : dk = dep 32 m k) :
    spB S m co le (k + 1) = (if (cst S dk (gcN S) ≤ co ∧ le ≤ fresh (shS S 1 dk (gcN S)) ∧ smokes (shS S 1 dk (gcN S)) = false) ∧ (spB S m co le k < 0 ∨ lost (shS S 1 dk (gcN S)) < spL S m co le k ∨ (lost (shS S 1 dk (gcN S)) = spL S m co le k ∧ pop dk < pop (bstN (spB S m co le k)))) then nI dk else spB S m co le k)
    ∧ spL S m co le (k + 1) = (if (cst S dk (gcN S) ≤ co ∧ le ≤ fresh (shS S 1 dk (gcN S)) ∧ smokes (shS S 1 dk (gcN S)) = false) ∧ (spB S m co le k < 0 ∨ lost (shS S 1 dk (gcN S)) < spL S m co le k ∨ (lost (shS S 1 dk (gcN S)) = spL S m co le k ∧ pop dk < pop (bstN (spB S m co le k)))) then lost (shS S 1 dk (gcN S)) else spL S m co le k) := by
  subst e
  have l := dep_le 32 m k (by omega)
  have hp : ¬ spB S m co le k < 0 → popI (spB S m co le k) = pop (bstN (spB S m co le k)) := fun h => by
    rcases spB_nat S hm co le k with q | ⟨n, hn, q⟩
    · exact absurd (by rw [q]; decide) h
    · rw [q, popI_n (by omega), bst_n (by omega)]
  have hiff : ((cst S (dep 32 m k) (gcN S) ≤ co ∧ le ≤ fresh (shS S 1 (dep 32 m k) (gcN S)) ∧ smokes (shS S 1 (dep 32 m k) (gcN S)) = false) ∧ (spB S m co le k < 0 ∨ lost (shS S 1 (dep 32 m k) (gcN S)) < spL S m co le k ∨ (lost (shS S 1 (dep 32 m k) (gcN S)) = spL S m co le k ∧ pop (dep 32 m k) < pop (bstN (spB S m co le k))))) ↔ (goodS S (dep 32 m k) co le ∧ bet (stP S m co le k).1 (stP S m co le k).2 (lost (shS S 1 (dep 32 m k) (gcN S))) (nI (dep 32 m k))) := by
    show _ ↔ (goodS S (dep 32 m k) co le ∧ bet (spB S m co le k) (spL S m co le k) (lost (shS S 1 (dep 32 m k) (gcN S))) (nI (dep 32 m k)))
    unfold bet goodS
    by_cases h : spB S m co le k < 0
    · exact ⟨fun z => ⟨z.1, Or.inl h⟩, fun z => ⟨z.1, Or.inl h⟩⟩
    · rw [hp h, popI_n (by omega)]
  by_cases q : (cst S (dep 32 m k) (gcN S) ≤ co ∧ le ≤ fresh (shS S 1 (dep 32 m k) (gcN S)) ∧ smokes (shS S 1 (dep 32 m k) (gcN S)) = false) ∧ (spB S m co le k < 0 ∨ lost (shS S 1 (dep 32 m k) (gcN S)) < spL S m co le k ∨ (lost (shS S 1 (dep 32 m k) (gcN S)) = spL S m co le k ∧ pop (dep 32 m k) < pop (bstN (spB S m co le k))))
  · have e2 := (stP_s S m co le k).trans (if_pos (hiff.mp q))
    rw [if_pos q, if_pos q]
    exact ⟨congrArg Prod.fst e2, congrArg Prod.snd e2⟩
  · have e2 := (stP_s S m co le k).trans (if_neg (fun z => q (hiff.mpr z)))
    rw [if_neg q, if_neg q]
    exact ⟨congrArg Prod.fst e2, congrArg Prod.snd e2⟩
theorem spB_b {S : Nat → Int32} {m k : Nat} {co le : Int32} (hm : m < 2 ^ 20) (h : ¬ spB S m co le k < 0) : spB S m co le k = nI (bstN (spB S m co le k)) ∧ bstN (spB S m co le k) < 2 ^ 20 := by
  rcases spB_nat S hm co le k with q | ⟨n, hn, q⟩
  · exact absurd (by rw [q]; decide) h
  · rw [q, bst_n (by omega)]; exact ⟨rfl, hn⟩
theorem st_ok {S : Nat → Int32} (w : wf S) {n : Nat} (h : stOk S n) : n < 2 ^ 20 ∧ 2 ^ pop n ≤ 1024 ∧ opn S n (gcN S) := by
  have h1 := wf_g20 w
  have h2 : 2 ^ gcN S ≤ 2 ^ 20 := Nat.pow_le_pow_right (by decide) h1
  have h3 : 2 ^ pop n ≤ 2 ^ 10 := Nat.pow_le_pow_right (by decide) h.2.1
  exact ⟨Nat.lt_of_lt_of_le h.1 h2, h3, (opB_iff S n _).mp h.2.2⟩
theorem div_0 {m n : Nat} (hm : m < 2 ^ 31) (h : nI (m / 2 ^ n) = 0) : m < 2 ^ n := by
  have h1 : m / 2 ^ n ≤ m := Nat.div_le_self _ _
  have h2 := wid_c0 (by omega) h
  exact Nat.lt_of_not_le (fun q => absurd (Nat.div_pos q (Nat.two_pow_pos n)) (by omega))
theorem shl_a {g : Nat} (hg : g < 31) : (1 : Int32) <<< (nI g &&& 31) = nI (2 ^ g) := shl_1 hg
theorem minN_l (a b : Nat) : minN a b ≤ a ∧ minN a b ≤ b := by
  unfold minN
  by_cases h : a < b
  · rw [if_pos h]; omega
  · rw [if_neg h]; omega
theorem min_nI {a b : Nat} (ha : a < 2 ^ 31) (hb : b < 2 ^ 31) : (if nI a < nI b then nI a else nI b) = nI (minN a b) := by
  unfold minN
  by_cases h : a < b
  · rw [if_pos h, if_pos ((nI_ltI ha hb).mpr h)]
  · rw [if_neg h, if_neg (fun q => h ((nI_ltI ha hb).mp q))]
theorem minN_ge {a b : Nat} (h : a ≤ b) : minN a b = a := by
  unfold minN
  by_cases q : a < b
  · rw [if_pos q]
  · rw [if_neg q]; omega
theorem minN_lt {a b : Nat} (h : b < a) : minN a b = b := by unfold minN; rw [if_neg (by omega)]
def vSaved (S : Nat → Int32) (k : Nat) : Int32 := hadS S (minN (ordK S) k)
def lnF (S : Nat → Int32) (i : Nat) : Int32 := if fst1 (fun w => smokes (upd S 3 (nI w))) (100 - i) i = 100 then -1 else nI (fst1 (fun w => smokes (upd S 3 (nI w))) (100 - i) i)
theorem lnF_100 (S : Nat → Int32) : lnF S 100 = -1 := rfl
theorem lnF_0 (S : Nat → Int32) : lnF S 0 = lineR S := rfl
theorem fst1_s (p : Nat → Bool) (f k : Nat) : fst1 p (f + 1) k = if p k = true then k else fst1 p f (k + 1) := rfl
theorem lnF_s {S : Nat → Int32} {i : Nat} (h : i < 100) : lnF S i = if smokes (upd S 3 (nI i)) = true then nI i else lnF S (i + 1) := by
  have e : fst1 (fun w => smokes (upd S 3 (nI w))) (100 - i) i = if smokes (upd S 3 (nI i)) = true then i else fst1 (fun w => smokes (upd S 3 (nI w))) (100 - (i + 1)) (i + 1) := by
    rw [show 100 - i = (100 - (i + 1)) + 1 by omega, fst1_s]
  unfold lnF
  rw [e]
  by_cases q : smokes (upd S 3 (nI i)) = true
  · rw [if_pos q, if_pos q, if_neg (by omega)]
  · rw [if_neg q, if_neg q]
theorem pk_s1 (n : Nat) : nI n + (-1) = nI n - 1 := by grind
theorem nI_m1_neg {i : Nat} (hi : i < 2 ^ 31) : nI i - 1 < 0 ↔ i = 0 := by
  cases i with
  | zero => exact ⟨fun _ => rfl, fun _ => by decide⟩
  | succ n => rw [nI_s1]; exact ⟨fun q => absurd q (nI_pos (by omega)), fun q => absurd q (by omega)⟩
theorem onl_v {C : Nat → Int32} {x : Int32} (h : -1 ≤ x ∧ x ≤ 6) : onl C x 7 = vStatus C x := by
  unfold vStatus
  by_cases q : x < 0
  · rw [if_pos q, onl_neg q]
  · rw [if_neg q]
    obtain ⟨k, hk, rfl⟩ := nI_rn (n := 7) (by decide) ⟨Int32.not_lt.mp q, Int32.lt_of_le_of_lt h.2 (by decide)⟩
    rw [onl_at hk, bst_n (by omega)]
theorem in7 {a : Int32} (h : 0 ≤ a ∧ a ≤ 6) : a = 0 ∨ a = 1 ∨ a = 2 ∨ a = 3 ∨ a = 4 ∨ a = 5 ∨ a = 6 := by
  obtain ⟨k, hk, rfl⟩ := nI_rn (n := 7) (by decide) ⟨h.1, Int32.lt_of_le_of_lt h.2 (by decide)⟩
  have : k = 0 ∨ k = 1 ∨ k = 2 ∨ k = 3 ∨ k = 4 ∨ k = 5 ∨ k = 6 := by omega
  rcases this with rfl | rfl | rfl | rfl | rfl | rfl | rfl <;> decide
theorem cCount_0 {x : Int32} (h0 : ¬ x = 0) (h1 : ¬ x = 1) (h2 : ¬ x = 2) (h3 : ¬ x = 3) (h4 : ¬ x = 4) (h5 : ¬ x = 5) (h6 : ¬ x = 6) : cCount x = 0 := by
  unfold cCount
  rw [if_neg (fun q => ?_)]
  rcases in7 q with z | z | z | z | z | z | z
  · exact h0 z
  · exact h1 z
  · exact h2 z
  · exact h3 z
  · exact h4 z
  · exact h5 z
  · exact h6 z
theorem sm_c {f g : Nat → Int32} : ∀ n, (∀ k, k < n → f k = g k) → sm f n = sm g n
  | 0, _ => rfl
  | n + 1, h => by unfold sm; rw [sm_c n (fun k hk => h k (by omega)), h n (by omega)]
