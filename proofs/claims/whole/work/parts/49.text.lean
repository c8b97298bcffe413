/-! the text: tokens by their places, numbers, words -/
abbrev isL (x : Int32) : Prop := 97 ≤ x ∧ x ≤ 122
abbrev isD (x : Int32) : Prop := 48 ≤ x ∧ x ≤ 57
def skp (T : Nat → Int32) (n k : Nat) : Nat := fst1 (fun j => decide (¬ bt T n j = 32)) (n - k) k
def teL (T : Nat → Int32) (n k : Nat) : Nat := fst1 (fun j => decide (¬ isL (bt T n j))) (n - k) k
def teD (T : Nat → Int32) (n k : Nat) : Nat := fst1 (fun j => decide (¬ isD (bt T n j))) (n - k) k
def te (T : Nat → Int32) (n s : Nat) : Nat := if s < n then (if isL (bt T n s) then teL T n (s + 1) else if isD (bt T n s) then teD T n (s + 1) else s + 1) else s
def tkn (T : Nat → Int32) (n s : Nat) : Int32 := if s < n then (if isL (bt T n s) then 1 else if isD (bt T n s) then 2 else if bt T n s = 44 then 3 else 4) else 0
def nxt (T : Nat → Int32) (n s : Nat) : Nat := skp T n (te T n s)
theorem bt_out {T : Nat → Int32} {n k : Nat} (h : n ≤ k) : bt T n k = -1 := if_neg (by omega)
theorem bt_in {T : Nat → Int32} {n k : Nat} (h : k < n) : bt T n k = T k := if_pos h
theorem fst1_ge (p : Nat → Bool) : ∀ f k, k ≤ fst1 p f k
  | 0, k => Nat.le_refl _
  | f + 1, k => by
    unfold fst1
    by_cases h : p k = true
    · rw [if_pos h]; exact Nat.le_refl _
    · rw [if_neg h]; have := fst1_ge p f (k + 1); omega
theorem skp_b {T : Nat → Int32} {n k : Nat} (h : k ≤ n) : k ≤ skp T n k ∧ skp T n k ≤ n := by
  have h1 := fst1_ge (fun j => decide (¬ bt T n j = 32)) (n - k) k
  have h2 := fst1_le (fun j => decide (¬ bt T n j = 32)) (n - k) k
  unfold skp; omega
theorem teL_b {T : Nat → Int32} {n k : Nat} (h : k ≤ n) : k ≤ teL T n k ∧ teL T n k ≤ n := by
  have h1 := fst1_ge (fun j => decide (¬ isL (bt T n j))) (n - k) k
  have h2 := fst1_le (fun j => decide (¬ isL (bt T n j))) (n - k) k
  unfold teL; omega
theorem teD_b {T : Nat → Int32} {n k : Nat} (h : k ≤ n) : k ≤ teD T n k ∧ teD T n k ≤ n := by
  have h1 := fst1_ge (fun j => decide (¬ isD (bt T n j))) (n - k) k
  have h2 := fst1_le (fun j => decide (¬ isD (bt T n j))) (n - k) k
  unfold teD; omega
theorem te_b {T : Nat → Int32} {n s : Nat} (h : s ≤ n) : s ≤ te T n s ∧ te T n s ≤ n := by
  unfold te
  by_cases h1 : s < n
  · have a := teL_b (T := T) (show s + 1 ≤ n by omega)
    have b := teD_b (T := T) (show s + 1 ≤ n by omega)
    rw [if_pos h1]
    by_cases h2 : isL (bt T n s)
    · rw [if_pos h2]; omega
    · rw [if_neg h2]
      by_cases h3 : isD (bt T n s)
      · rw [if_pos h3]; omega
      · rw [if_neg h3]; omega
  · rw [if_neg h1]; omega
theorem nxt_b {T : Nat → Int32} {n s : Nat} (h : s ≤ n) : s ≤ nxt T n s ∧ nxt T n s ≤ n := by
  have a := te_b (T := T) h
  have b := skp_b (T := T) a.2
  unfold nxt; omega
theorem te_lt {T : Nat → Int32} {n s : Nat} (h : s < n) : s < te T n s := by
  unfold te
  have a := teL_b (T := T) (show s + 1 ≤ n by omega)
  have b := teD_b (T := T) (show s + 1 ≤ n by omega)
  rw [if_pos h]
  by_cases h2 : isL (bt T n s)
  · rw [if_pos h2]; omega
  · rw [if_neg h2]
    by_cases h3 : isD (bt T n s)
    · rw [if_pos h3]; omega
    · rw [if_neg h3]; omega
theorem nxt_lt {T : Nat → Int32} {n s : Nat} (h : s < n) : s < nxt T n s := by
  have a := te_lt (T := T) h
  have c := te_b (T := T) (show s ≤ n by omega)
  have b := skp_b (T := T) c.2
  unfold nxt; omega
theorem LD {x : Int32} (h : isL x) : ¬ isD x := fun q => by
  have h1 := Int32.le_iff_toInt_le.mp h.1
  have h2 := Int32.le_iff_toInt_le.mp q.2
  have e1 : (97 : Int32).toInt = 97 := by decide
  have e2 : (57 : Int32).toInt = 57 := by decide
  omega
theorem L_no1 : ¬ isL (-1) := by decide
theorem D_no1 : ¬ isD (-1) := by decide
/-- where a walk over the tape ends -/
theorem skp_eq {T : Nat → Int32} {n k m : Nat} (h1 : k ≤ m) (h2 : m ≤ n) (h3 : ∀ j, k ≤ j → j < m → bt T n j = 32) (h4 : ¬ bt T n m = 32) : skp T n k = m :=
  fst1_eq (n - k) k m h1 (by omega) (fun j a b => by simp [h3 j a b]) (Or.inr (by simp [h4]))
theorem teL_eq {T : Nat → Int32} {n k m : Nat} (h1 : k ≤ m) (h2 : m ≤ n) (h3 : ∀ j, k ≤ j → j < m → isL (bt T n j)) (h4 : ¬ isL (bt T n m)) : teL T n k = m :=
  fst1_eq (n - k) k m h1 (by omega) (fun j a b => by simpa using h3 j a b) (Or.inr (decide_eq_true h4))
theorem teD_eq {T : Nat → Int32} {n k m : Nat} (h1 : k ≤ m) (h2 : m ≤ n) (h3 : ∀ j, k ≤ j → j < m → isD (bt T n j)) (h4 : ¬ isD (bt T n m)) : teD T n k = m :=
  fst1_eq (n - k) k m h1 (by omega) (fun j a b => by simpa using h3 j a b) (Or.inr (decide_eq_true h4))
theorem not32 {T : Nat → Int32} {n m : Nat} (h : n ≤ m) : ¬ bt T n m = 32 := by rw [bt_out h]; decide
theorem notL {T : Nat → Int32} {n m : Nat} (h : n ≤ m) : ¬ isL (bt T n m) := by rw [bt_out h]; decide
theorem notD {T : Nat → Int32} {n m : Nat} (h : n ≤ m) : ¬ isD (bt T n m) := by rw [bt_out h]; decide
theorem te_L {T : Nat → Int32} {n s : Nat} (h : s < n) (hL : isL (bt T n s)) : te T n s = teL T n (s + 1) := by unfold te; rw [if_pos h, if_pos hL]
theorem te_D {T : Nat → Int32} {n s : Nat} (h : s < n) (hD : isD (bt T n s)) : te T n s = teD T n (s + 1) := by unfold te; rw [if_pos h, if_neg (fun q => LD q hD), if_pos hD]
theorem te_o {T : Nat → Int32} {n s : Nat} (h : s < n) (hL : ¬ isL (bt T n s)) (hD : ¬ isD (bt T n s)) : te T n s = s + 1 := by unfold te; rw [if_pos h, if_neg hL, if_neg hD]
theorem te_e {T : Nat → Int32} {n s : Nat} (h : n ≤ s) : te T n s = s := by unfold te; rw [if_neg (by omega)]
theorem tkn_L {T : Nat → Int32} {n s : Nat} (h : s < n) (hL : isL (bt T n s)) : tkn T n s = 1 := by unfold tkn; rw [if_pos h, if_pos hL]
theorem tkn_D {T : Nat → Int32} {n s : Nat} (h : s < n) (hD : isD (bt T n s)) : tkn T n s = 2 := by unfold tkn; rw [if_pos h, if_neg (fun q => LD q hD), if_pos hD]
theorem tkn_e {T : Nat → Int32} {n s : Nat} (h : n ≤ s) : tkn T n s = 0 := by unfold tkn; rw [if_neg (by omega)]
theorem tkn_3 {T : Nat → Int32} {n s : Nat} (h : s < n) (hL : ¬ isL (bt T n s)) (hD : ¬ isD (bt T n s)) (h4 : bt T n s = 44) : tkn T n s = 3 := by unfold tkn; rw [if_pos h, if_neg hL, if_neg hD, if_pos h4]
theorem tkn_4 {T : Nat → Int32} {n s : Nat} (h : s < n) (hL : ¬ isL (bt T n s)) (hD : ¬ isD (bt T n s)) (h4 : ¬ bt T n s = 44) : tkn T n s = 4 := by unfold tkn; rw [if_pos h, if_neg hL, if_neg hD, if_neg h4]
theorem tkn_2 {T : Nat → Int32} {n s : Nat} : tkn T n s = 2 ↔ isD (bt T n s) := by
  by_cases h : s < n
  · by_cases hL : isL (bt T n s)
    · rw [tkn_L h hL]; exact ⟨fun q => absurd q (by decide), fun q => absurd q (LD hL)⟩
    · by_cases hD : isD (bt T n s)
      · rw [tkn_D h hD]; exact ⟨fun _ => hD, fun _ => rfl⟩
      · by_cases h4 : bt T n s = 44
        · rw [tkn_3 h hL hD h4]; exact ⟨fun q => absurd q (by decide), fun q => absurd q hD⟩
        · rw [tkn_4 h hL hD h4]; exact ⟨fun q => absurd q (by decide), fun q => absurd q hD⟩
  · rw [tkn_e (by omega)]; exact ⟨fun q => absurd q (by decide), fun q => absurd q (notD (by omega))⟩
theorem tkn_1 {T : Nat → Int32} {n s : Nat} : tkn T n s = 1 ↔ isL (bt T n s) := by
  by_cases h : s < n
  · by_cases hL : isL (bt T n s)
    · rw [tkn_L h hL]; exact ⟨fun _ => hL, fun _ => rfl⟩
    · by_cases hD : isD (bt T n s)
      · rw [tkn_D h hD]; exact ⟨fun q => absurd q (by decide), fun q => absurd q hL⟩
      · by_cases h4 : bt T n s = 44
        · rw [tkn_3 h hL hD h4]; exact ⟨fun q => absurd q (by decide), fun q => absurd q hL⟩
        · rw [tkn_4 h hL hD h4]; exact ⟨fun q => absurd q (by decide), fun q => absurd q hL⟩
  · rw [tkn_e (by omega)]; exact ⟨fun q => absurd q (by decide), fun q => absurd q (notL (by omega))⟩
theorem tkn_0 {T : Nat → Int32} {n s : Nat} : tkn T n s = 0 ↔ n ≤ s := by
  by_cases h : s < n
  · refine ⟨fun q => ?_, fun q => absurd h (by omega)⟩
    unfold tkn at q
    rw [if_pos h] at q
    by_cases hL : isL (bt T n s)
    · rw [if_pos hL] at q; exact absurd q (by decide)
    · rw [if_neg hL] at q
      by_cases hD : isD (bt T n s)
      · rw [if_pos hD] at q; exact absurd q (by decide)
      · rw [if_neg hD] at q
        by_cases h4 : bt T n s = 44
        · rw [if_pos h4] at q; exact absurd q (by decide)
        · rw [if_neg h4] at q; exact absurd q (by decide)
  · exact ⟨fun _ => by omega, fun q => tkn_e q⟩
theorem tkn_s {T : Nat → Int32} {n s : Nat} (h : s < n) : tkn T n s = 3 ↔ bt T n s = 44 := by
  by_cases h4 : bt T n s = 44
  · have hL : ¬ isL (bt T n s) := by rw [h4]; decide
    have hD : ¬ isD (bt T n s) := by rw [h4]; decide
    rw [tkn_3 h hL hD h4]; exact ⟨fun _ => h4, fun _ => rfl⟩
  · refine ⟨fun q => ?_, fun q => absurd q h4⟩
    by_cases hL : isL (bt T n s)
    · rw [tkn_L h hL] at q; exact absurd q (by decide)
    · by_cases hD : isD (bt T n s)
      · rw [tkn_D h hD] at q; exact absurd q (by decide)
      · rw [tkn_4 h hL hD h4] at q; exact absurd q (by decide)
/-- numbers: the class holds all above 999 as 1000, the reference stops there -/
def dg (T : Nat → Int32) (k : Nat) : Nat := bstN (T k) - 48
def nvC (T : Nat → Int32) (s : Nat) : Nat → Nat
  | 0 => 0
  | i + 1 => if 1000 < 10 * nvC T s i + dg T (s + i) then 1000 else 10 * nvC T s i + dg T (s + i)
def nvR (T : Nat → Int32) (s : Nat) : Nat → Nat
  | 0 => 0
  | i + 1 => if 999 < nvR T s i then nvR T s i else 10 * nvR T s i + dg T (s + i)
theorem nvC_R (T : Nat → Int32) (s : Nat) : ∀ i, nvC T s i = if nvR T s i ≤ 999 then nvR T s i else 1000
  | 0 => rfl
  | i + 1 => by
    have ih := nvC_R T s i
    unfold nvC nvR
    by_cases h : nvR T s i ≤ 999
    · rw [if_pos h] at ih
      rw [ih, if_neg (show ¬ 999 < nvR T s i by omega)]
      by_cases q : 1000 < 10 * nvR T s i + dg T (s + i)
      · rw [if_pos q, if_neg (by omega)]
      · rw [if_neg q]
        by_cases r : 10 * nvR T s i + dg T (s + i) ≤ 999
        · rw [if_pos r]
        · rw [if_neg r]; omega
    · rw [if_neg h] at ih
      rw [ih, if_pos (show 999 < nvR T s i by omega), if_neg h, if_pos (by omega)] <;> omega
theorem nvC_le (T : Nat → Int32) (s : Nat) : ∀ i, nvC T s i ≤ 1000
  | 0 => Nat.zero_le _
  | i + 1 => by
    unfold nvC
    by_cases h : 1000 < 10 * nvC T s i + dg T (s + i)
    · rw [if_pos h]; omega
    · rw [if_neg h]; omega
theorem D_dg {x : Int32} (h : isD x) : x = nI (bstN x - 48 + 48) ∧ bstN x - 48 ≤ 9 ∧ 48 ≤ bstN x := by
  obtain ⟨m, hm, rfl⟩ := nI_ge0 (Int32.le_trans (by decide) h.1)
  have h1 : 48 ≤ m := (nI_leI (a := 48) (by decide) hm).mp h.1
  have h2 : m ≤ 57 := (nI_leI (b := 57) hm (by decide)).mp h.2
  rw [bst_n hm]
  refine ⟨congrArg nI (by omega), by omega, h1⟩
theorem dg_9 {T : Nat → Int32} {n k : Nat} (h : isD (bt T n k)) : k < n ∧ T k = nI (dg T k + 48) ∧ dg T k ≤ 9 := by
  by_cases q : k < n
  · rw [bt_in q] at h
    have := D_dg h
    exact ⟨q, this.1, this.2.1⟩
  · exact absurd h (notD (by omega))
def numV (T : Nat → Int32) (n s : Nat) : Nat := nvC T s (te T n s - s)
def numR (T : Nat → Int32) (n s : Nat) : Nat := nvR T s (te T n s - s)
theorem te_D_in {T : Nat → Int32} {n s : Nat} (hD : isD (bt T n s)) : ∀ j, s ≤ j → j < te T n s → isD (bt T n j) := by
  have hs : s < n := (dg_9 hD).1
  rw [te_D hs hD]
  intro j h1 h2
  by_cases e : j = s
  · subst e; exact hD
  · refine Classical.byContradiction fun q => ?_
    -- the first place that is no digit lies at j or before
    have : ∀ f k, k ≤ j → j < fst1 (fun j => decide (¬ isD (bt T n j))) f k → isD (bt T n j) := by
      intro f
      induction f with
      | zero => intro k a b; unfold fst1 at b; omega
      | succ f ih =>
        intro k a b
        unfold fst1 at b
        by_cases c : decide (¬ isD (bt T n k)) = true
        · rw [if_pos c] at b; omega
        · rw [if_neg c] at b
          by_cases e2 : k = j
          · subst e2; simpa using c
          · exact ih (k + 1) (by omega) b
    exact q (this _ _ (by omega) h2)
abbrev okN (T : Nat → Int32) (n s : Nat) (m : Int32) : Prop := isD (bt T n s) ∧ nI (numV T n s) ≤ m
theorem num_le {T : Nat → Int32} {n s : Nat} {m : Int32} (hm : m ≤ 999) : nI (nvR T s (te T n s - s)) ≤ m ∧ nvR T s (te T n s - s) < 2 ^ 31 ↔ nI (numV T n s) ≤ m ∧ nvR T s (te T n s - s) < 2 ^ 31 := by
  have e : numV T n s = if nvR T s (te T n s - s) ≤ 999 then nvR T s (te T n s - s) else 1000 := nvC_R T s _
  by_cases h : nvR T s (te T n s - s) ≤ 999
  · rw [e, if_pos h]
  · rw [e, if_neg h]
    constructor
    · rintro ⟨h1, h2⟩
      exact absurd ((nI_leI (b := 999) h2 (by decide)).mp (Int32.le_trans h1 hm)) h
    · rintro ⟨h1, h2⟩
      exact absurd ((nI_leI (a := 1000) (b := 999) (by decide) (by decide)).mp (Int32.le_trans h1 hm)) (by omega)
theorem nvR_le {T : Nat → Int32} {n s : Nat} : ∀ i, (∀ j, s ≤ j → j < s + i → isD (bt T n j)) → nvR T s i ≤ 9999
  | 0, _ => Nat.zero_le _
  | i + 1, h => by
    have ih := nvR_le i (fun j a b => h j a (by omega))
    have d := (dg_9 (h (s + i) (by omega) (by omega))).2.2
    unfold nvR
    by_cases q : 999 < nvR T s i
    · rw [if_pos q]; exact ih
    · rw [if_neg q]; omega
theorem numV_eq {T : Nat → Int32} {n s : Nat} {m : Int32} (hm : m ≤ 999) (h : nI (numV T n s) ≤ m) : nvR T s (te T n s - s) = numV T n s := by
  have e : numV T n s = if nvR T s (te T n s - s) ≤ 999 then nvR T s (te T n s - s) else 1000 := nvC_R T s _
  by_cases q : nvR T s (te T n s - s) ≤ 999
  · rw [e, if_pos q]
  · rw [e, if_neg q] at h
    exact absurd ((nI_leI (a := 1000) (b := 999) (by decide) (by decide)).mp (Int32.le_trans h hm)) (by omega)
/-- the fourteen words -/
def wl (i j : Nat) : Int32 := (stB.getD i []).getD j 0
def wn (i : Nat) : Nat := stL.getD i 0
def wEq (T : Nat → Int32) (n s i : Nat) : Nat → Bool
  | 0 => true
  | k + 1 => wEq T n s i k && decide (bt T n (s + k) = wl i k)
def isW (T : Nat → Int32) (n s i : Nat) : Bool := decide (te T n s = s + wn i) && wEq T n s i (wn i)
theorem wEq_iff (T : Nat → Int32) (n s i : Nat) : ∀ k, wEq T n s i k = true ↔ ∀ j, j < k → bt T n (s + j) = wl i j
  | 0 => ⟨fun _ j h => absurd h (Nat.not_lt_zero j), fun _ => rfl⟩
  | k + 1 => by
    unfold wEq
    rw [Bool.and_eq_true, wEq_iff T n s i k, decide_eq_true_iff]
    constructor
    · rintro ⟨h1, h2⟩ j hj
      by_cases e : j = k
      · subst e; exact h2
      · exact h1 j (by omega)
    · exact fun h => ⟨fun j hj => h j (by omega), h k (by omega)⟩
theorem isW_iff {T : Nat → Int32} {n s i : Nat} : isW T n s i = true ↔ te T n s = s + wn i ∧ ∀ j, j < wn i → bt T n (s + j) = wl i j := by
  unfold isW
  rw [Bool.and_eq_true, wEq_iff, decide_eq_true_iff]
theorem wl_0 : ∀ i, i < 14 → ∀ j, j < 7 → (wl i j = 0 ↔ wn i ≤ j) := by decide +kernel
theorem wl_L : ∀ i, i < 14 → ∀ j, j < wn i → isL (wl i j) := by decide +kernel
theorem wn_37 : ∀ i, i < 14 → 3 ≤ wn i ∧ wn i ≤ 7 := by decide +kernel
theorem wn_if : ∀ i, i < 14 → nI (wn i) = (if wl i 3 = 0 then 3 else if wl i 4 = 0 then 4 else if wl i 5 = 0 then 5 else if wl i 6 = 0 then 6 else 7) := by decide +kernel
/-- no token is two words -/
theorem wl_ne : ∀ i, i < 14 → ∀ k, k < 14 → wn i = wn k → (∀ j, j < 7 → wl i j = wl k j) → i = k := by decide +kernel
theorem isW_1 {T : Nat → Int32} {n s i k : Nat} (hi : i < 14) (hk : k < 14) (h1 : isW T n s i = true) (h2 : isW T n s k = true) : i = k := by
  have a := isW_iff.mp h1
  have b := isW_iff.mp h2
  have e : wn i = wn k := by omega
  refine wl_ne i hi k hk e fun j hj => ?_
  by_cases q : j < wn i
  · rw [← a.2 j q, b.2 j (by omega)]
  · rw [(wl_0 i hi j hj).mpr (by omega), (wl_0 k hk j hj).mpr (by omega)]
theorem isW_L {T : Nat → Int32} {n s i : Nat} (hi : i < 14) (h : isW T n s i = true) : isL (bt T n s) := by
  have a := isW_iff.mp h
  have c := wn_37 i hi
  have := a.2 0 (by omega)
  rw [Nat.add_zero] at this
  rw [this]; exact wl_L i hi 0 (by omega)
theorem isW_7 {T : Nat → Int32} {n s i : Nat} (hi : i < 14) : isW T n s i = true ↔ te T n s = s + wn i ∧ (wl i 0 = 0 ∨ bt T n (s + 0) = wl i 0) ∧ (wl i 1 = 0 ∨ bt T n (s + 1) = wl i 1) ∧ (wl i 2 = 0 ∨ bt T n (s + 2) = wl i 2) ∧ (wl i 3 = 0 ∨ bt T n (s + 3) = wl i 3) ∧ (wl i 4 = 0 ∨ bt T n (s + 4) = wl i 4) ∧ (wl i 5 = 0 ∨ bt T n (s + 5) = wl i 5) ∧ (wl i 6 = 0 ∨ bt T n (s + 6) = wl i 6) := by
  have c := wn_37 i hi
  have z := fun j hj => wl_0 i hi j hj
  rw [isW_iff]
  constructor
  · rintro ⟨h1, h2⟩
    have q : ∀ j, j < 7 → (wl i j = 0 ∨ bt T n (s + j) = wl i j) := fun j hj => by
      by_cases e : j < wn i
      · exact Or.inr (h2 j e)
      · exact Or.inl ((z j hj).mpr (by omega))
    exact ⟨h1, q 0 (by decide), q 1 (by decide), q 2 (by decide), q 3 (by decide), q 4 (by decide), q 5 (by decide), q 6 (by decide)⟩
  · rintro ⟨h1, q0, q1, q2, q3, q4, q5, q6⟩
    refine ⟨h1, fun j hj => ?_⟩
    have hj7 : j < 7 := by omega
    have hz : ¬ wl i j = 0 := fun q => by have := (z j hj7).mp q; omega
    have hs : j = 0 ∨ j = 1 ∨ j = 2 ∨ j = 3 ∨ j = 4 ∨ j = 5 ∨ j = 6 := by omega
    rcases hs with rfl | rfl | rfl | rfl | rfl | rfl | rfl
    · exact q0.resolve_left hz
    · exact q1.resolve_left hz
    · exact q2.resolve_left hz
    · exact q3.resolve_left hz
    · exact q4.resolve_left hz
    · exact q5.resolve_left hz
    · exact q6.resolve_left hz
/-- steps of the telling: whether it is wrong, and where the token stands -/
def ndR (T : Nat → Int32) (n : Nat) (p : Bool) (r : Bool × Nat) : Bool × Nat := if r.1 || !p then (true, r.2) else (false, nxt T n r.2)
def nmR (T : Nat → Int32) (n : Nat) (m : Int32) (r : Bool × Nat) : Bool × Nat := if r.1 then r else ndR T n (decide (okN T n r.2 m)) r
def phR (T : Nat → Int32) (n i : Nat) (m : Int32) (r : Bool × Nat) : Bool × Nat := if r.1 || !isW T n r.2 i then r else nmR T n m (ndR T n true r)
def phV (T : Nat → Int32) (n i : Nat) (s : Nat) : Int32 := if isW T n s i then nI (numV T n (nxt T n s)) else 0
theorem ndR_t (T : Nat → Int32) (n : Nat) (p : Bool) {r : Bool × Nat} (h : r.1 = true) : ndR T n p r = r := by
  obtain ⟨a, b⟩ := r
  subst h
  rfl
theorem nmR_t (T : Nat → Int32) (n : Nat) (m : Int32) {r : Bool × Nat} (h : r.1 = true) : nmR T n m r = r := by
  unfold nmR; rw [if_pos h]
theorem phR_t (T : Nat → Int32) (n i : Nat) (m : Int32) {r : Bool × Nat} (h : r.1 = true) : phR T n i m r = r := by
  unfold phR; simp [h]
theorem ndR_b {T : Nat → Int32} {n : Nat} {p : Bool} {r : Bool × Nat} (h : r.2 ≤ n) : r.2 ≤ (ndR T n p r).2 ∧ (ndR T n p r).2 ≤ n := by
  have a := nxt_b (T := T) h
  unfold ndR
  by_cases q : (r.1 || !p) = true
  · rw [if_pos q]; exact ⟨Nat.le_refl _, h⟩
  · rw [if_neg q]; exact a
theorem nmR_b {T : Nat → Int32} {n : Nat} {m : Int32} {r : Bool × Nat} (h : r.2 ≤ n) : r.2 ≤ (nmR T n m r).2 ∧ (nmR T n m r).2 ≤ n := by
  unfold nmR
  by_cases q : r.1 = true
  · rw [if_pos q]; exact ⟨Nat.le_refl _, h⟩
  · rw [if_neg q]; exact ndR_b h
theorem phR_b {T : Nat → Int32} {n i : Nat} {m : Int32} {r : Bool × Nat} (h : r.2 ≤ n) : r.2 ≤ (phR T n i m r).2 ∧ (phR T n i m r).2 ≤ n := by
  unfold phR
  by_cases q : (r.1 || !isW T n r.2 i) = true
  · rw [if_pos q]; exact ⟨Nat.le_refl _, h⟩
  · rw [if_neg q]
    have a := ndR_b (T := T) (p := true) h
    have b := nmR_b (T := T) (m := m) a.2
    exact ⟨Nat.le_trans a.1 b.1, b.2⟩
def knd (T : Nat → Int32) (n s : Nat) : Int32 := if isW T n s 1 then 0 else if isW T n s 2 then 1 else if isW T n s 3 then 2 else if isW T n s 4 then 3 else if isW T n s 5 then 4 else if isW T n s 6 then 5 else -1
def prt (T : Nat → Int32) (n s : Nat) : Int32 := if isW T n s 11 then 0 else if isW T n s 12 then 1 else if isW T n s 13 then 4 else -1
def kndR (T : Nat → Int32) (n : Nat) (r : Bool × Nat) : Int32 := if r.1 then -1 else knd T n r.2
def prtR (T : Nat → Int32) (n : Nat) (r : Bool × Nat) : Int32 := if r.1 then -1 else prt T n r.2
/-- the other side of a gap -/
def otR (T : Nat → Int32) (n : Nat) (m : Int32) (v : Nat) (r : Bool × Nat) : Bool × Nat :=
  if r.1 then r else if isW T n r.2 7 then ndR T n true r else if isD (bt T n r.2) ∧ numV T n r.2 = v then (true, r.2) else nmR T n m r
def otV (T : Nat → Int32) (n s : Nat) : Int32 := if isW T n s 7 then -1 else nI (numV T n s)
def g1 (T : Nat → Int32) (n : Nat) (S : Nat → Int32) (s : Nat) : Bool × Nat := ndR T n (decide (gcN S < 20)) (false, s)
def g2 (T : Nat → Int32) (n : Nat) (S : Nat → Int32) (s : Nat) : Bool × Nat := nmR T n (nI (rcN S) - 1) (g1 T n S s)
def g3 (T : Nat → Int32) (n : Nat) (S : Nat → Int32) (s : Nat) : Bool × Nat := otR T n (nI (rcN S) - 1) (numV T n (g1 T n S s).2) (g2 T n S s)
def g4 (T : Nat → Int32) (n : Nat) (S : Nat → Int32) (s : Nat) : Bool × Nat := nmR T n 99 (g3 T n S s)
def g5 (T : Nat → Int32) (n : Nat) (S : Nat → Int32) (s : Nat) : Bool × Nat := phR T n 8 9 (g4 T n S s)
def g6 (T : Nat → Int32) (n : Nat) (S : Nat → Int32) (s : Nat) : Bool × Nat := phR T n 9 3 (g5 T n S s)
def g7 (T : Nat → Int32) (n : Nat) (S : Nat → Int32) (s : Nat) : Bool × Nat := phR T n 10 99 (g6 T n S s)
def gpS (T : Nat → Int32) (n : Nat) (S : Nat → Int32) (k : Int32) (s : Nat) : Nat → Int32 :=
  newGap S (gcN S) k (nI (numV T n (g1 T n S s).2)) (otV T n (g2 T n S s).2) (nI (numV T n (g3 T n S s).2)) (phV T n 8 (g4 T n S s).2) (phV T n 9 (g5 T n S s).2) (phV T n 10 (g6 T n S s).2)
/-- one ITEM: where it ends, what the house is then -/
def itR (T : Nat → Int32) (n : Nat) (S : Nat → Int32) (s : Nat) : Bool × Nat :=
  if ¬ knd T n s < 0 then g7 T n S s else if isW T n s 0 then ndR T n (decide (rcN S < 6)) (false, s)
  else nmR T n (if prt T n s = 0 then 40 else 99) (ndR T n (decide (¬ prt T n s < 0)) (false, s))
def itS (T : Nat → Int32) (n : Nat) (S : Nat → Int32) (s : Nat) : Nat → Int32 :=
  if ¬ knd T n s < 0 then gpS T n S (knd T n s) s else if isW T n s 0 then upd S 0 (nI (rcN S + 1))
  else upd S (2 + bstN (prt T n s)) (nI (numV T n (nxt T n s)))
/-- the whole telling: after k items (the state, the house), as long as none is wrong -/
def tlP (T : Nat → Int32) (n : Nat) : Nat → (Bool × Nat) × (Nat → Int32) → (Bool × Nat) × (Nat → Int32)
  | 0, q => q
  | k + 1, q => let p := tlP T n k q; if p.1.1 then p else (itR T n p.2 p.1.2, if (itR T n p.2 p.1.2).1 then p.2 else itS T n p.2 p.1.2)
