/-! stopping: the subsets of a set in their rising order, what is shut by one, what it costs, the best -/
theorem pop_le : ∀ f m, popc f m ≤ f
  | 0, _ => Nat.le_refl _
  | f + 1, m => by unfold popc; have := pop_le f (m / 2); omega
def popI (x : Int32) : Nat := pop x.toUInt32.toNat
theorem popI_le (x : Int32) : popI x ≤ 32 := pop_le 32 _
theorem nI_all (x : Int32) : x = nI x.toUInt32.toNat ∧ x.toUInt32.toNat < 2 ^ 32 := by
  refine ⟨?_, x.toUInt32.toNat_lt⟩
  apply Int32.toBitVec_inj.1
  show x.toBitVec = BitVec.ofNat 32 x.toUInt32.toNat
  apply BitVec.eq_of_toNat_eq
  rw [BitVec.toNat_ofNat, Nat.mod_eq_of_lt x.toUInt32.toNat_lt]
  rfl
theorem nI_u {m : Nat} (h : m < 2 ^ 32) : (nI m).toUInt32.toNat = m := by
  show (BitVec.ofNat 32 m).toNat = m
  rw [BitVec.toNat_ofNat, Nat.mod_eq_of_lt h]
theorem popI_n {m : Nat} (h : m < 2 ^ 32) : popI (nI m) = pop m := by unfold popI; rw [nI_u h]
theorem and_1 (m : Nat) : m &&& 1 = m % 2 := Nat.and_one_is_mod m
theorem bit_ask (m g : Nat) : nI (m / 2 ^ g &&& 1) = b2i (m.testBit g = true) := by
  rw [and_1, Nat.testBit_eq_decide_div_mod_eq]
  by_cases h : m / 2 ^ g % 2 = 1
  · rw [h, b2i_t (by simp)]; rfl
  · rw [b2i_f (by simp [h]), show m / 2 ^ g % 2 = 0 by omega]; rfl
/-- the i-th subset of m: i's bits laid at m's places -/
def dep : Nat → Nat → Nat → Nat
  | 0, _, _ => 0
  | f + 1, m, i => if m % 2 = 1 then i % 2 + 2 * dep f (m / 2) (i / 2) else 2 * dep f (m / 2) i
theorem dep_0 : ∀ f m, dep f m 0 = 0
  | 0, _ => rfl
  | f + 1, m => by
    unfold dep
    rw [show 0 / 2 = 0 from rfl, dep_0 f]; simp
theorem dep_lt : ∀ f m i, dep f m i < 2 ^ f
  | 0, _, _ => Nat.one_pos
  | f + 1, m, i => by
    have h1 := dep_lt f (m / 2) (i / 2); have h2 := dep_lt f (m / 2) i
    have : (2 : Nat) ^ (f + 1) = 2 * 2 ^ f := by rw [Nat.pow_succ]; omega
    unfold dep
    by_cases h : m % 2 = 1
    · rw [if_pos h]; omega
    · rw [if_neg h]; omega
theorem and_e (a b c d : Nat) (ha : a < 2) (hc : c < 2) : (a + 2 * b) &&& (c + 2 * d) = (a &&& c) + 2 * (b &&& d) := and_split 1 a b c d ha hc
theorem dep_le : ∀ f m i, m < 2 ^ f → dep f m i ≤ m
  | 0, m, _, h => by unfold dep; omega
  | f + 1, m, i, h => by
    have e : (2 : Nat) ^ (f + 1) = 2 * 2 ^ f := by rw [Nat.pow_succ]; omega
    have h1 := dep_le f (m / 2) (i / 2) (by omega); have h2 := dep_le f (m / 2) i (by omega)
    unfold dep
    by_cases h : m % 2 = 1
    · rw [if_pos h]; omega
    · rw [if_neg h]; omega
theorem dep_in : ∀ f m i, m < 2 ^ f → (2 ^ f - 1 - (m - dep f m i)) &&& m = dep f m i
  | 0, m, _, h => by have : m = 0 := by omega
                     subst this; unfold dep; rfl
  | f + 1, m, i, h => by
    have e : (2 : Nat) ^ (f + 1) = 2 * 2 ^ f := by rw [Nat.pow_succ]; omega
    have hp := Nat.two_pow_pos f
    have h1 := dep_in f (m / 2) (i / 2) (by omega); have h2 := dep_in f (m / 2) i (by omega)
    have l1 := dep_le f (m / 2) (i / 2) (by omega); have l2 := dep_le f (m / 2) i (by omega)
    unfold dep
    by_cases h : m % 2 = 1
    · rw [if_pos h]
      have a := and_e (i % 2) (2 ^ f - 1 - (m / 2 - dep f (m / 2) (i / 2))) 1 (m / 2) (by omega) (by omega)
      rw [h1, and_1, show i % 2 % 2 = i % 2 by omega, show 1 + 2 * (m / 2) = m by omega] at a
      rw [← a]; congr 1; omega
    · rw [if_neg h]
      have a := and_e 1 (2 ^ f - 1 - (m / 2 - dep f (m / 2) i)) 0 (m / 2) (by omega) (by omega)
      rw [h2, show 1 &&& 0 = 0 from rfl, Nat.zero_add, Nat.zero_add, show 2 * (m / 2) = m by omega] at a
      rw [← a]; congr 1; omega
theorem dep_s : ∀ f m i, m < 2 ^ f → i + 1 < 2 ^ popc f m → (2 ^ f - (m - dep f m i)) &&& m = dep f m (i + 1)
  | 0, m, i, _, h => by unfold popc at h; omega
  | f + 1, m, i, hm, hi => by
    have e : (2 : Nat) ^ (f + 1) = 2 * 2 ^ f := by rw [Nat.pow_succ]; omega
    have hp := Nat.two_pow_pos f
    have l1 := dep_le f (m / 2) (i / 2) (by omega); have l2 := dep_le f (m / 2) i (by omega)
    unfold popc at hi
    by_cases h : m % 2 = 1
    · rw [h, Nat.add_comm 1, Nat.pow_succ] at hi
      by_cases c : i % 2 = 0
      · have h1 := dep_in f (m / 2) (i / 2) (by omega)
        have a := and_e 1 (2 ^ f - 1 - (m / 2 - dep f (m / 2) (i / 2))) 1 (m / 2) (by omega) (by omega)
        rw [h1, show 1 &&& 1 = 1 from rfl, show 1 + 2 * (m / 2) = m by omega] at a
        simp only [dep, if_pos h]
        rw [show (i + 1) / 2 = i / 2 by omega, show (i + 1) % 2 = 1 by omega, ← a]; congr 1; omega
      · have h1 := dep_s f (m / 2) (i / 2) (by omega) (by omega)
        have a := and_e 0 (2 ^ f - (m / 2 - dep f (m / 2) (i / 2))) 1 (m / 2) (by omega) (by omega)
        rw [h1, show 0 &&& 1 = 0 from rfl, show 1 + 2 * (m / 2) = m by omega] at a
        simp only [dep, if_pos h]
        rw [show (i + 1) / 2 = i / 2 + 1 by omega, show (i + 1) % 2 = 0 by omega, ← a]; congr 1; omega
    · rw [show m % 2 = 0 by omega, Nat.zero_add] at hi
      have h1 := dep_s f (m / 2) i (by omega) hi
      have a := and_e 0 (2 ^ f - (m / 2 - dep f (m / 2) i)) 0 (m / 2) (by omega) (by omega)
      rw [h1, show 0 &&& 0 = 0 from rfl, Nat.zero_add, Nat.zero_add, Nat.zero_add, show 2 * (m / 2) = m by omega] at a
      simp only [dep, if_neg h]
      rw [← a]; congr 1; omega
theorem dep_e : ∀ f m i, m < 2 ^ f → i < 2 ^ popc f m → (dep f m i = m ↔ i + 1 = 2 ^ popc f m)
  | 0, m, i, hm, hi => by unfold popc at hi ⊢; unfold dep; omega
  | f + 1, m, i, hm, hi => by
    have e : (2 : Nat) ^ (f + 1) = 2 * 2 ^ f := by rw [Nat.pow_succ]; omega
    unfold popc at hi ⊢
    by_cases h : m % 2 = 1
    · rw [h, Nat.add_comm 1, Nat.pow_succ] at hi ⊢
      have h1 := dep_e f (m / 2) (i / 2) (by omega) (by omega)
      simp only [dep, if_pos h]
      omega
    · rw [show m % 2 = 0 by omega, Nat.zero_add] at hi ⊢
      have h1 := dep_e f (m / 2) i (by omega) hi
      simp only [dep, if_neg h]
      omega
/-- the machine's walk: (sub - set) & set -/
def sqI (m : Nat) : Nat → Int32
  | 0 => 0
  | k + 1 => (sqI m k - nI m) &&& nI m
theorem sub_nn {a b : Nat} (hb : b < 2 ^ 32) : nI a - nI b = nI (2 ^ 32 + a - b) := by
  have h : nI (2 ^ 32 + a - b) + nI b = nI a := by
    rw [nI_add, show 2 ^ 32 + a - b + b = a + 2 ^ 32 by omega]
    apply Int32.toBitVec_inj.1
    show BitVec.ofNat 32 (a + 2 ^ 32) = BitVec.ofNat 32 a
    apply BitVec.eq_of_toNat_eq
    rw [BitVec.toNat_ofNat, BitVec.toNat_ofNat, Nat.add_mod_right]
  rw [← h]; grind
theorem sq_dep {m : Nat} (hm : m < 2 ^ 32) : ∀ k, k < 2 ^ popc 32 m → sqI m k = nI (dep 32 m k)
  | 0, _ => by rw [dep_0]; rfl
  | k + 1, h => by
    have ih := sq_dep hm k (by omega)
    have l := dep_le 32 m k hm
    unfold sqI
    rw [ih, sub_nn hm, nx_and, show 2 ^ 32 + dep 32 m k - m = 2 ^ 32 - (m - dep 32 m k) by omega, dep_s 32 m k hm h]
theorem dep_sub {m : Nat} (hm : m < 2 ^ 32) (k g : Nat) (h : (dep 32 m k).testBit g = true) : m.testBit g = true := by
  have := dep_in 32 m k hm
  rw [← this, Nat.testBit_and] at h
  rw [Bool.and_eq_true] at h
  exact h.2
/-- what is laid at SHUT by a set -/
def shS (S : Nat → Int32) (v : Int32) (m : Nat) : Nat → Nat → Int32
  | 0 => S
  | g + 1 => if m.testBit g = true then upd (shS S v m g) (16 + 8 * g) v else shS S v m g
def sjS (X : Nat → Int32) (m q : Nat) : Nat → Nat → Int32
  | 0 => X
  | g + 1 => if m.testBit g = true then upd (sjS X m q g) (16 + 8 * g) (b2i (q.testBit g = true)) else sjS X m q g
def cst (S : Nat → Int32) (q : Nat) : Nat → Int32
  | 0 => 0
  | g + 1 => if q.testBit g = true then cst S q g + S (15 + 8 * g) else cst S q g
def sjC (X : Nat → Int32) (m q : Nat) : Nat → Int32
  | 0 => 0
  | g + 1 => if m.testBit g = true then sjC X m q g + (if q.testBit g = true then X (15 + 8 * g) else 0) else sjC X m q g
theorem sh_ne (g k : Nat) : 16 + 8 * g ≠ k ∨ k = 16 + 8 * g := by omega
theorem shS_k (S : Nat → Int32) (v : Int32) (m : Nat) : ∀ n k, shS S v m n k = if (k % 8 = 0 ∧ 16 ≤ k ∧ (k - 16) / 8 < n) ∧ m.testBit ((k - 16) / 8) = true then v else S k
  | 0, k => by rw [if_neg (by omega)]; rfl
  | n + 1, k => by
    have ih := shS_k S v m n k
    unfold shS
    by_cases h : k = 16 + 8 * n
    · have e : (k - 16) / 8 = n := by omega
      rw [e]
      by_cases b : m.testBit n = true
      · rw [if_pos b, if_pos ⟨by omega, b⟩, h, upd_s]
      · rw [if_neg b, if_neg (fun q => b q.2), ih, e, if_neg (by omega)]
    · have e2 : (if m.testBit n = true then upd (shS S v m n) (16 + 8 * n) v else shS S v m n) k = shS S v m n k := by
        by_cases b : m.testBit n = true
        · rw [if_pos b, upd_n h]
        · rw [if_neg b]
      rw [e2, ih]
      by_cases c : (k % 8 = 0 ∧ 16 ≤ k ∧ (k - 16) / 8 < n)
      · have c2 : (k % 8 = 0 ∧ 16 ≤ k ∧ (k - 16) / 8 < n + 1) := by omega
        simp only [c, c2, true_and]
      · have c2 : ¬ (k % 8 = 0 ∧ 16 ≤ k ∧ (k - 16) / 8 < n + 1) := by omega
        rw [if_neg (fun q => c q.1), if_neg (fun q => c2 q.1)]
theorem sjS_k (S : Nat → Int32) (m q : Nat) : ∀ n k, sjS S m q n k = if (k % 8 = 0 ∧ 16 ≤ k ∧ (k - 16) / 8 < n) ∧ m.testBit ((k - 16) / 8) = true then b2i (q.testBit ((k - 16) / 8) = true) else S k
  | 0, k => by rw [if_neg (by omega)]; rfl
  | n + 1, k => by
    have ih := sjS_k S m q n k
    unfold sjS
    by_cases h : k = 16 + 8 * n
    · have e : (k - 16) / 8 = n := by omega
      rw [e]
      by_cases b : m.testBit n = true
      · rw [if_pos b, if_pos ⟨by omega, b⟩, h, upd_s]
      · rw [if_neg b, if_neg (fun q => b q.2), ih, e, if_neg (by omega)]
    · have e2 : (if m.testBit n = true then upd (sjS S m q n) (16 + 8 * n) (b2i (q.testBit n = true)) else sjS S m q n) k = sjS S m q n k := by
        by_cases b : m.testBit n = true
        · rw [if_pos b, upd_n h]
        · rw [if_neg b]
      rw [e2, ih]
      by_cases c : (k % 8 = 0 ∧ 16 ≤ k ∧ (k - 16) / 8 < n)
      · have c2 : (k % 8 = 0 ∧ 16 ≤ k ∧ (k - 16) / 8 < n + 1) := by omega
        simp only [c, c2, true_and]
      · have c2 : ¬ (k % 8 = 0 ∧ 16 ≤ k ∧ (k - 16) / 8 < n + 1) := by omega
        rw [if_neg (fun q => c q.1), if_neg (fun q => c2 q.1)]
theorem sjS_2 (S : Nat → Int32) (m q q2 n : Nat) : sjS (sjS S m q n) m q2 n = sjS S m q2 n := funext fun k => by
  rw [sjS_k, sjS_k, sjS_k]
  by_cases c : (k % 8 = 0 ∧ 16 ≤ k ∧ (k - 16) / 8 < n) ∧ m.testBit ((k - 16) / 8) = true
  · rw [if_pos c, if_pos c]
  · rw [if_neg c, if_neg c, if_neg c]
theorem sjS_15 (S : Nat → Int32) (m q n g : Nat) : sjS S m q n (15 + 8 * g) = S (15 + 8 * g) := by rw [sjS_k, if_neg (by omega)]
theorem sjS_lo (S : Nat → Int32) (m q n : Nat) {k : Nat} (h : k < 16) : sjS S m q n k = S k := by rw [sjS_k, if_neg (by omega)]
theorem sjC_c {X S : Nat → Int32} (m q : Nat) (h : ∀ g, X (15 + 8 * g) = S (15 + 8 * g)) : ∀ n, sjC X m q n = sjC S m q n
  | 0 => rfl
  | n + 1 => by unfold sjC; rw [sjC_c m q h n, h n]
/-- m's gaps are open -/
def opn (S : Nat → Int32) (m n : Nat) : Prop := ∀ g, g < n → m.testBit g = true → S (16 + 8 * g) = 0
theorem sjS_sh {S : Nat → Int32} {m q n : Nat} (ho : opn S m n) (hq : ∀ g, q.testBit g = true → m.testBit g = true) : sjS S m q n = shS S 1 q n := funext fun k => by
  rw [sjS_k, shS_k]
  by_cases c : (k % 8 = 0 ∧ 16 ≤ k ∧ (k - 16) / 8 < n)
  · by_cases b : q.testBit ((k - 16) / 8) = true
    · rw [if_pos ⟨c, hq _ b⟩, if_pos ⟨c, b⟩, b2i_t b]
    · rw [if_neg (c := _ ∧ q.testBit _ = true) (fun z => b z.2)]
      by_cases d : m.testBit ((k - 16) / 8) = true
      · rw [if_pos ⟨c, d⟩, b2i_f b, show k = 16 + 8 * ((k - 16) / 8) by omega, ho _ (by omega) d]
      · rw [if_neg (fun z => d z.2)]
  · rw [if_neg (fun z => c z.1), if_neg (fun z => c z.1)]
theorem sjC_sh {S : Nat → Int32} {m q : Nat} (hq : ∀ g, q.testBit g = true → m.testBit g = true) : ∀ n, sjC S m q n = cst S q n
  | 0 => rfl
  | n + 1 => by
    unfold sjC cst
    rw [sjC_sh hq n]
    by_cases b : q.testBit n = true
    · rw [if_pos (hq n b), if_pos b, if_pos b]
    · rw [if_neg b, if_neg b]
      by_cases d : m.testBit n = true
      · rw [if_pos d]; grind
      · rw [if_neg d]
/-- shut, and open again -/
theorem shS_back {S : Nat → Int32} {q n : Nat} (ho : opn S q n) : shS (shS S 1 q n) 0 q n = S := funext fun k => by
  rw [shS_k, shS_k]
  by_cases c : (k % 8 = 0 ∧ 16 ≤ k ∧ (k - 16) / 8 < n) ∧ q.testBit ((k - 16) / 8) = true
  · rw [if_pos c, show k = 16 + 8 * ((k - 16) / 8) by omega, ho _ (by omega) c.2]
  · rw [if_neg c, if_neg c]
theorem sjS_wf {S : Nat → Int32} (w : wf S) (m q : Nat) : ∀ n, n ≤ 20 → wf (sjS S m q n) ∧ rcN (sjS S m q n) = rcN S ∧ gcN (sjS S m q n) = gcN S
  | 0, _ => ⟨w, rfl, rfl⟩
  | n + 1, h => by
    have ih := sjS_wf w m q n (by omega)
    unfold sjS
    by_cases b : m.testBit n = true
    · rw [if_pos b]
      have := wf_sh ih.1 (j := n) (x := b2i (q.testBit n = true)) (by omega) (b2i_01 _)
      exact ⟨this.1, this.2.1.trans ih.2.1, this.2.2.1.trans ih.2.2⟩
    · rw [if_neg b]; exact ih
theorem shS_wf {S : Nat → Int32} (w : wf S) {v : Int32} (hv : v = 0 ∨ v = 1) (q : Nat) : ∀ n, n ≤ 20 → wf (shS S v q n) ∧ rcN (shS S v q n) = rcN S ∧ gcN (shS S v q n) = gcN S
  | 0, _ => ⟨w, rfl, rfl⟩
  | n + 1, h => by
    have ih := shS_wf w hv q n (by omega)
    unfold shS
    by_cases b : q.testBit n = true
    · rw [if_pos b]
      have := wf_sh ih.1 (j := n) (x := v) (by omega) hv
      exact ⟨this.1, this.2.1.trans ih.2.1, this.2.2.1.trans ih.2.2⟩
    · rw [if_neg b]; exact ih
/-- the best STOP among the first k subsets -/
abbrev bet (b l v x : Int32) : Prop := b < 0 ∨ v < l ∨ (v = l ∧ popI x < popI b)
abbrev goodS (S : Nat → Int32) (q : Nat) (coin least : Int32) : Prop := cst S q (gcN S) ≤ coin ∧ least ≤ fresh (shS S 1 q (gcN S)) ∧ smokes (shS S 1 q (gcN S)) = false
def stP (S : Nat → Int32) (m : Nat) (coin least : Int32) : Nat → Int32 × Int32
  | 0 => (-1, 0)
  | k + 1 => if goodS S (dep 32 m k) coin least ∧ bet (stP S m coin least k).1 (stP S m coin least k).2 (lost (shS S 1 (dep 32 m k) (gcN S))) (nI (dep 32 m k)) then (nI (dep 32 m k), lost (shS S 1 (dep 32 m k) (gcN S))) else stP S m coin least k
def spB (S : Nat → Int32) (m : Nat) (coin least : Int32) (k : Nat) : Int32 := (stP S m coin least k).1
def spL (S : Nat → Int32) (m : Nat) (coin least : Int32) (k : Nat) : Int32 := (stP S m coin least k).2
theorem bet_neg {b l l2 v x : Int32} (h : ¬ b < 0 → l = l2) : bet b l v x ↔ bet b l2 v x := by
  unfold bet
  by_cases q : b < 0
  · simp [q]
  · rw [h q]
theorem spB_nat (S : Nat → Int32) {m : Nat} (hm : m < 2 ^ 20) (coin least : Int32) : ∀ k, spB S m coin least k = -1 ∨ ∃ q, q < 2 ^ 20 ∧ spB S m coin least k = nI q
  | 0 => Or.inl rfl
  | k + 1 => by
    have ih := spB_nat S hm coin least k
    have l := dep_le 32 m k (by omega)
    unfold spB stP
    by_cases c : goodS S (dep 32 m k) coin least ∧ bet (stP S m coin least k).1 (stP S m coin least k).2 (lost (shS S 1 (dep 32 m k) (gcN S))) (nI (dep 32 m k))
    · rw [if_pos c]; exact Or.inr ⟨dep 32 m k, by omega, rfl⟩
    · rw [if_neg c]; exact ih
theorem stP_s (S : Nat → Int32) (m : Nat) (coin least : Int32) (k : Nat) : stP S m coin least (k + 1) = if goodS S (dep 32 m k) coin least ∧ bet (stP S m coin least k).1 (stP S m coin least k).2 (lost (shS S 1 (dep 32 m k) (gcN S))) (nI (dep 32 m k)) then (nI (dep 32 m k), lost (shS S 1 (dep 32 m k) (gcN S))) else stP S m coin least k := rfl
theorem tri {S X : Nat → Int32} {m : Nat} (w : wf S) (h : X = S ∨ ∃ q, X = sjS S m q (gcN S)) : wf X ∧ gcN X = gcN S ∧ (∀ q, sjS X m q (gcN X) = sjS S m q (gcN S)) ∧ (∀ q, sjC X m q (gcN X) = sjC S m q (gcN S)) := by
  rcases h with rfl | ⟨q, rfl⟩
  · exact ⟨w, rfl, fun _ => rfl, fun _ => rfl⟩
  · have a := sjS_wf w m q (gcN S) (wf_g20 w)
    refine ⟨a.1, a.2.2, fun r => ?_, fun r => ?_⟩
    · rw [a.2.2, sjS_2]
    · rw [a.2.2, sjC_c m r (sjS_15 S m q (gcN S))]
theorem sp_s {S : Nat → Int32} {m k : Nat} {co le sl sc : Int32} (hm : m < 2 ^ 31) (hb : ¬ spB S m co le k < 0 → sl = spL S m co le k ∧ sc = cst S (bstN (spB S m co le k)) (gcN S)) :
    (if cst S (dep 32 m k) (gcN S) ≤ co ∧ le ≤ fresh (shS S 1 (dep 32 m k) (gcN S)) ∧ smokes (shS S 1 (dep 32 m k) (gcN S)) = false ∧ bet (spB S m co le k) sl (lost (shS S 1 (dep 32 m k) (gcN S))) (nI (dep 32 m k)) then nI (dep 32 m k) else spB S m co le k) = spB S m co le (k + 1)
    ∧ (¬ spB S m co le (k + 1) < 0 →
      (if cst S (dep 32 m k) (gcN S) ≤ co ∧ le ≤ fresh (shS S 1 (dep 32 m k) (gcN S)) ∧ smokes (shS S 1 (dep 32 m k) (gcN S)) = false ∧ bet (spB S m co le k) sl (lost (shS S 1 (dep 32 m k) (gcN S))) (nI (dep 32 m k)) then lost (shS S 1 (dep 32 m k) (gcN S)) else sl) = spL S m co le (k + 1)
      ∧ (if cst S (dep 32 m k) (gcN S) ≤ co ∧ le ≤ fresh (shS S 1 (dep 32 m k) (gcN S)) ∧ smokes (shS S 1 (dep 32 m k) (gcN S)) = false ∧ bet (spB S m co le k) sl (lost (shS S 1 (dep 32 m k) (gcN S))) (nI (dep 32 m k)) then cst S (dep 32 m k) (gcN S) else sc) = cst S (bstN (spB S m co le (k + 1))) (gcN S)) := by
  have l := dep_le 32 m k (by omega)
  have e : bstN (nI (dep 32 m k)) = dep 32 m k := by unfold bstN; rw [nI_clamp (by omega)]
  have hbb := bet_neg (v := lost (shS S 1 (dep 32 m k) (gcN S))) (x := nI (dep 32 m k)) (fun q => (hb q).1)
  have hiff : (cst S (dep 32 m k) (gcN S) ≤ co ∧ le ≤ fresh (shS S 1 (dep 32 m k) (gcN S)) ∧ smokes (shS S 1 (dep 32 m k) (gcN S)) = false ∧ bet (spB S m co le k) sl (lost (shS S 1 (dep 32 m k) (gcN S))) (nI (dep 32 m k))) ↔ (goodS S (dep 32 m k) co le ∧ bet (stP S m co le k).1 (stP S m co le k).2 (lost (shS S 1 (dep 32 m k) (gcN S))) (nI (dep 32 m k))) :=
    ⟨fun z => ⟨⟨z.1, z.2.1, z.2.2.1⟩, hbb.mp z.2.2.2⟩, fun z => ⟨z.1.1, z.1.2.1, z.1.2.2, hbb.mpr z.2⟩⟩
  by_cases q : (cst S (dep 32 m k) (gcN S) ≤ co ∧ le ≤ fresh (shS S 1 (dep 32 m k) (gcN S)) ∧ smokes (shS S 1 (dep 32 m k) (gcN S)) = false ∧ bet (spB S m co le k) sl (lost (shS S 1 (dep 32 m k) (gcN S))) (nI (dep 32 m k)))
  · have e2 : stP S m co le (k + 1) = (nI (dep 32 m k), lost (shS S 1 (dep 32 m k) (gcN S))) := (stP_s S m co le k).trans (if_pos (hiff.mp q))
    have es : spB S m co le (k + 1) = nI (dep 32 m k) := congrArg Prod.fst e2
    have el : spL S m co le (k + 1) = lost (shS S 1 (dep 32 m k) (gcN S)) := congrArg Prod.snd e2
    rw [es, el, if_pos q, if_pos q, if_pos q, e]
    exact ⟨rfl, fun _ => ⟨rfl, rfl⟩⟩
  · have e2 : stP S m co le (k + 1) = stP S m co le k := (stP_s S m co le k).trans (if_neg (fun z => q (hiff.mpr z)))
    have es : spB S m co le (k + 1) = spB S m co le k := congrArg Prod.fst e2
    have el : spL S m co le (k + 1) = spL S m co le k := congrArg Prod.snd e2
    rw [es, el, if_neg q, if_neg q, if_neg q]
    exact ⟨rfl, hb⟩
