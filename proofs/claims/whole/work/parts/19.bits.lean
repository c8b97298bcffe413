/-! bits: counts of ones, the subsets of a set in their order, what is shut by a set (nx_and, s_l, s_u: out of the kit's BITS) -/
theorem s_l : ∀ n, n < 32 → ((nI n &&& 31).toBitVec.smod 32).toNat = n := by decide +kernel
theorem s_u : ∀ n, n < 32 → (((nI n).toUInt32 &&& Int32.toUInt32 31).toBitVec % 32).toNat = n := by decide +kernel
theorem nx_and (a b : Nat) : nI a &&& nI b = nI (a &&& b) := by
  apply Int32.toBitVec_inj.1
  show BitVec.ofNat 32 a &&& BitVec.ofNat 32 b = BitVec.ofNat 32 (a &&& b)
  apply BitVec.eq_of_getLsbD_eq
  intro i hi
  simp [hi]
theorem ush_n {m g : Nat} (hm : m < 2 ^ 32) (hg : g < 32) : ((nI m).toUInt32 >>> ((nI g).toUInt32 &&& Int32.toUInt32 31)).toInt32 = nI (m / 2 ^ g) := pk_ushrN hm (nI g) g (s_u g hg)
theorem shr_n {m g : Nat} (hm : m < 2 ^ 31) (hg : g < 32) : nI m >>> (nI g &&& 31) = nI (m / 2 ^ g) := pk_shrN hm (nI g &&& 31) g (s_l g hg)
theorem shl_1 {g : Nat} (hg : g < 31) : (1 : Int32) <<< (nI g &&& 31) = nI (2 ^ g) := by
  have h := pk_shlN (n := 1) (nI g &&& 31) g (s_l g (by omega)) (by rw [Nat.one_mul]; exact Nat.pow_lt_pow_right (by decide) (by omega))
  rw [Nat.one_mul] at h
  exact h
/-- how many ones the lowest f bits have -/
def popc : Nat → Nat → Nat
  | 0, _ => 0
  | f + 1, m => m % 2 + popc f (m / 2)
theorem popc_add : ∀ (f g b c : Nat), b < 2 ^ f → popc (f + g) (b + 2 ^ f * c) = popc f b + popc g c
  | 0, g, b, c, h => by
    have : b = 0 := by omega
    subst this; simp [popc]
  | f + 1, g, b, c, h => by
    have h2 : (2 : Nat) ^ (f + 1) = 2 * 2 ^ f := by rw [Nat.pow_succ]; omega
    rw [show f + 1 + g = (f + g) + 1 by omega]
    show (b + 2 ^ (f + 1) * c) % 2 + popc (f + g) ((b + 2 ^ (f + 1) * c) / 2) = (b % 2 + popc f (b / 2)) + popc g c
    rw [h2] at h ⊢
    have e1 : (b + 2 * 2 ^ f * c) % 2 = b % 2 := by rw [Nat.mul_assoc]; omega
    have e2 : (b + 2 * 2 ^ f * c) / 2 = b / 2 + 2 ^ f * c := by rw [Nat.mul_assoc]; omega
    rw [e1, e2, popc_add f g (b / 2) c (by omega)]; omega
theorem popc_0 : ∀ f, popc f 0 = 0
  | 0 => rfl
  | f + 1 => by unfold popc; rw [show 0 / 2 = 0 from rfl, popc_0 f]
theorem and_split (k a b c d : Nat) (ha : a < 2 ^ k) (hc : c < 2 ^ k) : (a + 2 ^ k * b) &&& (c + 2 ^ k * d) = (a &&& c) + 2 ^ k * (b &&& d) := by
  have h1 : ((a + 2 ^ k * b) &&& (c + 2 ^ k * d)) % 2 ^ k = a &&& c := by
    rw [Nat.and_mod_two_pow, Nat.add_mul_mod_self_left, Nat.add_mul_mod_self_left, Nat.mod_eq_of_lt ha, Nat.mod_eq_of_lt hc]
  have h2 : ((a + 2 ^ k * b) &&& (c + 2 ^ k * d)) / 2 ^ k = b &&& d := by
    rw [Nat.and_div_two_pow, Nat.add_mul_div_left _ _ (Nat.two_pow_pos k), Nat.add_mul_div_left _ _ (Nat.two_pow_pos k), Nat.div_eq_of_lt ha, Nat.div_eq_of_lt hc, Nat.zero_add, Nat.zero_add]
  have := Nat.mod_add_div ((a + 2 ^ k * b) &&& (c + 2 ^ k * d)) (2 ^ k)
  rw [h1, h2] at this
  exact this.symm
/-- four bytes and a mask of four equal ones -/
theorem and_4 {a b c d x : Nat} (ha : a < 256) (hb : b < 256) (hc : c < 256) (hx : x < 256) : (a + 256 * (b + 256 * (c + 256 * d))) &&& (x + 256 * (x + 256 * (x + 256 * x))) = (a &&& x) + 256 * ((b &&& x) + 256 * ((c &&& x) + 256 * (d &&& x))) := by
  have s := fun p q r t (h1 : p < 256) (h2 : r < 256) => and_split 8 p q r t h1 h2
  rw [s a _ x _ ha hx, s b _ x _ hb hx, s c _ x _ hc hx]
theorem byte_1 : ∀ b, b < 256 → ∀ q, q < 2 → (b / 2 + 128 * q) &&& 85 = b / 2 &&& 85 := by decide +kernel
theorem byte_2 : ∀ b, b < 256 → ∀ q, q < 4 → (b / 4 + 64 * q) &&& 51 = b / 4 &&& 51 := by decide +kernel
theorem byte_le : ∀ b, b < 256 → (b / 2 &&& 85) ≤ b := by decide +kernel
def b1 (b : Nat) : Nat := b - (b / 2 &&& 85)
def b2 (b : Nat) : Nat := (b &&& 51) + (b / 4 &&& 51)
theorem byte_b2 : ∀ b, b < 256 → b1 b < 256 ∧ b2 (b1 b) ≤ 68 ∧ b2 (b1 b) % 16 ≤ 4 ∧ ((b2 (b1 b) + b2 (b1 b) / 16) % 16) = popc 8 b ∧ popc 8 b ≤ 8 := by decide +kernel
theorem byte_3 : ∀ c, c ≤ 136 → ∀ q, q < 5 → (c + 16 * q) &&& 15 = c % 16 := by decide +kernel
theorem pop_1 {a b c d : Nat} (ha : a < 256) (hb : b < 256) (hc : c < 256) (hd : d < 256) : (a + 256 * (b + 256 * (c + 256 * d))) - ((a + 256 * (b + 256 * (c + 256 * d))) / 2 &&& 1431655765) = b1 a + 256 * (b1 b + 256 * (b1 c + 256 * b1 d)) ∧ ((a + 256 * (b + 256 * (c + 256 * d))) / 2 &&& 1431655765) ≤ a + 256 * (b + 256 * (c + 256 * d)) := by
  have e : (a + 256 * (b + 256 * (c + 256 * d))) / 2 = (a / 2 + 128 * (b % 2)) + 256 * ((b / 2 + 128 * (c % 2)) + 256 * ((c / 2 + 128 * (d % 2)) + 256 * (d / 2))) := by omega
  have m := and_4 (a := a / 2 + 128 * (b % 2)) (b := b / 2 + 128 * (c % 2)) (c := c / 2 + 128 * (d % 2)) (d := d / 2) (x := 85) (by omega) (by omega) (by omega) (by decide)
  rw [byte_1 a ha _ (by omega), byte_1 b hb _ (by omega), byte_1 c hc _ (by omega)] at m
  rw [e, show (1431655765 : Nat) = 85 + 256 * (85 + 256 * (85 + 256 * 85)) from rfl, m]
  have h1 := byte_le a ha; have h2 := byte_le b hb; have h3 := byte_le c hc; have h4 := byte_le d hd
  unfold b1
  omega
theorem pop_2 {a b c d : Nat} (ha : a < 256) (hb : b < 256) (hc : c < 256) (hd : d < 256) : ((a + 256 * (b + 256 * (c + 256 * d))) &&& 858993459) + ((a + 256 * (b + 256 * (c + 256 * d))) / 4 &&& 858993459) = b2 a + 256 * (b2 b + 256 * (b2 c + 256 * b2 d)) := by
  have e : (a + 256 * (b + 256 * (c + 256 * d))) / 4 = (a / 4 + 64 * (b % 4)) + 256 * ((b / 4 + 64 * (c % 4)) + 256 * ((c / 4 + 64 * (d % 4)) + 256 * (d / 4))) := by omega
  have m := and_4 (a := a / 4 + 64 * (b % 4)) (b := b / 4 + 64 * (c % 4)) (c := c / 4 + 64 * (d % 4)) (d := d / 4) (x := 51) (by omega) (by omega) (by omega) (by decide)
  rw [byte_2 a ha _ (by omega), byte_2 b hb _ (by omega), byte_2 c hc _ (by omega)] at m
  have n := and_4 (a := a) (b := b) (c := c) (d := d) (x := 51) ha hb hc (by decide)
  rw [e, show (858993459 : Nat) = 51 + 256 * (51 + 256 * (51 + 256 * 51)) from rfl, m, n]
  unfold b2
  omega
theorem pop_3 {a b c d : Nat} (ha : a ≤ 68) (hb : b ≤ 68) (hc : c ≤ 68) (hd : d ≤ 68) (hb4 : b % 16 ≤ 4) (hc4 : c % 16 ≤ 4) (hd4 : d % 16 ≤ 4) : ((a + 256 * (b + 256 * (c + 256 * d))) + (a + 256 * (b + 256 * (c + 256 * d))) / 16) &&& 252645135 = (a + a / 16) % 16 + 256 * ((b + b / 16) % 16 + 256 * ((c + c / 16) % 16 + 256 * ((d + d / 16) % 16))) := by
  have e : (a + 256 * (b + 256 * (c + 256 * d))) + (a + 256 * (b + 256 * (c + 256 * d))) / 16 = ((a + a / 16) + 16 * (b % 16)) + 256 * (((b + b / 16) + 16 * (c % 16)) + 256 * (((c + c / 16) + 16 * (d % 16)) + 256 * (d + d / 16))) := by omega
  have m := and_4 (a := (a + a / 16) + 16 * (b % 16)) (b := (b + b / 16) + 16 * (c % 16)) (c := (c + c / 16) + 16 * (d % 16)) (d := d + d / 16) (x := 15) (by omega) (by omega) (by omega) (by decide)
  have q := byte_3 (d + d / 16) (by omega) 0 (by omega)
  rw [Nat.mul_zero, Nat.add_zero] at q
  rw [byte_3 (a + a / 16) (by omega) _ (by omega), byte_3 (b + b / 16) (by omega) _ (by omega), byte_3 (c + c / 16) (by omega) _ (by omega), q] at m
  rw [e, show (252645135 : Nat) = 15 + 256 * (15 + 256 * (15 + 256 * 15)) from rfl, m]
def pop (m : Nat) : Nat := popc 32 m
def hd1 (m : Nat) : Nat := m - (m / 2 &&& 1431655765)
def hd2 (m : Nat) : Nat := (m &&& 858993459) + (m / 4 &&& 858993459)
def hd3 (m : Nat) : Nat := (m + m / 16) &&& 252645135
theorem pop_all {m : Nat} (hm : m < 2 ^ 32) : (m / 2 &&& 1431655765) ≤ m ∧ hd1 m < 2 ^ 32 ∧ hd2 (hd1 m) < 2 ^ 31 ∧ hd3 (hd2 (hd1 m)) < 2 ^ 28 ∧ ((hd3 (hd2 (hd1 m)) + hd3 (hd2 (hd1 m)) / 256) + (hd3 (hd2 (hd1 m)) + hd3 (hd2 (hd1 m)) / 256) / 65536) % 64 = pop m := by
  obtain ⟨a, b, c, d, ha, hb, hc, hd, rfl⟩ : ∃ a b c d, a < 256 ∧ b < 256 ∧ c < 256 ∧ d < 256 ∧ m = a + 256 * (b + 256 * (c + 256 * d)) := ⟨m % 256, m / 256 % 256, m / 65536 % 256, m / 16777216, by omega, by omega, by omega, by omega, by omega⟩
  obtain ⟨a1, a2, a3, a4, a5⟩ := byte_b2 a ha
  obtain ⟨b1', b2', b3, b4, b5⟩ := byte_b2 b hb
  obtain ⟨c1, c2, c3, c4, c5⟩ := byte_b2 c hc
  obtain ⟨d1, d2, d3, d4, d5⟩ := byte_b2 d hd
  have p1 := pop_1 ha hb hc hd
  have e1 : hd1 (a + 256 * (b + 256 * (c + 256 * d))) = b1 a + 256 * (b1 b + 256 * (b1 c + 256 * b1 d)) := p1.1
  have e2 : hd2 (b1 a + 256 * (b1 b + 256 * (b1 c + 256 * b1 d))) = _ := pop_2 a1 b1' c1 d1
  have e3 : hd3 (b2 (b1 a) + 256 * (b2 (b1 b) + 256 * (b2 (b1 c) + 256 * b2 (b1 d)))) = _ := pop_3 a2 b2' c2 d2 b3 c3 d3
  have e4 : pop (a + 256 * (b + 256 * (c + 256 * d))) = popc 8 a + (popc 8 b + (popc 8 c + popc 8 d)) := by
    have h1 := popc_add 8 24 a (b + 256 * (c + 256 * d)) ha
    have h2 := popc_add 8 16 b (c + 256 * d) hb
    have h3 := popc_add 8 8 c d hc
    unfold pop
    exact h1.trans (congrArg (popc 8 a + ·) (h2.trans (congrArg (popc 8 b + ·) h3)))
  rw [e1, e2, e3, e4, a4, b4, c4, d4]
  generalize popc 8 a = p at a5 ⊢
  generalize popc 8 b = q at b5 ⊢
  generalize popc 8 c = r at c5 ⊢
  generalize popc 8 d = s at d5 ⊢
  refine ⟨p1.2, by omega, by omega, by omega, ?_⟩
  clear e1 e2 e3 e4 p1 a1 a2 a3 a4 b1' b2' b3 b4 c1 c2 c3 c4 d1 d2 d3 d4 ha hb hc hd hm
  have h1 : (p + 256 * (q + 256 * (r + 256 * s))) / 256 = q + 256 * (r + 256 * s) := by omega
  rw [h1]
  have h2 : (p + 256 * (q + 256 * (r + 256 * s))) + (q + 256 * (r + 256 * s)) = ((p + q) + 256 * (q + r)) + 65536 * ((r + s) + 256 * s) := by omega
  rw [h2]
  have h3 : (((p + q) + 256 * (q + r)) + 65536 * ((r + s) + 256 * s)) / 65536 = (r + s) + 256 * s := by
    rw [Nat.add_mul_div_left _ _ (by decide), Nat.div_eq_of_lt (by omega), Nat.zero_add]
  rw [h3]
  omega
theorem and_63 (m : Nat) : m &&& 63 = m % 64 := Nat.and_two_pow_sub_one_eq_mod m 6
