/-! branches by what they ask, loops and joins over a method's world, fields -/
def b2i (P : Prop) [Decidable P] : Int32 := if P then 1 else 0
theorem b2i_t {P : Prop} [Decidable P] (h : P) : b2i P = 1 := if_pos h
theorem b2i_f {P : Prop} [Decidable P] (h : ¬ P) : b2i P = 0 := if_neg h
theorem b2i_01 (P : Prop) [Decidable P] : b2i P = 0 ∨ b2i P = 1 := by
  by_cases h : P
  · exact Or.inr (b2i_t h)
  · exact Or.inl (b2i_f h)
theorem b2i_z (P : Prop) [Decidable P] : narrow .boolean (.int (b2i P)) = .int (b2i P) := by
  rcases b2i_01 P with h | h <;> rw [h] <;> rfl
theorem b2i_fits (P : Prop) [Decidable P] : fits .boolean (.int (b2i P)) = true := by
  rcases b2i_01 P with h | h <;> rw [h] <;> rfl
theorem b2i_iff {P R : Prop} [Decidable P] [Decidable R] (h : P ↔ R) : b2i P = b2i R := by
  by_cases hp : P
  · rw [b2i_t hp, b2i_t (h.mp hp)]
  · rw [b2i_f hp, b2i_f (fun q => hp (h.mpr q))]
theorem nI_inc (i : Nat) : nI i + Int32.ofInt 1 = nI (i + 1) := nI_1 i
section BR
variable {p : Program} {l : Launch} {e : Env} {R : Room} {s : State} {m : MethodId} {args : Array Value} {below : List Frame} {meth : Method} {c : Code} {H : Heap} {locs : List Loc} {cells slots : Nat} {Q : State → Prop}
variable {cc : ByteArray} {pc : Nat} {ls : Array Slot} {rest : List Value}
theorem lb_eq {P : Prop} [Decidable P] (hexec : p.tables.exec = Jvm.exec) (hb : c.code = cc) {off : Int} {tgt : Nat} (hdg : decode cc pc = .ok (.ifCond .eq off, 3)) (ht : (pc : Int) + off = (tgt : Int))
    (kt : ¬ P → W p l e R s m args below meth c H locs cells slots Q (F0 m tgt ls rest)) (kf : P → W p l e R s m args below meth c H locs cells slots Q (F0 m (pc + 3) ls rest)) : W p l e R s m args below meth c H locs cells slots Q (F0 m pc ls (.int (b2i P) :: rest)) :=
  lv_if_eq hexec hb hdg ht (fun h => kt (fun q => by rw [b2i_t q] at h; exact absurd h (by decide))) (fun h => kf (Classical.byContradiction (fun q => h (b2i_f q))))
theorem lb_ne {P : Prop} [Decidable P] (hexec : p.tables.exec = Jvm.exec) (hb : c.code = cc) {off : Int} {tgt : Nat} (hdg : decode cc pc = .ok (.ifCond .ne off, 3)) (ht : (pc : Int) + off = (tgt : Int))
    (kt : P → W p l e R s m args below meth c H locs cells slots Q (F0 m tgt ls rest)) (kf : ¬ P → W p l e R s m args below meth c H locs cells slots Q (F0 m (pc + 3) ls rest)) : W p l e R s m args below meth c H locs cells slots Q (F0 m pc ls (.int (b2i P) :: rest)) :=
  lv_if_ne hexec hb hdg ht (fun h => kt (Classical.byContradiction (fun q => h (b2i_f q)))) (fun h => kf (fun q => by rw [b2i_t q] at h; exact absurd h (by decide)))
theorem ln_ge {x y : Int32} (a b : Nat) (hx : x = nI a) (hy : y = nI b) (ha : a < 2 ^ 31) (hB : b < 2 ^ 31) (hexec : p.tables.exec = Jvm.exec) (hb : c.code = cc) {off : Int} {tgt : Nat} (hdg : decode cc pc = .ok (.if_icmp .ge off, 3)) (ht : (pc : Int) + off = (tgt : Int))
    (kt : b ≤ a → W p l e R s m args below meth c H locs cells slots Q (F0 m tgt ls rest)) (kf : a < b → W p l e R s m args below meth c H locs cells slots Q (F0 m (pc + 3) ls rest)) : W p l e R s m args below meth c H locs cells slots Q (F0 m pc ls (.int y :: .int x :: rest)) := by
  subst hx; subst hy
  exact lv_icmp_ge hexec hb hdg ht (fun h => kt ((nI_leI hB ha).mp h)) (fun h => kf (Nat.lt_of_not_le (fun q => h ((nI_leI hB ha).mpr q))))
theorem ln_lt {x y : Int32} (a b : Nat) (hx : x = nI a) (hy : y = nI b) (ha : a < 2 ^ 31) (hB : b < 2 ^ 31) (hexec : p.tables.exec = Jvm.exec) (hb : c.code = cc) {off : Int} {tgt : Nat} (hdg : decode cc pc = .ok (.if_icmp .lt off, 3)) (ht : (pc : Int) + off = (tgt : Int))
    (kt : a < b → W p l e R s m args below meth c H locs cells slots Q (F0 m tgt ls rest)) (kf : b ≤ a → W p l e R s m args below meth c H locs cells slots Q (F0 m (pc + 3) ls rest)) : W p l e R s m args below meth c H locs cells slots Q (F0 m pc ls (.int y :: .int x :: rest)) := by
  subst hx; subst hy
  exact lv_icmp_lt hexec hb hdg ht (fun h => kt ((nI_ltI ha hB).mp h)) (fun h => kf (Nat.le_of_not_lt (fun q => h ((nI_ltI ha hB).mpr q))))
theorem ln_gt {x y : Int32} (a b : Nat) (hx : x = nI a) (hy : y = nI b) (ha : a < 2 ^ 31) (hB : b < 2 ^ 31) (hexec : p.tables.exec = Jvm.exec) (hb : c.code = cc) {off : Int} {tgt : Nat} (hdg : decode cc pc = .ok (.if_icmp .gt off, 3)) (ht : (pc : Int) + off = (tgt : Int))
    (kt : b < a → W p l e R s m args below meth c H locs cells slots Q (F0 m tgt ls rest)) (kf : a ≤ b → W p l e R s m args below meth c H locs cells slots Q (F0 m (pc + 3) ls rest)) : W p l e R s m args below meth c H locs cells slots Q (F0 m pc ls (.int y :: .int x :: rest)) := by
  subst hx; subst hy
  exact lv_icmp_gt hexec hb hdg ht (fun h => kt ((nI_ltI hB ha).mp h)) (fun h => kf (Nat.le_of_not_lt (fun q => h ((nI_ltI hB ha).mpr q))))
theorem ln_le {x y : Int32} (a b : Nat) (hx : x = nI a) (hy : y = nI b) (ha : a < 2 ^ 31) (hB : b < 2 ^ 31) (hexec : p.tables.exec = Jvm.exec) (hb : c.code = cc) {off : Int} {tgt : Nat} (hdg : decode cc pc = .ok (.if_icmp .le off, 3)) (ht : (pc : Int) + off = (tgt : Int))
    (kt : a ≤ b → W p l e R s m args below meth c H locs cells slots Q (F0 m tgt ls rest)) (kf : b < a → W p l e R s m args below meth c H locs cells slots Q (F0 m (pc + 3) ls rest)) : W p l e R s m args below meth c H locs cells slots Q (F0 m pc ls (.int y :: .int x :: rest)) := by
  subst hx; subst hy
  exact lv_icmp_le hexec hb hdg ht (fun h => kt ((nI_leI ha hB).mp h)) (fun h => kf (Nat.lt_of_not_le (fun q => h ((nI_leI ha hB).mpr q))))
theorem ln_eq {x y : Int32} (a b : Nat) (hx : x = nI a) (hy : y = nI b) (ha : a < 2 ^ 31) (hB : b < 2 ^ 31) (hexec : p.tables.exec = Jvm.exec) (hb : c.code = cc) {off : Int} {tgt : Nat} (hdg : decode cc pc = .ok (.if_icmp .eq off, 3)) (ht : (pc : Int) + off = (tgt : Int))
    (kt : a = b → W p l e R s m args below meth c H locs cells slots Q (F0 m tgt ls rest)) (kf : ¬ a = b → W p l e R s m args below meth c H locs cells slots Q (F0 m (pc + 3) ls rest)) : W p l e R s m args below meth c H locs cells slots Q (F0 m pc ls (.int y :: .int x :: rest)) := by
  subst hx; subst hy
  exact lv_icmp_eq hexec hb hdg ht (fun h => kt ((nI_eq ha hB).mp h)) (fun h => kf (fun q => h ((nI_eq ha hB).mpr q)))
theorem ln_ne {x y : Int32} (a b : Nat) (hx : x = nI a) (hy : y = nI b) (ha : a < 2 ^ 31) (hB : b < 2 ^ 31) (hexec : p.tables.exec = Jvm.exec) (hb : c.code = cc) {off : Int} {tgt : Nat} (hdg : decode cc pc = .ok (.if_icmp .ne off, 3)) (ht : (pc : Int) + off = (tgt : Int))
    (kt : ¬ a = b → W p l e R s m args below meth c H locs cells slots Q (F0 m tgt ls rest)) (kf : a = b → W p l e R s m args below meth c H locs cells slots Q (F0 m (pc + 3) ls rest)) : W p l e R s m args below meth c H locs cells slots Q (F0 m pc ls (.int y :: .int x :: rest)) := by
  subst hx; subst hy
  exact lv_icmp_ne hexec hb hdg ht (fun h => kt (fun q => h ((nI_eq ha hB).mpr q))) (fun h => kf ((nI_eq ha hB).mp h))
/-- a loop of a writer: the world, the locals, the stack at its head, as functions of what changes -/
theorem wlp {ι : Type} {D : va_G} {A : Nat → Prop} {nL : Nat} (Inv : ι → Prop) (wsF : ι → va_W) (lvF : ι → List (Nat × Value)) (stF : ι → List Value) (μ : ι → Nat) (pc : Nat)
    (step : ∀ x, Inv x → (∀ x', Inv x' → μ x' < μ x → ∀ (H : Heap) (locs : List Loc) (ls : Array Slot), va_P D vwCl (wsF x') H → va_D A (wsF x') → va_S A s.heap H locs → lv_has ls nL (lvF x') → W p l e R s m args below meth c H locs cells slots Q (F0 m pc ls (stF x'))) → ∀ (H : Heap) (locs : List Loc) (ls : Array Slot), va_P D vwCl (wsF x) H → va_D A (wsF x) → va_S A s.heap H locs → lv_has ls nL (lvF x) → W p l e R s m args below meth c H locs cells slots Q (F0 m pc ls (stF x)))
    (x0 : ι) (h0 : Inv x0) {st : List Value} (hst : st = stF x0) (hP : va_P D vwCl (wsF x0) H) (hD : va_D A (wsF x0)) (hS : va_S A s.heap H locs) (hl : lv_has ls nL (lvF x0)) : W p l e R s m args below meth c H locs cells slots Q (F0 m pc ls st) := by
  subst hst
  have key : ∀ (n : Nat) (x : ι), Inv x → μ x < n → ∀ (H : Heap) (locs : List Loc) (ls : Array Slot), va_P D vwCl (wsF x) H → va_D A (wsF x) → va_S A s.heap H locs → lv_has ls nL (lvF x) → W p l e R s m args below meth c H locs cells slots Q (F0 m pc ls (stF x)) := by
    intro n
    induction n with
    | zero => intro x _ hm; exact absurd hm (Nat.not_lt_zero _)
    | succ n ih => intro x hI hm; exact step x hI (fun x' hI' hm' => ih x' hI' (Nat.lt_of_lt_of_le hm' (Nat.le_of_lt_succ hm)))
  exact key _ x0 h0 (Nat.lt_succ_self _) H locs ls hP hD hS hl
/-- .. of a reader -/
theorem rlp {ι : Type} {D : va_G} {A : Nat → Prop} {nL : Nat} {ws : va_W} (Inv : ι → Prop) (lvF : ι → List (Nat × Value)) (stF : ι → List Value) (μ : ι → Nat) (pc : Nat)
    (step : ∀ x, Inv x → (∀ x', Inv x' → μ x' < μ x → ∀ (H : Heap) (locs : List Loc) (ls : Array Slot), va_P D vwCl ws H → va_S A s.heap H locs → lv_has ls nL (lvF x') → W p l e R s m args below meth c H locs cells slots Q (F0 m pc ls (stF x'))) → ∀ (H : Heap) (locs : List Loc) (ls : Array Slot), va_P D vwCl ws H → va_S A s.heap H locs → lv_has ls nL (lvF x) → W p l e R s m args below meth c H locs cells slots Q (F0 m pc ls (stF x)))
    (x0 : ι) (h0 : Inv x0) {st : List Value} (hst : st = stF x0) (hP : va_P D vwCl ws H) (hS : va_S A s.heap H locs) (hl : lv_has ls nL (lvF x0)) : W p l e R s m args below meth c H locs cells slots Q (F0 m pc ls st) := by
  subst hst
  have key : ∀ (n : Nat) (x : ι), Inv x → μ x < n → ∀ (H : Heap) (locs : List Loc) (ls : Array Slot), va_P D vwCl ws H → va_S A s.heap H locs → lv_has ls nL (lvF x) → W p l e R s m args below meth c H locs cells slots Q (F0 m pc ls (stF x)) := by
    intro n
    induction n with
    | zero => intro x _ hm; exact absurd hm (Nat.not_lt_zero _)
    | succ n ih => intro x hI hm; exact step x hI (fun x' hI' hm' => ih x' hI' (Nat.lt_of_lt_of_le hm' (Nat.le_of_lt_succ hm)))
  exact key _ x0 h0 (Nat.lt_succ_self _) H locs ls hP hS hl
/-- a place where ways meet -/
theorem wjn {ι : Type} {D : va_G} {A : Nat → Prop} {nL : Nat} (Inv : ι → Prop) (wsF : ι → va_W) (lvF : ι → List (Nat × Value)) (stF : ι → List Value) (pc : Nat)
    (k : ∀ x, Inv x → ∀ (H : Heap) (locs : List Loc) (ls : Array Slot), va_P D vwCl (wsF x) H → va_D A (wsF x) → va_S A s.heap H locs → lv_has ls nL (lvF x) → W p l e R s m args below meth c H locs cells slots Q (F0 m pc ls (stF x)))
    {g : JFrame} (kk : (∀ x, Inv x → ∀ (H : Heap) (locs : List Loc) (ls : Array Slot), va_P D vwCl (wsF x) H → va_D A (wsF x) → va_S A s.heap H locs → lv_has ls nL (lvF x) → W p l e R s m args below meth c H locs cells slots Q (F0 m pc ls (stF x))) → W p l e R s m args below meth c H locs cells slots Q g) : W p l e R s m args below meth c H locs cells slots Q g := kk k
theorem rjn {ι : Type} {D : va_G} {A : Nat → Prop} {nL : Nat} {ws : va_W} (Inv : ι → Prop) (lvF : ι → List (Nat × Value)) (stF : ι → List Value) (pc : Nat)
    (k : ∀ x, Inv x → ∀ (H : Heap) (locs : List Loc) (ls : Array Slot), va_P D vwCl ws H → va_S A s.heap H locs → lv_has ls nL (lvF x) → W p l e R s m args below meth c H locs cells slots Q (F0 m pc ls (stF x)))
    {g : JFrame} (kk : (∀ x, Inv x → ∀ (H : Heap) (locs : List Loc) (ls : Array Slot), va_P D vwCl ws H → va_S A s.heap H locs → lv_has ls nL (lvF x) → W p l e R s m args below meth c H locs cells slots Q (F0 m pc ls (stF x))) → W p l e R s m args below meth c H locs cells slots Q g) : W p l e R s m args below meth c H locs cells slots Q g := kk k
/-- a field laid, the world behind it named -/
theorem pt {D : va_G} {A : Nat → Prop} {a : Nat} {tys : List (ClassId × FieldType)} {ws : va_W} {H0 : Heap} (hexec : p.tables.exec = Jvm.exec) (hb : c.code = cc) {own ref C : String} {T : u_T} {N ci index : Nat} (hts : ∀ w ∈ wg, w.before args s = true) (hin : ∀ w ∈ u_ws C T N, w ∈ wg) (ty0 : Nat → FieldType) (hty : ∀ k, k < N → parseFieldDescriptor (T k).2.2.1 = some (ty0 k)) (hnm : ∀ a, a < N → ∀ b, b < N → a ≠ b → (T a).2.1 ≠ (T b).2.1) (hown : s.vm.findClass own = some m.cls) (hK : va_K D vwCl tys s) (hP : va_P D vwCl ws H) (hD : va_D A ws) (hS0 : va_S A H0 H locs) (q0 : Nat) {fs : List Value} (he : ws[q0]? = some (a, .inr (ci, fs))) (hc : vwCl[ci]? = some (C, T, N)) (k : Nat) (hk : k < N) (hlink : (Cond.fieldLink own index ref (T k).2.1 (T k).2.2.1) ∈ wg) (hsame : ∀ x, s.fieldFound? (T k).1 (T k).2.1 (T k).2.2.1 = some x → s.fieldFound? ref (T k).2.1 (T k).2.2.1 = some x) (hfin : (T k).2.2.2 = false) {ty : FieldType} {v : Value} (hd : parseFieldDescriptor (T k).2.2.1 = some ty) (hn : narrow ty v = v) (hfit : fits ty v = true) (hl : k < fs.length) {ws' : va_W} (hw : ws.set q0 (a, .inr (ci, fs.set k v)) = ws')
    (hdg : decode cc pc = .ok (.putfield index, 3)) (kk : ∀ (H1 : Heap) (locs1 : List Loc), va_P D vwCl ws' H1 → va_D A ws' → va_S A H0 H1 locs1 → W p l e R s m args below meth c H1 locs1 cells slots Q (F0 m (pc + 3) ls rest)) : W p l e R s m args below meth c H locs cells slots Q (F0 m pc ls (v :: .ref a :: rest)) := by
  subst hw
  exact va_put hexec hb hts hin ty0 hty hnm hown hK hP hD hS0 q0 he hc k hk (hts _ hlink) hsame hfin hd hn hfit hl hdg kk
theorem ptF {D : va_G} {A : Nat → Prop} {a : Nat} {tys : List (ClassId × FieldType)} {ws : va_W} {H0 : Heap} (hexec : p.tables.exec = Jvm.exec) (hb : c.code = cc) {own ref C : String} {T : u_T} {N ci index : Nat} (hts : ∀ w ∈ wg, w.before args s = true) (hin : ∀ w ∈ u_ws C T N, w ∈ wg) (ty0 : Nat → FieldType) (hty : ∀ k, k < N → parseFieldDescriptor (T k).2.2.1 = some (ty0 k)) (hnm : ∀ a, a < N → ∀ b, b < N → a ≠ b → (T a).2.1 ≠ (T b).2.1) (hown : s.vm.findClass own = some m.cls) (hK : va_K D vwCl tys s) (hP : va_P D vwCl ws H) (hD : va_D A ws) (hS0 : va_S A H0 H locs) (q0 : Nat) {fs : List Value} (he : ws[q0]? = some (a, .inr (ci, fs))) (hc : vwCl[ci]? = some (C, T, N)) (k : Nat) (hk : k < N) (hlink : (Cond.fieldLink own index ref (T k).2.1 (T k).2.2.1) ∈ wg) (hsame : ∀ x, s.fieldFound? (T k).1 (T k).2.1 (T k).2.2.1 = some x → s.fieldFound? ref (T k).2.1 (T k).2.2.1 = some x) (hfin : (T k).2.2.2 = true) (hin2 : meth.name = "<init>") (hdecl : (T k).1 = own) {ty : FieldType} {v : Value} (hd : parseFieldDescriptor (T k).2.2.1 = some ty) (hn : narrow ty v = v) (hfit : fits ty v = true) (hl : k < fs.length) {ws' : va_W} (hw : ws.set q0 (a, .inr (ci, fs.set k v)) = ws')
    (hdg : decode cc pc = .ok (.putfield index, 3)) (kk : ∀ (H1 : Heap) (locs1 : List Loc), va_P D vwCl ws' H1 → va_D A ws' → va_S A H0 H1 locs1 → W p l e R s m args below meth c H1 locs1 cells slots Q (F0 m (pc + 3) ls rest)) : W p l e R s m args below meth c H locs cells slots Q (F0 m pc ls (v :: .ref a :: rest)) := by
  subst hw
  exact va_putF hexec hb hts hin ty0 hty hnm hown hK hP hD hS0 q0 he hc k hk (hts _ hlink) hsame hfin hin2 hdecl hd hn hfit hl hdg kk
end BR
