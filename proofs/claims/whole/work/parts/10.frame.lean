/-! The context that every method of the class carries: nest words, tables, literals; the two forms of contract (reading, writing) and one row a call -/
def va_AOA (ty : FieldType) (U : State) : Prop := (Cond.arrayOver (.array ty)).before #[] U = true
theorem va_AOA.use {ty : FieldType} {a : Array Value} {U : State} (h : va_AOA ty U) : (Cond.arrayOver (.array ty)).before a U = true := h
def cxN (U : State) : Prop :=
  va_Nw (.methodLinkNest RX6 9 yX1_init RX6) U ∧ va_Nw (.methodLinkNest RX6 28 yX0_init RX6) U ∧ va_Nw (.methodLinkNest RX6 35 yX5_init RX6) U ∧ va_Nw (.methodLinkNest RX5 11 yX0_init RX6) U ∧ va_Nw (.methodLinkNest RX5 49 yX1_init RX6) U ∧ va_Nw (.methodLinkNest RX6 42 yX4_init RX6) U ∧ va_Nw (.methodLinkNest RX4 11 yX3_init RX6) U ∧ va_Nw (.methodLinkNest RX6 57 yX2_init RX6) U ∧ va_Nw (.methodLinkNest RX1 67 yX6_isUnder RX6) U ∧ va_Nw (.methodLinkNest RX5 71 yX6_leanOf RX6) U ∧ va_Nw (.methodLinkNest RX5 91 yX6_isIn RX6) U ∧ va_Nw (.fieldLinkNest RX4 69 "SmokeLeans" "NIGHT_MOST" "[I" RX6) U ∧ va_Nw (.fieldLinkNest RX5 119 "SmokeLeans" "NIGHT_MOST" "[I" RX6) U ∧ va_AO "SmokeLeans$Sheet" U ∧ va_AOA .int U
theorem cxN.warm {s U : State} (hW : s.WarmedH U.vm) (h : cxN s) : cxN U := by
  obtain ⟨h1, h2, h3, h4, h5, h6, h7, h8, h9, h10, h11, h12, h13, h14, h15⟩ := h
  exact ⟨va_Nw.warmM hW h1, va_Nw.warmM hW h2, va_Nw.warmM hW h3, va_Nw.warmM hW h4, va_Nw.warmM hW h5, va_Nw.warmM hW h6, va_Nw.warmM hW h7, va_Nw.warmM hW h8, va_Nw.warmM hW h9, va_Nw.warmM hW h10, va_Nw.warmM hW h11, va_Nw.warmF hW h12, va_Nw.warmF hW h13, va_AO.moved hW.alike h14, over_moved hW.alike h15⟩
theorem cxN.same {u U : State} (hv : u.vm = U.vm) (h : cxN u) : cxN U := by
  obtain ⟨h1, h2, h3, h4, h5, h6, h7, h8, h9, h10, h11, h12, h13, h14, h15⟩ := h
  have al : u.vm.Alike U.vm := by rw [hv]; exact Vm.Alike.refl _
  exact ⟨va_Nw.same rfl hv h1, va_Nw.same rfl hv h2, va_Nw.same rfl hv h3, va_Nw.same rfl hv h4, va_Nw.same rfl hv h5, va_Nw.same rfl hv h6, va_Nw.same rfl hv h7, va_Nw.same rfl hv h8, va_Nw.same rfl hv h9, va_Nw.same rfl hv h10, va_Nw.same rfl hv h11, va_Nw.same rfl hv h12, va_Nw.same rfl hv h13, va_AO.moved al h14, over_moved al h15⟩
/-- the class's three tables -/
def tbU : Nat → Int32 := fun k => ([-1, 0, 0, 0, 0, 2] : List Int32).getD k 0
def tbL : Nat → Int32 := fun k => ([0, 0, 0, -99, 0, 0] : List Int32).getD k 0
def tbM : Nat → Int32 := fun k => ([40, 99, 3, 99, 99, 100] : List Int32).getD k 0
def cxT (G : Nat → Nat) (A : Nat → Prop) (U : State) (H : Heap) : Prop :=
  va_Z "SmokeLeans" "UNDER" "[I" (.ref (G 0)) A U H ∧ va_T .int (G 0) 6 (fun j => .int (tbU j)) A U H ∧
  va_Z "SmokeLeans" "NIGHT_LEAST" "[I" (.ref (G 1)) A U H ∧ va_T .int (G 1) 6 (fun j => .int (tbL j)) A U H ∧
  va_Z "SmokeLeans" "NIGHT_MOST" "[I" (.ref (G 2)) A U H ∧ va_T .int (G 2) 6 (fun j => .int (tbM j)) A U H
/-- the class's fourteen literals: room gap hidden needed known turning chimney out high side cost cold wind thumb -/
def stI : List Nat := [38, 107, 109, 111, 113, 115, 117, 105, 87, 93, 95, 119, 121, 123]
def stT : List String := ["room", "gap", "hidden", "needed", "known", "turning", "chimney", "out", "high", "side", "cost", "cold", "wind", "thumb"]
def stL : List Nat := [4, 3, 6, 6, 5, 7, 7, 3, 4, 4, 4, 4, 4, 5]
def stB : List (List Int32) := [[114, 111, 111, 109], [103, 97, 112], [104, 105, 100, 100, 101, 110], [110, 101, 101, 100, 101, 100], [107, 110, 111, 119, 110], [116, 117, 114, 110, 105, 110, 103], [99, 104, 105, 109, 110, 101, 121], [111, 117, 116], [104, 105, 103, 104], [115, 105, 100, 101], [99, 111, 115, 116], [99, 111, 108, 100], [119, 105, 110, 100], [116, 104, 117, 109, 98]]
def cxS (G : Nat → Nat) (A : Nat → Prop) (U : State) (H : Heap) : Prop :=
  vk_S 14 stL stB (fun i => G (10 + i)) (fun i => G (40 + i)) A U H ∧ (∀ i : Nat, i < 14 → vk_R RX4 (stI.getD i 0) (stT.getD i "") (G (10 + i)) U) ∧
  va_Z "java/lang/String" "COMPACT_STRINGS" "Z" (.int 1) A U H ∧ va_Zq "jdk/internal/util/Preconditions" "SIOOBE_FORMATTER" "Ljava/util/function/BiFunction;" A U H
def cx (G : Nat → Nat) (A : Nat → Prop) (U : State) : Prop := cxN U ∧ cxT G A U U.heap ∧ cxS G A U U.heap
theorem cx.call {G : Nat → Nat} {A B : Nat → Prop} {s U : State} {H : Heap} {locs : List Loc} (h : cx G A s) (hS : va_S A s.heap H locs) (hU : U.heap = H) (hW : s.WarmedH U.vm) (hAB : ∀ q, B q → A q) : cx G B U := by
  obtain ⟨hN, ⟨t1, t2, t3, t4, t5, t6⟩, s1, s2, s3, s4⟩ := h
  have al := hW.alike
  have hq : ∀ a : Nat, a < s.heap.size → ¬ A a → U.heap[a]? = s.heap[a]? := by rw [hU]; exact hS.2.1
  exact ⟨hN.warm hW, ⟨((t1.kept hq).narrow hAB).moved al, ((t2.kept hq).narrow hAB).moved al, ((t3.kept hq).narrow hAB).moved al, ((t4.kept hq).narrow hAB).moved al, ((t5.kept hq).narrow hAB).moved al, ((t6.kept hq).narrow hAB).moved al⟩, ((s1.kept hq).narrow hAB).moved al, fun i hi => (s2 i hi).warm hW, ((s3.kept hq).narrow hAB).moved al, ((s4.kept hq).narrow hAB).moved al⟩
theorem cx.calling {G : Nat → Nat} {A : Nat → Prop} {U : State} (a : Array Value) (g : JFrame) (mk : MethodId) (h : cx G A U) : cx G A (U.calling g mk a) := by
  obtain ⟨hN, ⟨t1, t2, t3, t4, t5, t6⟩, s1, s2, s3, s4⟩ := h
  have al : U.vm.Alike (U.calling g mk a).vm := Vm.Alike.refl U.vm
  exact ⟨cxN.same (U := U.calling g mk a) rfl hN, ⟨t1.moved al, t2.moved al, t3.moved al, t4.moved al, t5.moved al, t6.moved al⟩, s1.moved al, fun i hi => (s2 i hi).same rfl, s3.moved al, s4.moved al⟩
/-- a method's start, where it may write the cells ws .. -/
def pr (D : va_G) (tys : List (ClassId × FieldType)) (G : Nat → Nat) (ws : va_W) (sz : Nat) (U : State) : Prop :=
  U.heap.size = sz ∧ va_P D vwCl ws U.heap ∧ va_K D vwCl tys U ∧ va_D (fun _ => True) ws ∧ cx G (va_A ws sz) U
/-- .. and where it only reads them -/
def pd (D : va_G) (tys : List (ClassId × FieldType)) (G : Nat → Nat) (ws : va_W) (sz : Nat) (U : State) : Prop :=
  U.heap.size = sz ∧ va_P D vwCl ws U.heap ∧ va_K D vwCl tys U ∧ cx G (va_A [] sz) U
def po (D : va_G) (A : Nat → Prop) (ws : va_W) (t : State) : Prop := va_P D vwCl ws t.heap ∧ va_D A ws
theorem pr_blind {av : List Value} {D : va_G} {tys : List (ClassId × FieldType)} {G : Nat → Nat} {ws : va_W} {sz : Nat} : FrameBlind (va_Pc av (pr D tys G ws sz)) := fun a U g mk q => by
  obtain ⟨q0, q1, q2, q3, q4, q5⟩ := q
  exact ⟨q0, q1, q2, va_K.moved (u := U) (U := U.calling g mk a) (Vm.Alike.refl U.vm) q3, q4, q5.calling a g mk⟩
theorem pd_blind {av : List Value} {D : va_G} {tys : List (ClassId × FieldType)} {G : Nat → Nat} {ws : va_W} {sz : Nat} : FrameBlind (va_Pc av (pd D tys G ws sz)) := fun a U g mk q => by
  obtain ⟨q0, q1, q2, q3, q5⟩ := q
  exact ⟨q0, q1, q2, va_K.moved (u := U) (U := U.calling g mk a) (Vm.Alike.refl U.vm) q3, q5.calling a g mk⟩
theorem va_A_nil {q sz : Nat} (h : va_A [] sz q) : sz ≤ q := by
  rcases h with ⟨k, e, he⟩ | h
  · simp at he
  · exact h
abbrev wm (y : MethodName) (b : ByteArray) (mx : Nat) (r : Option FieldType) : List Cond := Cond.code y b mx r :: wg
def kV (y : MethodName) (b : ByteArray) (mx : Nat) (r : Option FieldType) (n : Nat) : Prop :=
  Cond.instanceMethod y ∈ wg ∧ Cond.selects y.cls y y ∈ wg ∧ Cond.initialized y.cls ∈ wg ∧ Cond.code y b mx r ∈ wg ∧ y.cls ≠ "java/lang/invoke/MethodHandle" ∧ y.cls ≠ "java/lang/invoke/VarHandle" ∧ (parseMethodDescriptor y.desc).map (fun d => d.parameters.length) = some n
def kT (y : MethodName) (b : ByteArray) (mx : Nat) (r : Option FieldType) (n : Nat) : Prop :=
  Cond.static y ∈ wg ∧ Cond.initialized y.cls ∈ wg ∧ Cond.code y b mx r ∈ wg ∧ y.cls ≠ "java/lang/invoke/MethodHandle" ∧ y.cls ≠ "java/lang/invoke/VarHandle" ∧ (parseMethodDescriptor y.desc).map (fun d => d.parameters.length) = some n
def kI (y : MethodName) (b : ByteArray) (mx : Nat) (n : Nat) : Prop :=
  Cond.instanceMethod y ∈ wg ∧ Cond.initialized y.cls ∈ wg ∧ Cond.code y b mx none ∈ wg ∧ y.name = "<init>" ∧ y.cls ≠ "java/lang/invoke/MethodHandle" ∧ y.cls ≠ "java/lang/invoke/VarHandle" ∧ (parseMethodDescriptor y.desc).map (fun d => d.parameters.length) = some n
theorem wm_good {y : MethodName} {b : ByteArray} {mx : Nat} {r : Option FieldType} (h : Cond.code y b mx r ∈ wg) : GoodIn wg (wm y b mx r) := fun w hw => by
  rcases List.mem_cons.mp hw with e | hw
  · rw [e]; exact ⟨h, good_of_word (wg_good h)⟩
  · exact ⟨hw, good_of_word (wg_good hw)⟩
theorem kV.good {own : String} {idx : Nat} {y : MethodName} {b : ByteArray} {mx n : Nat} {r : Option FieldType} (h : kV y b mx r n) (hl : Cond.methodLink own idx y ∈ wg) : GoodIn wg (wsV own idx y.cls y (wm y b mx r)) := by
  obtain ⟨h1, h2, h3, h4, -⟩ := h
  intro w hw
  rcases List.mem_append.mp hw with hw | hw
  · have hm : w ∈ wg := by
      rcases List.mem_cons.mp hw with rfl | hw
      · exact hl
      rcases List.mem_cons.mp hw with rfl | hw
      · exact h1
      rcases List.mem_cons.mp hw with rfl | hw
      · exact h2
      rcases List.mem_cons.mp hw with rfl | hw
      · exact h3
      · cases hw
    exact ⟨hm, good_of_word (wg_good hm)⟩
  · exact wm_good h4 w hw
theorem kT.good {own : String} {idx : Nat} {y : MethodName} {b : ByteArray} {mx n : Nat} {r : Option FieldType} (h : kT y b mx r n) (hl : Cond.methodLink own idx y ∈ wg) : GoodIn wg (va_wsS own idx y (wm y b mx r)) := by
  obtain ⟨h1, h3, h4, -⟩ := h
  intro w hw
  rcases List.mem_append.mp hw with hw | hw
  · have hm : w ∈ wg := by
      rcases List.mem_cons.mp hw with rfl | hw
      · exact hl
      rcases List.mem_cons.mp hw with rfl | hw
      · exact h1
      rcases List.mem_cons.mp hw with rfl | hw
      · exact h3
      · cases hw
    exact ⟨hm, good_of_word (wg_good hm)⟩
  · exact wm_good h4 w hw
