theorem kc_X0_clear : kV yX0_clear cX0_clear 3 none 0 := ⟨kw_3_58, kw_s_14, kw_1_3, kw_3_59, by decide, by decide, by decide +kernel⟩
set_option maxHeartbeats 4000000 in
set_option maxRecDepth 100000 in
theorem c_X0_clear (l : Launch) (D : va_G) (cy : Nat → ClassId) (G : Nat → Nat) (sz : Nat) (b : Nat → Nat) (P : Nat → Int32) (F : Nat → Int32) (N : Nat → Int32) (B : Nat → Int32) (O : Nat → Int32) (Sd : Nat → Int32) (Dv : Nat → Int32) (L : Nat → Nat → Int32) (rc : Int32) (re : Int32) (fr : Int32) (lo : Int32) (sm : Int32)  : Met l yX0_clear (wm yX0_clear cX0_clear 3 none) { frames := 0, cells := 0, slots := 0, locals := 0 } (va_Pc [.ref (b 0)] (pr D (TY cy) G (aS cy b P F N B O Sd Dv L rc re fr lo sm) sz)) (va_Qv (fun (u : Unit) => True) (fun (u : Unit) t => po D (va_A (aS cy b P F N B O Sd Dv L rc re fr lo sm) sz) (aS cy b (fun _ => 0) F N B O (fun _ => 0) (fun _ => 0) (fun _ _ => 0) rc re fr lo sm) t) (va_A (aS cy b P F N B O Sd Dv L rc re fr lo sm) sz)) 0 0 (va_A (aS cy b P F N B O Sd Dv L rc re fr lo sm) sz) := by
  refine mk_rw (by decide) RX0 rfl (Nat.le_of_ble_eq_true rfl) [(0, .ref (b 0))] rfl ?_
  intro p e s m below meth c hx hb hml hown hr hlocks hin hw hsz hA hG hK H0 locs0 hP0 hD0 hS0 ls0 hl0
  clear hin
  refine lv_iconst (v := 0) hx hb dX0_clear_0 (by decide) ?_
  refine lv_istore_n (lv' := [(1, .int 0), (0, .ref (b 0))]) hx hb dX0_clear_1 rfl hl0 (by decide) rfl (fun ls1 hl1 => ?_)
  clear hl0 ls0
  have hq9 : (aS cy b P F N B O Sd Dv L rc re fr lo sm) = (aS cy b (zI 0 P) F N B O Sd Dv L rc re fr lo sm) := congrArg (fun z9 => aS cy b z9 F N B O Sd Dv L rc re fr lo sm) (show P = (zI 0 P) from zI_0 P)
  replace hP0 := (congrArg (fun z9 => va_P D vwCl z9 _) hq9).mp hP0
  replace hD0 := (congrArg (fun z9 => va_D _ z9) hq9).mp hD0
  clear hq9
  have hq9 : (aS cy b (zI 0 P) F N B O Sd Dv L rc re fr lo sm) = (aS cy b (zI 0 P) F N B O (zI 0 Sd) Dv L rc re fr lo sm) := congrArg (fun z9 => aS cy b (zI 0 P) F N B O z9 Dv L rc re fr lo sm) (show Sd = (zI 0 Sd) from zI_0 Sd)
  replace hP0 := (congrArg (fun z9 => va_P D vwCl z9 _) hq9).mp hP0
  replace hD0 := (congrArg (fun z9 => va_D _ z9) hq9).mp hD0
  clear hq9
  have hq9 : (aS cy b (zI 0 P) F N B O (zI 0 Sd) Dv L rc re fr lo sm) = (aS cy b (zI 0 P) F N B O (zI 0 Sd) (zI 0 Dv) L rc re fr lo sm) := congrArg (fun z9 => aS cy b (zI 0 P) F N B O (zI 0 Sd) z9 L rc re fr lo sm) (show Dv = (zI 0 Dv) from zI_0 Dv)
  replace hP0 := (congrArg (fun z9 => va_P D vwCl z9 _) hq9).mp hP0
  replace hD0 := (congrArg (fun z9 => va_D _ z9) hq9).mp hD0
  clear hq9
  have hq9 : (aS cy b (zI 0 P) F N B O (zI 0 Sd) (zI 0 Dv) L rc re fr lo sm) = (aS cy b (zI 0 P) F N B O (zI 0 Sd) (zI 0 Dv) (zL 0 L) rc re fr lo sm) := congrArg (fun z9 => aS cy b (zI 0 P) F N B O (zI 0 Sd) (zI 0 Dv) z9 rc re fr lo sm) (show L = (zL 0 L) from zL_0 L)
  replace hP0 := (congrArg (fun z9 => va_P D vwCl z9 _) hq9).mp hP0
  replace hD0 := (congrArg (fun z9 => va_D _ z9) hq9).mp hD0
  clear hq9
  refine wlp (ι := Nat) (nL := 3) (fun x9 => (x9 ≤ 6)) (fun x9 => aS cy b (zI x9 P) F N B O (zI x9 Sd) (zI x9 Dv) (zL x9 L) rc re fr lo sm) (fun x9 => [(1, .int (nI x9)), (0, .ref (b 0))]) (fun x9 => []) (fun x9 => 6 - x9) 2 ?_ 0 (by first | omega | assumption | rfl | simp_all) rfl hP0 hD0 hS0 (lv_sub hl1 [0, 1] rfl)
  clear hP0 hD0 hS0 locs0 H0 hl1 ls1
  intro x9 hI ih_2 H1 locs1 ls2 hP1 hD1 hS1 hl2
  obtain ⟨i, rfl⟩ : ∃ z9, z9 = x9 := ⟨_, rfl⟩
  have hi := hI
  replace hi : i ≤ 6 := hi
  replace hP1 : va_P D vwCl (aS cy b (zI i P) F N B O (zI i Sd) (zI i Dv) (zL i L) rc re fr lo sm) H1 := hP1
  replace hD1 : va_D (va_A _ sz) (aS cy b (zI i P) F N B O (zI i Sd) (zI i Dv) (zL i L) rc re fr lo sm) := hD1
  replace hl2 : lv_has ls2 3 [(1, .int (nI i)), (0, .ref (b 0))] := hl2
  show W p l e _ s m _ below meth c _ _ _ _ _ (F0 m 2 ls2 [])
  refine lv_iload_n hx hb dX0_clear_2 rfl (lv_at hl2 0 rfl) ?_
  refine lv_bipush (v := 6) hx hb dX0_clear_3 (by decide) ?_
  refine ln_ge (tgt := 58) i 6 rfl rfl (by omega) (by omega) hx hb dX0_clear_5 (by decide) (fun c_5 => ?_) (fun c_5 => ?_)
  · have hq9 := (fun j hj => if_pos (by omega) : ∀ j, j < 6 → zI i P j = (fun _ => (0 : Int32)) j)
    replace hD1 := cg_D (ws' := aS cy b (fun _ => 0) F N B O (zI i Sd) (zI i Dv) (zL i L) rc re fr lo sm) hD1 (k := 1) rfl rfl
    replace hP1 := cg_P (ws' := aS cy b (fun _ => 0) F N B O (zI i Sd) (zI i Dv) (zL i L) rc re fr lo sm) hP1 (k := 1) rfl hq9 rfl
    clear hq9
    have hq9 := (fun j hj => if_pos (by omega) : ∀ j, j < 6 → zI i Sd j = (fun _ => (0 : Int32)) j)
    replace hD1 := cg_D (ws' := aS cy b (fun _ => 0) F N B O (fun _ => 0) (zI i Dv) (zL i L) rc re fr lo sm) hD1 (k := 6) rfl rfl
    replace hP1 := cg_P (ws' := aS cy b (fun _ => 0) F N B O (fun _ => 0) (zI i Dv) (zL i L) rc re fr lo sm) hP1 (k := 6) rfl hq9 rfl
    clear hq9
    have hq9 := (fun j hj => if_pos (by omega) : ∀ j, j < 6 → zI i Dv j = (fun _ => (0 : Int32)) j)
    replace hD1 := cg_D (ws' := aS cy b (fun _ => 0) F N B O (fun _ => 0) (fun _ => 0) (zL i L) rc re fr lo sm) hD1 (k := 7) rfl rfl
    replace hP1 := cg_P (ws' := aS cy b (fun _ => 0) F N B O (fun _ => 0) (fun _ => 0) (zL i L) rc re fr lo sm) hP1 (k := 7) rfl hq9 rfl
    clear hq9
    have hq9 : ∀ j, j < 6 → (zL i L) 0 j = (fun _ => (0 : Int32)) j := fun j hj => zL_r L (i := i) (by omega) (show 0 < 6 by decide) hj
    replace hD1 := cg_D (ws' := aS cy b (fun _ => 0) F N B O (fun _ => 0) (fun _ => 0) (va_up (zL i L) 0 (fun _ => 0)) rc re fr lo sm) hD1 (k := 9) rfl rfl
    replace hP1 := cg_P (ws' := aS cy b (fun _ => 0) F N B O (fun _ => 0) (fun _ => 0) (va_up (zL i L) 0 (fun _ => 0)) rc re fr lo sm) hP1 (k := 9) rfl hq9 rfl
    clear hq9
    have hq9 : ∀ j, j < 6 → (va_up (zL i L) 0 (fun _ => 0)) 1 j = (fun _ => (0 : Int32)) j := fun j hj => zL_r L (i := i) (by omega) (show 1 < 6 by decide) hj
    replace hD1 := cg_D (ws' := aS cy b (fun _ => 0) F N B O (fun _ => 0) (fun _ => 0) (va_up (va_up (zL i L) 0 (fun _ => 0)) 1 (fun _ => 0)) rc re fr lo sm) hD1 (k := 10) rfl rfl
    replace hP1 := cg_P (ws' := aS cy b (fun _ => 0) F N B O (fun _ => 0) (fun _ => 0) (va_up (va_up (zL i L) 0 (fun _ => 0)) 1 (fun _ => 0)) rc re fr lo sm) hP1 (k := 10) rfl hq9 rfl
    clear hq9
    have hq9 : ∀ j, j < 6 → (va_up (va_up (zL i L) 0 (fun _ => 0)) 1 (fun _ => 0)) 2 j = (fun _ => (0 : Int32)) j := fun j hj => zL_r L (i := i) (by omega) (show 2 < 6 by decide) hj
    replace hD1 := cg_D (ws' := aS cy b (fun _ => 0) F N B O (fun _ => 0) (fun _ => 0) (va_up (va_up (va_up (zL i L) 0 (fun _ => 0)) 1 (fun _ => 0)) 2 (fun _ => 0)) rc re fr lo sm) hD1 (k := 11) rfl rfl
    replace hP1 := cg_P (ws' := aS cy b (fun _ => 0) F N B O (fun _ => 0) (fun _ => 0) (va_up (va_up (va_up (zL i L) 0 (fun _ => 0)) 1 (fun _ => 0)) 2 (fun _ => 0)) rc re fr lo sm) hP1 (k := 11) rfl hq9 rfl
    clear hq9
    have hq9 : ∀ j, j < 6 → (va_up (va_up (va_up (zL i L) 0 (fun _ => 0)) 1 (fun _ => 0)) 2 (fun _ => 0)) 3 j = (fun _ => (0 : Int32)) j := fun j hj => zL_r L (i := i) (by omega) (show 3 < 6 by decide) hj
    replace hD1 := cg_D (ws' := aS cy b (fun _ => 0) F N B O (fun _ => 0) (fun _ => 0) (va_up (va_up (va_up (va_up (zL i L) 0 (fun _ => 0)) 1 (fun _ => 0)) 2 (fun _ => 0)) 3 (fun _ => 0)) rc re fr lo sm) hD1 (k := 12) rfl rfl
    replace hP1 := cg_P (ws' := aS cy b (fun _ => 0) F N B O (fun _ => 0) (fun _ => 0) (va_up (va_up (va_up (va_up (zL i L) 0 (fun _ => 0)) 1 (fun _ => 0)) 2 (fun _ => 0)) 3 (fun _ => 0)) rc re fr lo sm) hP1 (k := 12) rfl hq9 rfl
    clear hq9
    have hq9 : ∀ j, j < 6 → (va_up (va_up (va_up (va_up (zL i L) 0 (fun _ => 0)) 1 (fun _ => 0)) 2 (fun _ => 0)) 3 (fun _ => 0)) 4 j = (fun _ => (0 : Int32)) j := fun j hj => zL_r L (i := i) (by omega) (show 4 < 6 by decide) hj
    replace hD1 := cg_D (ws' := aS cy b (fun _ => 0) F N B O (fun _ => 0) (fun _ => 0) (va_up (va_up (va_up (va_up (va_up (zL i L) 0 (fun _ => 0)) 1 (fun _ => 0)) 2 (fun _ => 0)) 3 (fun _ => 0)) 4 (fun _ => 0)) rc re fr lo sm) hD1 (k := 13) rfl rfl
    replace hP1 := cg_P (ws' := aS cy b (fun _ => 0) F N B O (fun _ => 0) (fun _ => 0) (va_up (va_up (va_up (va_up (va_up (zL i L) 0 (fun _ => 0)) 1 (fun _ => 0)) 2 (fun _ => 0)) 3 (fun _ => 0)) 4 (fun _ => 0)) rc re fr lo sm) hP1 (k := 13) rfl hq9 rfl
    clear hq9
    have hq9 : ∀ j, j < 6 → (va_up (va_up (va_up (va_up (va_up (zL i L) 0 (fun _ => 0)) 1 (fun _ => 0)) 2 (fun _ => 0)) 3 (fun _ => 0)) 4 (fun _ => 0)) 5 j = (fun _ => (0 : Int32)) j := fun j hj => zL_r L (i := i) (by omega) (show 5 < 6 by decide) hj
    replace hD1 := cg_D (ws' := aS cy b (fun _ => 0) F N B O (fun _ => 0) (fun _ => 0) (va_up (va_up (va_up (va_up (va_up (va_up (zL i L) 0 (fun _ => 0)) 1 (fun _ => 0)) 2 (fun _ => 0)) 3 (fun _ => 0)) 4 (fun _ => 0)) 5 (fun _ => 0)) rc re fr lo sm) hD1 (k := 14) rfl rfl
    replace hP1 := cg_P (ws' := aS cy b (fun _ => 0) F N B O (fun _ => 0) (fun _ => 0) (va_up (va_up (va_up (va_up (va_up (va_up (zL i L) 0 (fun _ => 0)) 1 (fun _ => 0)) 2 (fun _ => 0)) 3 (fun _ => 0)) 4 (fun _ => 0)) 5 (fun _ => 0)) rc re fr lo sm) hP1 (k := 14) rfl hq9 rfl
    clear hq9
    replace hD1 : va_D (va_A _ sz) (aS cy b (fun _ => 0) F N B O (fun _ => 0) (fun _ => 0) (fun _ _ => 0) rc re fr lo sm) := hD1
    replace hP1 : va_P D vwCl (aS cy b (fun _ => 0) F N B O (fun _ => 0) (fun _ => 0) (fun _ _ => 0) rc re fr lo sm) H1 := hP1
    refine re_v () hx hb hr hlocks hP1 hD1 hS1 dX0_clear_58 ?_
    exact (trivial)
  · refine lv_aload_n hx hb dX0_clear_8 rfl (lv_at hl2 1 rfl) ?_
    refine va_get (D := D) (ci := 0) (v := .ref (b 1)) (C := RX0) (T := TX0) (N := 13) hx hb hw iX0 hown hK hP1 0 rfl rfl 0 (by decide) (hw _ kw_1_102) (fun _ h9 => h9) rfl dX0_clear_9 ?_
    refine lv_iload_n hx hb dX0_clear_12 rfl (lv_at hl2 0 rfl) ?_
    refine lv_iconst (v := 0) hx hb dX0_clear_13 (by decide) ?_
    refine ast_i (f := zI i P) (ws' := aS cy b (upd (zI i P) i 0) F N B O (zI i Sd) (zI i Dv) (zL i L) rc re fr lo sm) hx hb hK hP1 hD1 hS1 1 0 rfl rfl i rfl (by first | omega | assumption) (by decide) rfl dX0_clear_14 (fun H2 locs2 hP2 hD2 hS2 => ?_)
    clear hP1 hD1 hS1 locs1 H1
    refine lv_aload_n hx hb dX0_clear_15 rfl (lv_at hl2 1 rfl) ?_
    refine va_get (D := D) (ci := 0) (v := .ref (b 6)) (C := RX0) (T := TX0) (N := 13) hx hb hw iX0 hown hK hP2 0 rfl rfl 10 (by decide) (hw _ kw_1_123) (fun _ h9 => h9) rfl dX0_clear_16 ?_
    refine lv_iload_n hx hb dX0_clear_19 rfl (lv_at hl2 0 rfl) ?_
    refine lv_iconst (v := 0) hx hb dX0_clear_20 (by decide) ?_
    refine ast_i (f := zI i Sd) (ws' := aS cy b (upd (zI i P) i 0) F N B O (upd (zI i Sd) i 0) (zI i Dv) (zL i L) rc re fr lo sm) hx hb hK hP2 hD2 hS2 6 0 rfl rfl i rfl (by first | omega | assumption) (by decide) rfl dX0_clear_21 (fun H3 locs3 hP3 hD3 hS3 => ?_)
    clear hP2 hD2 hS2 locs2 H2
    refine lv_aload_n hx hb dX0_clear_22 rfl (lv_at hl2 1 rfl) ?_
    refine va_get (D := D) (ci := 0) (v := .ref (b 7)) (C := RX0) (T := TX0) (N := 13) hx hb hw iX0 hown hK hP3 0 rfl rfl 11 (by decide) (hw _ kw_1_124) (fun _ h9 => h9) rfl dX0_clear_23 ?_
    refine lv_iload_n hx hb dX0_clear_26 rfl (lv_at hl2 0 rfl) ?_
    refine lv_iconst (v := 0) hx hb dX0_clear_27 (by decide) ?_
    refine ast_i (f := zI i Dv) (ws' := aS cy b (upd (zI i P) i 0) F N B O (upd (zI i Sd) i 0) (upd (zI i Dv) i 0) (zL i L) rc re fr lo sm) hx hb hK hP3 hD3 hS3 7 0 rfl rfl i rfl (by first | omega | assumption) (by decide) rfl dX0_clear_28 (fun H4 locs4 hP4 hD4 hS4 => ?_)
    clear hP3 hD3 hS3 locs3 H3
    have hq9 : (aS cy b (upd (zI i P) i 0) F N B O (upd (zI i Sd) i 0) (upd (zI i Dv) i 0) (zL i L) rc re fr lo sm) = (aS cy b (zI (i + 1) P) F N B O (upd (zI i Sd) i 0) (upd (zI i Dv) i 0) (zL i L) rc re fr lo sm) := congrArg (fun z9 => aS cy b z9 F N B O (upd (zI i Sd) i 0) (upd (zI i Dv) i 0) (zL i L) rc re fr lo sm) (show (upd (zI i P) i 0) = (zI (i + 1) P) from zI_s P i)
    replace hP4 := (congrArg (fun z9 => va_P D vwCl z9 _) hq9).mp hP4
    replace hD4 := (congrArg (fun z9 => va_D _ z9) hq9).mp hD4
    clear hq9
    have hq9 : (aS cy b (zI (i + 1) P) F N B O (upd (zI i Sd) i 0) (upd (zI i Dv) i 0) (zL i L) rc re fr lo sm) = (aS cy b (zI (i + 1) P) F N B O (zI (i + 1) Sd) (upd (zI i Dv) i 0) (zL i L) rc re fr lo sm) := congrArg (fun z9 => aS cy b (zI (i + 1) P) F N B O z9 (upd (zI i Dv) i 0) (zL i L) rc re fr lo sm) (show (upd (zI i Sd) i 0) = (zI (i + 1) Sd) from zI_s Sd i)
    replace hP4 := (congrArg (fun z9 => va_P D vwCl z9 _) hq9).mp hP4
    replace hD4 := (congrArg (fun z9 => va_D _ z9) hq9).mp hD4
    clear hq9
    have hq9 : (aS cy b (zI (i + 1) P) F N B O (zI (i + 1) Sd) (upd (zI i Dv) i 0) (zL i L) rc re fr lo sm) = (aS cy b (zI (i + 1) P) F N B O (zI (i + 1) Sd) (zI (i + 1) Dv) (zL i L) rc re fr lo sm) := congrArg (fun z9 => aS cy b (zI (i + 1) P) F N B O (zI (i + 1) Sd) z9 (zL i L) rc re fr lo sm) (show (upd (zI i Dv) i 0) = (zI (i + 1) Dv) from zI_s Dv i)
    replace hP4 := (congrArg (fun z9 => va_P D vwCl z9 _) hq9).mp hP4
    replace hD4 := (congrArg (fun z9 => va_D _ z9) hq9).mp hD4
    clear hq9
    refine lv_iconst (v := 0) hx hb dX0_clear_29 (by decide) ?_
    refine lv_istore_n (lv' := [(2, .int 0), (1, .int (nI i)), (0, .ref (b 0))]) hx hb dX0_clear_30 rfl hl2 (by decide) rfl (fun ls3 hl3 => ?_)
    clear hl2 ls2
    have hq9 : (aS cy b (zI (i + 1) P) F N B O (zI (i + 1) Sd) (zI (i + 1) Dv) (zL i L) rc re fr lo sm) = (aS cy b (zI (i + 1) P) F N B O (zI (i + 1) Sd) (zI (i + 1) Dv) (va_up (zL i L) i (zI 0 (L i))) rc re fr lo sm) := congrArg (fun z9 => aS cy b (zI (i + 1) P) F N B O (zI (i + 1) Sd) (zI (i + 1) Dv) z9 rc re fr lo sm) (show (zL i L) = (va_up (zL i L) i (zI 0 (L i))) from zL_i L i)
    replace hP4 := (congrArg (fun z9 => va_P D vwCl z9 _) hq9).mp hP4
    replace hD4 := (congrArg (fun z9 => va_D _ z9) hq9).mp hD4
    clear hq9
    refine wlp (ι := Nat) (nL := 3) (fun x9 => (x9 ≤ 6)) (fun x9 => aS cy b (zI (i + 1) P) F N B O (zI (i + 1) Sd) (zI (i + 1) Dv) (va_up (zL i L) i (zI x9 (L i))) rc re fr lo sm) (fun x9 => [(2, .int (nI x9)), (1, .int (nI i)), (0, .ref (b 0))]) (fun x9 => []) (fun x9 => 6 - x9) 31 ?_ 0 (by first | omega | assumption | rfl | simp_all) rfl hP4 hD4 hS4 (lv_sub hl3 [0, 1, 2] rfl)
    clear hP4 hD4 hS4 locs4 H4 hl3 ls3
    intro x9 hI ih_31 H5 locs5 ls4 hP5 hD5 hS5 hl4
    obtain ⟨o, rfl⟩ : ∃ z9, z9 = x9 := ⟨_, rfl⟩
    have ho := hI
    replace ho : o ≤ 6 := ho
    replace hP5 : va_P D vwCl (aS cy b (zI (i + 1) P) F N B O (zI (i + 1) Sd) (zI (i + 1) Dv) (va_up (zL i L) i (zI o (L i))) rc re fr lo sm) H5 := hP5
    replace hD5 : va_D (va_A _ sz) (aS cy b (zI (i + 1) P) F N B O (zI (i + 1) Sd) (zI (i + 1) Dv) (va_up (zL i L) i (zI o (L i))) rc re fr lo sm) := hD5
    replace hl4 : lv_has ls4 3 [(2, .int (nI o)), (1, .int (nI i)), (0, .ref (b 0))] := hl4
    show W p l e _ s m _ below meth c _ _ _ _ _ (F0 m 31 ls4 [])
    refine lv_iload_n hx hb dX0_clear_31 rfl (lv_at hl4 0 rfl) ?_
    refine lv_bipush (v := 6) hx hb dX0_clear_32 (by decide) ?_
    refine ln_ge (tgt := 52) o 6 rfl rfl (by omega) (by omega) hx hb dX0_clear_34 (by decide) (fun c_34 => ?_) (fun c_34 => ?_)
    · have hq9 : (aS cy b (zI (i + 1) P) F N B O (zI (i + 1) Sd) (zI (i + 1) Dv) (va_up (zL i L) i (zI o (L i))) rc re fr lo sm) = (aS cy b (zI (i + 1) P) F N B O (zI (i + 1) Sd) (zI (i + 1) Dv) (zL (i + 1) L) rc re fr lo sm) := congrArg (fun z9 => aS cy b (zI (i + 1) P) F N B O (zI (i + 1) Sd) (zI (i + 1) Dv) z9 rc re fr lo sm) (show (va_up (zL i L) i (zI o (L i))) = (zL (i + 1) L) from zL_s L (by omega))
      replace hP5 := (congrArg (fun z9 => va_P D vwCl z9 _) hq9).mp hP5
      replace hD5 := (congrArg (fun z9 => va_D _ z9) hq9).mp hD5
      clear hq9
      refine lv_iinc (v := nI (i + 1)) (lv' := [(1, .int (nI (i + 1))), (2, .int (nI o)), (0, .ref (b 0))]) hx hb dX0_clear_52 hl4 (k := 1) rfl (nI_inc _) (by decide) rfl (fun ls5 hl5 => ?_)
      clear hl4 ls4
      refine lv_goto (tgt := 2) hx hb dX0_clear_55 (by decide) ?_
      exact ih_2 (i + 1) (by first | omega | assumption | rfl | simp_all) (by (try dsimp only); omega) H5 locs5 ls5 hP5 hD5 hS5 (lv_sub hl5 [0, 2] rfl)
    · refine lv_aload_n hx hb dX0_clear_37 rfl (lv_at hl4 2 rfl) ?_
      refine va_get (D := D) (ci := 0) (v := .ref (b 8)) (C := RX0) (T := TX0) (N := 13) hx hb hw iX0 hown hK hP5 0 rfl rfl 12 (by decide) (hw _ kw_1_125) (fun _ h9 => h9) rfl dX0_clear_38 ?_
      refine lv_iload_n hx hb dX0_clear_41 rfl (lv_at hl4 1 rfl) ?_
      refine ald_q hx hb hK hP5 8 4 rfl rfl rfl i rfl (by first | omega | assumption) (by decide) (if_pos (by first | assumption | omega)) dX0_clear_42 ?_
      refine lv_iload_n hx hb dX0_clear_43 rfl (lv_at hl4 0 rfl) ?_
      refine lv_iconst (v := 0) hx hb dX0_clear_44 (by decide) ?_
      refine ast_i (f := (va_up (zL i L) i (zI o (L i))) i) (ws' := aS cy b (zI (i + 1) P) F N B O (zI (i + 1) Sd) (zI (i + 1) Dv) (va_up (va_up (zL i L) i (zI o (L i))) i (upd ((va_up (zL i L) i (zI o (L i))) i) o 0)) rc re fr lo sm) hx hb hK hP5 hD5 hS5 (9 + i) 0 (row6 (P := fun i9 => (aS cy b (zI (i + 1) P) F N B O (zI (i + 1) Sd) (zI (i + 1) Dv) (va_up (zL i L) i (zI o (L i))) rc re fr lo sm)[9 + i9]? = some (b (9 + i9), .inl (cy 0, 6, .inl ((va_up (zL i L) i (zI o (L i))) i9)))) rfl rfl rfl rfl rfl rfl (by first | assumption | omega)) rfl o rfl (by first | omega | assumption) (by decide) (row6 (P := fun i9 => (aS cy b (zI (i + 1) P) F N B O (zI (i + 1) Sd) (zI (i + 1) Dv) (va_up (zL i L) i (zI o (L i))) rc re fr lo sm).set (9 + i9) (b (9 + i9), .inl (cy 0, 6, .inl (upd ((va_up (zL i L) i (zI o (L i))) i9) o 0))) = aS cy b (zI (i + 1) P) F N B O (zI (i + 1) Sd) (zI (i + 1) Dv) (va_up (va_up (zL i L) i (zI o (L i))) i9 (upd ((va_up (zL i L) i (zI o (L i))) i9) o 0)) rc re fr lo sm) rfl rfl rfl rfl rfl rfl (by first | assumption | omega)) dX0_clear_45 (fun H6 locs6 hP6 hD6 hS6 => ?_)
      clear hP5 hD5 hS5 locs5 H5
      refine lv_iinc (v := nI (o + 1)) (lv' := [(2, .int (nI (o + 1))), (1, .int (nI i)), (0, .ref (b 0))]) hx hb dX0_clear_46 hl4 (k := 0) rfl (nI_inc _) (by decide) rfl (fun ls5 hl5 => ?_)
      clear hl4 ls4
      refine lv_goto (tgt := 31) hx hb dX0_clear_49 (by decide) ?_
      have hq9 : (aS cy b (zI (i + 1) P) F N B O (zI (i + 1) Sd) (zI (i + 1) Dv) (va_up (va_up (zL i L) i (zI o (L i))) i (upd ((va_up (zL i L) i (zI o (L i))) i) o 0)) rc re fr lo sm) = (aS cy b (zI (i + 1) P) F N B O (zI (i + 1) Sd) (zI (i + 1) Dv) (va_up (zL i L) i (zI (o + 1) (L i))) rc re fr lo sm) := congrArg (fun z9 => aS cy b (zI (i + 1) P) F N B O (zI (i + 1) Sd) (zI (i + 1) Dv) z9 rc re fr lo sm) (show (va_up (va_up (zL i L) i (zI o (L i))) i (upd ((va_up (zL i L) i (zI o (L i))) i) o 0)) = (va_up (zL i L) i (zI (o + 1) (L i))) from zL_m L i o)
      replace hP6 := (congrArg (fun z9 => va_P D vwCl z9 _) hq9).mp hP6
      replace hD6 := (congrArg (fun z9 => va_D _ z9) hq9).mp hD6
      clear hq9
      exact ih_31 (o + 1) (by first | omega | assumption | rfl | simp_all) (by (try dsimp only); omega) H6 locs6 ls5 hP6 hD6 hS6 (lv_sub hl5 [0, 1, 2] rfl)

theorem kc_X0_gather : kV yX0_gather cX0_gather 6 none 1 := ⟨kw_3_62, kw_s_15, kw_1_3, kw_3_63, by decide, by decide, by decide +kernel⟩
set_option maxHeartbeats 4000000 in
set_option maxRecDepth 100000 in
theorem c_X0_gather (l : Launch) (D : va_G) (cy : Nat → ClassId) (G : Nat → Nat) (sz : Nat) (b : Nat → Nat) (P : Nat → Int32) (F : Nat → Int32) (N : Nat → Int32) (B : Nat → Int32) (O : Nat → Int32) (rc : Int32) (re : Int32) (fr : Int32) (lo : Int32) (sm : Int32) (a : Nat → Nat) (S : Nat → Int32) (wf : wf S) : Met l yX0_gather (wm yX0_gather cX0_gather 6 none) { frames := 2, cells := 0, slots := 0, locals := 44 } (va_Pc [.ref (b 0), .ref (a 0)] (pr D (TY cy) G (aS cy b P F N B O (fun _ => 0) (fun _ => 0) (fun _ _ => 0) rc re fr lo sm ++ (pS cy a S)) sz)) (va_Qv (fun (u : Unit) => True) (fun (u : Unit) t => po D (va_A (aS cy b P F N B O (fun _ => 0) (fun _ => 0) (fun _ _ => 0) rc re fr lo sm ++ (pS cy a S)) sz) (aS cy b P F N (fil (breadth S) B (gcN S)) (fil (fun g => 8 * push S g) O (gcN S)) (gS0 S) (gDv S (gcN S)) (gL S (gcN S)) rc re fr lo sm ++ (pS cy a S)) t) (va_A (aS cy b P F N B O (fun _ => 0) (fun _ => 0) (fun _ _ => 0) rc re fr lo sm ++ (pS cy a S)) sz)) 0 0 (va_A (aS cy b P F N B O (fun _ => 0) (fun _ => 0) (fun _ _ => 0) rc re fr lo sm ++ (pS cy a S)) sz) := by
  refine mk_rw (by decide) RX0 rfl (Nat.le_of_ble_eq_true rfl) [(0, .ref (b 0)), (1, .ref (a 0))] rfl ?_
  intro p e s m below meth c hx hb hml hown hr hlocks hin hw hsz hA hG hK H0 locs0 hP0 hD0 hS0 ls0 hl0
  clear hin
  have hg20 := wf_g20 wf
  have hr6 := wf_r6 wf
  refine lv_iconst (v := 0) hx hb dX0_gather_0 (by decide) ?_
  refine lv_istore_n (lv' := [(2, .int 0), (0, .ref (b 0)), (1, .ref (a 0))]) hx hb dX0_gather_1 rfl hl0 (by decide) rfl (fun ls1 hl1 => ?_)
  clear hl0 ls0
  have hq9 : (aS cy b P F N B O (fun _ => 0) (fun _ => 0) (fun _ _ => 0) rc re fr lo sm ++ (pS cy a S)) = (aS cy b P F N (fil (breadth S) B 0) O (fun _ => 0) (fun _ => 0) (fun _ _ => 0) rc re fr lo sm ++ (pS cy a S)) := congrArg (fun z9 => aS cy b P F N z9 O (fun _ => 0) (fun _ => 0) (fun _ _ => 0) rc re fr lo sm ++ (pS cy a S)) (show B = (fil (breadth S) B 0) from fil_0 _ B)
  replace hP0 := (congrArg (fun z9 => va_P D vwCl z9 _) hq9).mp hP0
  replace hD0 := (congrArg (fun z9 => va_D _ z9) hq9).mp hD0
  clear hq9
  have hq9 : (aS cy b P F N (fil (breadth S) B 0) O (fun _ => 0) (fun _ => 0) (fun _ _ => 0) rc re fr lo sm ++ (pS cy a S)) = (aS cy b P F N (fil (breadth S) B 0) (fil (fun g => 8 * push S g) O 0) (fun _ => 0) (fun _ => 0) (fun _ _ => 0) rc re fr lo sm ++ (pS cy a S)) := congrArg (fun z9 => aS cy b P F N (fil (breadth S) B 0) z9 (fun _ => 0) (fun _ => 0) (fun _ _ => 0) rc re fr lo sm ++ (pS cy a S)) (show O = (fil (fun g => 8 * push S g) O 0) from fil_0 _ O)
  replace hP0 := (congrArg (fun z9 => va_P D vwCl z9 _) hq9).mp hP0
  replace hD0 := (congrArg (fun z9 => va_D _ z9) hq9).mp hD0
  clear hq9
  have hq9 : (aS cy b P F N (fil (breadth S) B 0) (fil (fun g => 8 * push S g) O 0) (fun _ => 0) (fun _ => 0) (fun _ _ => 0) rc re fr lo sm ++ (pS cy a S)) = (aS cy b P F N (fil (breadth S) B 0) (fil (fun g => 8 * push S g) O 0) (gSd S 0) (fun _ => 0) (fun _ _ => 0) rc re fr lo sm ++ (pS cy a S)) := congrArg (fun z9 => aS cy b P F N (fil (breadth S) B 0) (fil (fun g => 8 * push S g) O 0) z9 (fun _ => 0) (fun _ _ => 0) rc re fr lo sm ++ (pS cy a S)) (show (fun _ => 0) = (gSd S 0) from rfl)
  replace hP0 := (congrArg (fun z9 => va_P D vwCl z9 _) hq9).mp hP0
  replace hD0 := (congrArg (fun z9 => va_D _ z9) hq9).mp hD0
  clear hq9
  have hq9 : (aS cy b P F N (fil (breadth S) B 0) (fil (fun g => 8 * push S g) O 0) (gSd S 0) (fun _ => 0) (fun _ _ => 0) rc re fr lo sm ++ (pS cy a S)) = (aS cy b P F N (fil (breadth S) B 0) (fil (fun g => 8 * push S g) O 0) (gSd S 0) (gDv S 0) (fun _ _ => 0) rc re fr lo sm ++ (pS cy a S)) := congrArg (fun z9 => aS cy b P F N (fil (breadth S) B 0) (fil (fun g => 8 * push S g) O 0) (gSd S 0) z9 (fun _ _ => 0) rc re fr lo sm ++ (pS cy a S)) (show (fun _ => 0) = (gDv S 0) from rfl)
  replace hP0 := (congrArg (fun z9 => va_P D vwCl z9 _) hq9).mp hP0
  replace hD0 := (congrArg (fun z9 => va_D _ z9) hq9).mp hD0
  clear hq9
  have hq9 : (aS cy b P F N (fil (breadth S) B 0) (fil (fun g => 8 * push S g) O 0) (gSd S 0) (gDv S 0) (fun _ _ => 0) rc re fr lo sm ++ (pS cy a S)) = (aS cy b P F N (fil (breadth S) B 0) (fil (fun g => 8 * push S g) O 0) (gSd S 0) (gDv S 0) (gL S 0) rc re fr lo sm ++ (pS cy a S)) := congrArg (fun z9 => aS cy b P F N (fil (breadth S) B 0) (fil (fun g => 8 * push S g) O 0) (gSd S 0) (gDv S 0) z9 rc re fr lo sm ++ (pS cy a S)) (show (fun _ _ => 0) = (gL S 0) from rfl)
  replace hP0 := (congrArg (fun z9 => va_P D vwCl z9 _) hq9).mp hP0
  replace hD0 := (congrArg (fun z9 => va_D _ z9) hq9).mp hD0
  clear hq9
  refine wlp (ι := Nat) (nL := 6) (fun x9 => (x9 ≤ gcN S)) (fun x9 => aS cy b P F N (fil (breadth S) B (x9)) (fil (fun g => 8 * push S g) O (x9)) (gSd S (x9)) (gDv S (x9)) (gL S (x9)) rc re fr lo sm ++ (pS cy a S)) (fun x9 => [(2, .int (nI x9)), (0, .ref (b 0)), (1, .ref (a 0))]) (fun x9 => []) (fun x9 => gcN S - x9) 2 ?_ 0 (by first | omega | assumption | rfl | simp_all) rfl hP0 hD0 hS0 (lv_sub hl1 [0, 1, 2] rfl)
  clear hP0 hD0 hS0 locs0 H0 hl1 ls1
  intro x9 hI ih_2 H1 locs1 ls2 hP1 hD1 hS1 hl2
  obtain ⟨i, rfl⟩ : ∃ z9, z9 = x9 := ⟨_, rfl⟩
  have hi := hI
  replace hi : i ≤ gcN S := hi
  replace hP1 : va_P D vwCl (aS cy b P F N (fil (breadth S) B (i)) (fil (fun g => 8 * push S g) O (i)) (gSd S (i)) (gDv S (i)) (gL S (i)) rc re fr lo sm ++ (pS cy a S)) H1 := hP1
  replace hD1 : va_D (va_A _ sz) (aS cy b P F N (fil (breadth S) B (i)) (fil (fun g => 8 * push S g) O (i)) (gSd S (i)) (gDv S (i)) (gL S (i)) rc re fr lo sm ++ (pS cy a S)) := hD1
  replace hl2 : lv_has ls2 6 [(2, .int (nI i)), (0, .ref (b 0)), (1, .ref (a 0))] := hl2
  show W p l e _ s m _ below meth c _ _ _ _ _ (F0 m 2 ls2 [])
  refine lv_iload_n hx hb dX0_gather_2 rfl (lv_at hl2 0 rfl) ?_
  refine lv_aload_n hx hb dX0_gather_3 rfl (lv_at hl2 2 rfl) ?_
  refine va_get (D := D) (ci := 1) (v := .int (S 1)) (C := RX1) (T := TX1) (N := 12) hx hb hw iX1 hown hK hP1 15 rfl rfl 1 (by decide) (hw _ kw_1_36) (fun _ h9 => h9) rfl dX0_gather_4 ?_
  refine tp (show (S 1) = nI (gcN S) from wf_g wf) ?_
  refine ln_ge (tgt := 136) i (gcN S) rfl rfl (by omega) (by omega) hx hb dX0_gather_7 (by decide) (fun c_7 => ?_) (fun c_7 => ?_)
  · obtain rfl : i = gcN S := (by omega)
    refine lv_aload_n hx hb dX0_gather_136 rfl (lv_at hl2 1 rfl) ?_
    refine va_get (D := D) (ci := 0) (v := .ref (b 6)) (C := RX0) (T := TX0) (N := 13) hx hb hw iX0 hown hK hP1 0 rfl rfl 10 (by decide) (hw _ kw_1_123) (fun _ h9 => h9) rfl dX0_gather_137 ?_
    refine lv_iconst (v := 0) hx hb dX0_gather_140 (by decide) ?_
    refine lv_dup2_11 hx hb dX0_gather_141 rfl rfl ?_
    refine ald_i (f := gSd S ((gcN S))) hx hb hK hP1 6 0 rfl rfl 0 rfl (by first | omega | assumption) (by decide) dX0_gather_142 ?_
    refine lv_bipush (v := 80) hx hb dX0_gather_143 (by decide) ?_
    refine lv_aload_n hx hb dX0_gather_145 rfl (lv_at hl2 2 rfl) ?_
    refine va_get (D := D) (ci := 1) (v := .ref (a 9)) (C := RX1) (T := TX1) (N := 12) hx hb hw iX1 hown hK hP1 15 rfl rfl 10 (by decide) (hw _ kw_1_61) (fun _ h9 => h9) rfl dX0_gather_146 ?_
    refine lv_iconst (v := 3) hx hb dX0_gather_149 (by decide) ?_
    refine ald_i (f := fun k => if k < 6 then S (2 + k) else 0) hx hb hK hP1 24 0 rfl rfl 3 rfl (by first | omega | assumption) (by decide) dX0_gather_150 ?_
    refine tp (show (if 3 < 6 then S (2 + 3) else 0) = S 5 from rfl) ?_
    refine lv_imul hx hb dX0_gather_151 ?_
    refine lv_iadd hx hb dX0_gather_152 ?_
    refine ast_i (f := gSd S ((gcN S))) (ws' := aS cy b P F N (fil (breadth S) B ((gcN S))) (fil (fun g => 8 * push S g) O ((gcN S))) (upd (gSd S ((gcN S))) 0 (((gSd S ((gcN S))) 0) + (80 * (S 5)))) (gDv S ((gcN S))) (gL S ((gcN S))) rc re fr lo sm ++ (pS cy a S)) hx hb hK hP1 hD1 hS1 6 0 rfl rfl 0 rfl (by first | omega | assumption) (by decide) rfl dX0_gather_153 (fun H2 locs2 hP2 hD2 hS2 => ?_)
    clear hP1 hD1 hS1 locs1 H1
    have hq9 : (aS cy b P F N (fil (breadth S) B ((gcN S))) (fil (fun g => 8 * push S g) O ((gcN S))) (upd (gSd S ((gcN S))) 0 (((gSd S ((gcN S))) 0) + (80 * (S 5)))) (gDv S ((gcN S))) (gL S ((gcN S))) rc re fr lo sm ++ (pS cy a S)) = (aS cy b P F N (fil (breadth S) B ((gcN S))) (fil (fun g => 8 * push S g) O ((gcN S))) (gS0 S) (gDv S ((gcN S))) (gL S ((gcN S))) rc re fr lo sm ++ (pS cy a S)) := congrArg (fun z9 => aS cy b P F N (fil (breadth S) B ((gcN S))) (fil (fun g => 8 * push S g) O ((gcN S))) z9 (gDv S ((gcN S))) (gL S ((gcN S))) rc re fr lo sm ++ (pS cy a S)) (show (upd (gSd S ((gcN S))) 0 (((gSd S ((gcN S))) 0) + (80 * (S 5)))) = (gS0 S) from rfl)
    replace hP2 := (congrArg (fun z9 => va_P D vwCl z9 _) hq9).mp hP2
    replace hD2 := (congrArg (fun z9 => va_D _ z9) hq9).mp hD2
    clear hq9
    have hq9 : (aS cy b P F N (fil (breadth S) B ((gcN S))) (fil (fun g => 8 * push S g) O ((gcN S))) (gS0 S) (gDv S ((gcN S))) (gL S ((gcN S))) rc re fr lo sm ++ (pS cy a S)) = aS cy b P F N (fil (breadth S) B (gcN S)) (fil (fun g => 8 * push S g) O (gcN S)) (gS0 S) (gDv S (gcN S)) (gL S (gcN S)) rc re fr lo sm ++ (pS cy a S) := by rfl
    replace hP2 := (congrArg (fun z9 => va_P D vwCl z9 _) hq9).mp hP2
    replace hD2 := (congrArg (fun z9 => va_D _ z9) hq9).mp hD2
    refine re_v () hx hb hr hlocks hP2 hD2 hS2 dX0_gather_154 ?_
    exact (trivial)
  · obtain ⟨r9, er9⟩ : ∃ z, z = rmN S i := ⟨_, rfl⟩
    have hr9 : r9 < 6 := by rw [er9]; exact wf_rm6 wf c_7
    have er8 : S (10 + 8 * i) = nI r9 := by rw [er9]; exact wf_rm wf c_7
    refine lv_aload_n hx hb dX0_gather_10 rfl (lv_at hl2 2 rfl) ?_
    refine lv_iload_n hx hb dX0_gather_11 rfl (lv_at hl2 0 rfl) ?_
    refine rV_i (wc := pS cy a S) (rest := []) hx hb hml hown hw hG hK hP1 hS1 hA hl2 kc_X1_breadthOf kw_3_64 [.int (nI i)] (c_X1_breadthOf l D cy G H1.size a S i (by first | omega | assumption)) [15, 16, 17, 18, 19, 20, 21, 22, 23, 24] rfl 0 rfl rfl rfl rfl rfl (Nat.le_of_ble_eq_true rfl) ⟨Nat.le_of_ble_eq_true rfl, Nat.le_of_ble_eq_true rfl⟩ dX0_gather_12 ⟨Nat.le_of_ble_eq_true rfl, Nat.le_of_ble_eq_true rfl⟩ (fun r_12 H2 locs2 hr_12 hP2 hS2 => ?_)
    have hD2 := hD1
    clear hP1 hD1 hS1 locs1 H1
    subst hr_12
    refine lv_istore_n (lv' := [(3, .int (breadth S i)), (2, .int (nI i)), (0, .ref (b 0)), (1, .ref (a 0))]) hx hb dX0_gather_15 rfl hl2 (by decide) rfl (fun ls3 hl3 => ?_)
    clear hl2 ls2
    refine lv_aload_n hx hb dX0_gather_16 rfl (lv_at hl3 3 rfl) ?_
    refine va_get (D := D) (ci := 1) (v := .ref (a 2)) (C := RX1) (T := TX1) (N := 12) hx hb hw iX1 hown hK hP2 15 rfl rfl 3 (by decide) (hw _ kw_1_42) (fun _ h9 => h9) rfl dX0_gather_17 ?_
    refine lv_iload_n hx hb dX0_gather_20 rfl (lv_at hl3 1 rfl) ?_
    refine ald_i (f := fun g => S (10 + 8 * g)) hx hb hK hP2 17 0 rfl rfl i rfl (by first | omega | assumption) (by decide) dX0_gather_21 ?_
    refine tp (show (S (10 + 8 * i)) = nI r9 from er8) ?_
    refine lv_istore (lv' := [(4, .int (nI r9)), (3, .int (breadth S i)), (2, .int (nI i)), (0, .ref (b 0)), (1, .ref (a 0))]) hx hb dX0_gather_22 hl3 (by decide) rfl (fun ls4 hl4 => ?_)
    clear hl3 ls3
    refine lv_aload_n hx hb dX0_gather_24 rfl (lv_at hl4 4 rfl) ?_
    refine va_get (D := D) (ci := 1) (v := .ref (a 3)) (C := RX1) (T := TX1) (N := 12) hx hb hw iX1 hown hK hP2 15 rfl rfl 4 (by decide) (hw _ kw_1_45) (fun _ h9 => h9) rfl dX0_gather_25 ?_
    refine lv_iload_n hx hb dX0_gather_28 rfl (lv_at hl4 2 rfl) ?_
    refine ald_i (f := fun g => S (11 + 8 * g)) hx hb hK hP2 18 0 rfl rfl i rfl (by first | omega | assumption) (by decide) dX0_gather_29 ?_
    refine lv_istore (lv' := [(5, .int (S (11 + 8 * i))), (4, .int (nI r9)), (3, .int (breadth S i)), (2, .int (nI i)), (0, .ref (b 0)), (1, .ref (a 0))]) hx hb dX0_gather_30 hl4 (by decide) rfl (fun ls5 hl5 => ?_)
    clear hl4 ls4
    refine lv_aload_n hx hb dX0_gather_32 rfl (lv_at hl5 4 rfl) ?_
    refine va_get (D := D) (ci := 0) (v := .ref (b 4)) (C := RX0) (T := TX0) (N := 13) hx hb hw iX0 hown hK hP2 0 rfl rfl 8 (by decide) (hw _ kw_1_121) (fun _ h9 => h9) rfl dX0_gather_33 ?_
    refine lv_iload_n hx hb dX0_gather_36 rfl (lv_at hl5 3 rfl) ?_
    refine lv_iload_n hx hb dX0_gather_37 rfl (lv_at hl5 2 rfl) ?_
    refine ast_i (f := fil (breadth S) B (i)) (ws' := aS cy b P F N (upd (fil (breadth S) B (i)) i (breadth S i)) (fil (fun g => 8 * push S g) O (i)) (gSd S (i)) (gDv S (i)) (gL S (i)) rc re fr lo sm ++ (pS cy a S)) hx hb hK hP2 hD2 hS2 4 0 rfl rfl i rfl (by first | omega | assumption) (by decide) rfl dX0_gather_38 (fun H3 locs3 hP3 hD3 hS3 => ?_)
    clear hP2 hD2 hS2 locs2 H2
    have hq9 : (aS cy b P F N (upd (fil (breadth S) B (i)) i (breadth S i)) (fil (fun g => 8 * push S g) O (i)) (gSd S (i)) (gDv S (i)) (gL S (i)) rc re fr lo sm ++ (pS cy a S)) = (aS cy b P F N (fil (breadth S) B (i + 1)) (fil (fun g => 8 * push S g) O (i)) (gSd S (i)) (gDv S (i)) (gL S (i)) rc re fr lo sm ++ (pS cy a S)) := congrArg (fun z9 => aS cy b P F N z9 (fil (fun g => 8 * push S g) O (i)) (gSd S (i)) (gDv S (i)) (gL S (i)) rc re fr lo sm ++ (pS cy a S)) (show (upd (fil (breadth S) B (i)) i (breadth S i)) = (fil (breadth S) B (i + 1)) from fil_s _ B i)
    replace hP3 := (congrArg (fun z9 => va_P D vwCl z9 _) hq9).mp hP3
    replace hD3 := (congrArg (fun z9 => va_D _ z9) hq9).mp hD3
    clear hq9
    refine lv_aload_n hx hb dX0_gather_39 rfl (lv_at hl5 4 rfl) ?_
    refine va_get (D := D) (ci := 0) (v := .ref (b 5)) (C := RX0) (T := TX0) (N := 13) hx hb hw iX0 hown hK hP3 0 rfl rfl 9 (by decide) (hw _ kw_1_122) (fun _ h9 => h9) rfl dX0_gather_40 ?_
    refine lv_iload_n hx hb dX0_gather_43 rfl (lv_at hl5 3 rfl) ?_
    refine lv_bipush (v := 8) hx hb dX0_gather_44 (by decide) ?_
    refine lv_aload_n hx hb dX0_gather_46 rfl (lv_at hl5 5 rfl) ?_
    refine lv_iload_n hx hb dX0_gather_47 rfl (lv_at hl5 3 rfl) ?_
    refine rV_i (wc := pS cy a S) (rest := [.int 8, .int (nI i), .ref (b 5)]) hx hb hml hown hw hG hK hP3 hS3 hA hl5 kc_X1_pushOf kw_3_65 [.int (nI i)] (c_X1_pushOf l D cy G H3.size a S i (by first | omega | assumption)) [15, 16, 17, 18, 19, 20, 21, 22, 23, 24] rfl 0 rfl rfl rfl rfl rfl (Nat.le_of_ble_eq_true rfl) ⟨Nat.le_of_ble_eq_true rfl, Nat.le_of_ble_eq_true rfl⟩ dX0_gather_48 ⟨Nat.le_of_ble_eq_true rfl, Nat.le_of_ble_eq_true rfl⟩ (fun r_48 H4 locs4 hr_48 hP4 hS4 => ?_)
    have hD4 := hD3
    clear hP3 hD3 hS3 locs3 H3
    subst hr_48
    refine lv_imul hx hb dX0_gather_51 ?_
    refine ast_i (f := fil (fun g => 8 * push S g) O (i)) (ws' := aS cy b P F N (fil (breadth S) B (i + 1)) (upd (fil (fun g => 8 * push S g) O (i)) i (8 * (push S i))) (gSd S (i)) (gDv S (i)) (gL S (i)) rc re fr lo sm ++ (pS cy a S)) hx hb hK hP4 hD4 hS4 5 0 rfl rfl i rfl (by first | omega | assumption) (by decide) rfl dX0_gather_52 (fun H5 locs5 hP5 hD5 hS5 => ?_)
    clear hP4 hD4 hS4 locs4 H4
    have hq9 : (aS cy b P F N (fil (breadth S) B (i + 1)) (upd (fil (fun g => 8 * push S g) O (i)) i (8 * (push S i))) (gSd S (i)) (gDv S (i)) (gL S (i)) rc re fr lo sm ++ (pS cy a S)) = (aS cy b P F N (fil (breadth S) B (i + 1)) (fil (fun g => 8 * push S g) O (i + 1)) (gSd S (i)) (gDv S (i)) (gL S (i)) rc re fr lo sm ++ (pS cy a S)) := congrArg (fun z9 => aS cy b P F N (fil (breadth S) B (i + 1)) z9 (gSd S (i)) (gDv S (i)) (gL S (i)) rc re fr lo sm ++ (pS cy a S)) (show (upd (fil (fun g => 8 * push S g) O (i)) i (8 * (push S i))) = (fil (fun g => 8 * push S g) O (i + 1)) from fil_s (fun g => 8 * push S g) O i)
    replace hP5 := (congrArg (fun z9 => va_P D vwCl z9 _) hq9).mp hP5
    replace hD5 := (congrArg (fun z9 => va_D _ z9) hq9).mp hD5
    clear hq9
    refine lv_aload_n hx hb dX0_gather_53 rfl (lv_at hl5 4 rfl) ?_
    refine va_get (D := D) (ci := 0) (v := .ref (b 7)) (C := RX0) (T := TX0) (N := 13) hx hb hw iX0 hown hK hP5 0 rfl rfl 11 (by decide) (hw _ kw_1_124) (fun _ h9 => h9) rfl dX0_gather_54 ?_
    refine lv_iload hx hb dX0_gather_57 (lv_at hl5 1 rfl) ?_
    refine lv_dup2_11 hx hb dX0_gather_59 rfl rfl ?_
    refine ald_i (f := gDv S (i)) hx hb hK hP5 7 0 rfl rfl r9 rfl (by first | omega | assumption) (by decide) dX0_gather_60 ?_
    refine lv_iload_n hx hb dX0_gather_61 rfl (lv_at hl5 2 rfl) ?_
    refine lv_iadd hx hb dX0_gather_62 ?_
    refine ast_i (f := gDv S (i)) (ws' := aS cy b P F N (fil (breadth S) B (i + 1)) (fil (fun g => 8 * push S g) O (i + 1)) (gSd S (i)) (upd (gDv S (i)) r9 (((gDv S (i)) r9) + (breadth S i))) (gL S (i)) rc re fr lo sm ++ (pS cy a S)) hx hb hK hP5 hD5 hS5 7 0 rfl rfl r9 rfl (by first | omega | assumption) (by decide) rfl dX0_gather_63 (fun H6 locs6 hP6 hD6 hS6 => ?_)
    clear hP5 hD5 hS5 locs5 H5
    refine lv_iload hx hb dX0_gather_64 (lv_at hl5 0 rfl) ?_
    refine lv_iconst (v := (-1)) hx hb dX0_gather_66 (by decide) ?_
    refine lv_icmp_ne (tgt := 91) hx hb dX0_gather_67 (by decide) (fun c_67 => ?_) (fun c_67 => ?_)
    · obtain ⟨o9, eo9⟩ : ∃ z, z = otN S i := ⟨_, rfl⟩
      have ho9 : o9 < 6 := by rw [eo9]; exact wf_ot6 wf c_7 c_67
      have eo8 : S (11 + 8 * i) = nI o9 := by rw [eo9]; exact wf_ot wf c_7 c_67
      refine lv_aload_n hx hb dX0_gather_91 rfl (lv_at hl5 4 rfl) ?_
      refine va_get (D := D) (ci := 0) (v := .ref (b 7)) (C := RX0) (T := TX0) (N := 13) hx hb hw iX0 hown hK hP6 0 rfl rfl 11 (by decide) (hw _ kw_1_124) (fun _ h9 => h9) rfl dX0_gather_92 ?_
      refine lv_iload hx hb dX0_gather_95 (lv_at hl5 0 rfl) ?_
      refine lv_dup2_11 hx hb dX0_gather_97 rfl rfl ?_
      refine ald_i (f := upd (gDv S (i)) r9 (((gDv S (i)) r9) + (breadth S i))) hx hb hK hP6 7 0 rfl rfl o9 eo8 ho9 (by decide) dX0_gather_98 ?_
      refine lv_iload_n hx hb dX0_gather_99 rfl (lv_at hl5 2 rfl) ?_
      refine lv_iadd hx hb dX0_gather_100 ?_
      refine ast_i (f := upd (gDv S (i)) r9 (((gDv S (i)) r9) + (breadth S i))) (ws' := aS cy b P F N (fil (breadth S) B (i + 1)) (fil (fun g => 8 * push S g) O (i + 1)) (gSd S (i)) (upd (upd (gDv S (i)) r9 (((gDv S (i)) r9) + (breadth S i))) o9 (((upd (gDv S (i)) r9 (((gDv S (i)) r9) + (breadth S i))) o9) + (breadth S i))) (gL S (i)) rc re fr lo sm ++ (pS cy a S)) hx hb hK hP6 hD6 hS6 7 0 rfl rfl o9 eo8 ho9 (by decide) rfl dX0_gather_101 (fun H7 locs7 hP7 hD7 hS7 => ?_)
      clear hP6 hD6 hS6 locs6 H6
      refine lv_aload_n hx hb dX0_gather_102 rfl (lv_at hl5 4 rfl) ?_
      refine va_get (D := D) (ci := 0) (v := .ref (b 8)) (C := RX0) (T := TX0) (N := 13) hx hb hw iX0 hown hK hP7 0 rfl rfl 12 (by decide) (hw _ kw_1_125) (fun _ h9 => h9) rfl dX0_gather_103 ?_
      refine lv_iload hx hb dX0_gather_106 (lv_at hl5 1 rfl) ?_
      refine ald_q hx hb hK hP7 8 4 rfl rfl rfl r9 rfl (by first | omega | assumption) (by decide) (if_pos (by first | assumption | omega)) dX0_gather_108 ?_
      refine lv_iload hx hb dX0_gather_109 (lv_at hl5 0 rfl) ?_
      refine lv_dup2_11 hx hb dX0_gather_111 rfl rfl ?_
      refine ald_i (f := (gL S (i)) r9) hx hb hK hP7 (9 + r9) 0 (row6 (P := fun i9 => (aS cy b P F N (fil (breadth S) B (i + 1)) (fil (fun g => 8 * push S g) O (i + 1)) (gSd S (i)) (upd (upd (gDv S (i)) r9 (((gDv S (i)) r9) + (breadth S i))) o9 (((upd (gDv S (i)) r9 (((gDv S (i)) r9) + (breadth S i))) o9) + (breadth S i))) (gL S (i)) rc re fr lo sm ++ (pS cy a S))[9 + i9]? = some (b (9 + i9), .inl (cy 0, 6, .inl ((gL S (i)) i9)))) rfl rfl rfl rfl rfl rfl (by first | assumption | omega)) rfl o9 eo8 ho9 (by decide) dX0_gather_112 ?_
      refine lv_iload_n hx hb dX0_gather_113 rfl (lv_at hl5 2 rfl) ?_
      refine lv_iadd hx hb dX0_gather_114 ?_
      refine ast_i (f := (gL S (i)) r9) (ws' := aS cy b P F N (fil (breadth S) B (i + 1)) (fil (fun g => 8 * push S g) O (i + 1)) (gSd S (i)) (upd (upd (gDv S (i)) r9 (((gDv S (i)) r9) + (breadth S i))) o9 (((upd (gDv S (i)) r9 (((gDv S (i)) r9) + (breadth S i))) o9) + (breadth S i))) (va_up (gL S (i)) r9 (upd ((gL S (i)) r9) o9 (((gL S (i)) r9 o9) + (breadth S i)))) rc re fr lo sm ++ (pS cy a S)) hx hb hK hP7 hD7 hS7 (9 + r9) 0 (row6 (P := fun i9 => (aS cy b P F N (fil (breadth S) B (i + 1)) (fil (fun g => 8 * push S g) O (i + 1)) (gSd S (i)) (upd (upd (gDv S (i)) r9 (((gDv S (i)) r9) + (breadth S i))) o9 (((upd (gDv S (i)) r9 (((gDv S (i)) r9) + (breadth S i))) o9) + (breadth S i))) (gL S (i)) rc re fr lo sm ++ (pS cy a S))[9 + i9]? = some (b (9 + i9), .inl (cy 0, 6, .inl ((gL S (i)) i9)))) rfl rfl rfl rfl rfl rfl (by first | assumption | omega)) rfl o9 eo8 ho9 (by decide) (row6 (P := fun i9 => (aS cy b P F N (fil (breadth S) B (i + 1)) (fil (fun g => 8 * push S g) O (i + 1)) (gSd S (i)) (upd (upd (gDv S (i)) r9 (((gDv S (i)) r9) + (breadth S i))) o9 (((upd (gDv S (i)) r9 (((gDv S (i)) r9) + (breadth S i))) o9) + (breadth S i))) (gL S (i)) rc re fr lo sm ++ (pS cy a S)).set (9 + i9) (b (9 + i9), .inl (cy 0, 6, .inl (upd ((gL S (i)) i9) o9 (((gL S (i)) r9 o9) + (breadth S i))))) = aS cy b P F N (fil (breadth S) B (i + 1)) (fil (fun g => 8 * push S g) O (i + 1)) (gSd S (i)) (upd (upd (gDv S (i)) r9 (((gDv S (i)) r9) + (breadth S i))) o9 (((upd (gDv S (i)) r9 (((gDv S (i)) r9) + (breadth S i))) o9) + (breadth S i))) (va_up (gL S (i)) i9 (upd ((gL S (i)) i9) o9 (((gL S (i)) r9 o9) + (breadth S i)))) rc re fr lo sm ++ (pS cy a S)) rfl rfl rfl rfl rfl rfl (by first | assumption | omega)) dX0_gather_115 (fun H8 locs8 hP8 hD8 hS8 => ?_)
      clear hP7 hD7 hS7 locs7 H7
      obtain ⟨L1, eL1⟩ : ∃ X, X = va_up (gL S (i)) r9 (upd ((gL S (i)) r9) o9 (((gL S (i)) r9 o9) + (breadth S i))) := ⟨_, rfl⟩
      rw [← eL1] at hP8 hD8
      refine lv_aload_n hx hb dX0_gather_116 rfl (lv_at hl5 4 rfl) ?_
      refine va_get (D := D) (ci := 0) (v := .ref (b 8)) (C := RX0) (T := TX0) (N := 13) hx hb hw iX0 hown hK hP8 0 rfl rfl 12 (by decide) (hw _ kw_1_125) (fun _ h9 => h9) rfl dX0_gather_117 ?_
      refine lv_iload hx hb dX0_gather_120 (lv_at hl5 0 rfl) ?_
      refine ald_q hx hb hK hP8 8 4 rfl rfl rfl o9 eo8 ho9 (by decide) (if_pos (by first | assumption | omega)) dX0_gather_122 ?_
      refine lv_iload hx hb dX0_gather_123 (lv_at hl5 1 rfl) ?_
      refine lv_dup2_11 hx hb dX0_gather_125 rfl rfl ?_
      refine ald_i (f := L1 o9) hx hb hK hP8 (9 + o9) 0 (row6 (P := fun i9 => (aS cy b P F N (fil (breadth S) B (i + 1)) (fil (fun g => 8 * push S g) O (i + 1)) (gSd S (i)) (upd (upd (gDv S (i)) r9 (((gDv S (i)) r9) + (breadth S i))) o9 (((upd (gDv S (i)) r9 (((gDv S (i)) r9) + (breadth S i))) o9) + (breadth S i))) L1 rc re fr lo sm ++ (pS cy a S))[9 + i9]? = some (b (9 + i9), .inl (cy 0, 6, .inl (L1 i9)))) rfl rfl rfl rfl rfl rfl (by first | assumption | omega)) rfl r9 rfl (by first | omega | assumption) (by decide) dX0_gather_126 ?_
      refine lv_iload_n hx hb dX0_gather_127 rfl (lv_at hl5 2 rfl) ?_
      refine lv_iadd hx hb dX0_gather_128 ?_
      refine ast_i (f := L1 o9) (ws' := aS cy b P F N (fil (breadth S) B (i + 1)) (fil (fun g => 8 * push S g) O (i + 1)) (gSd S (i)) (upd (upd (gDv S (i)) r9 (((gDv S (i)) r9) + (breadth S i))) o9 (((upd (gDv S (i)) r9 (((gDv S (i)) r9) + (breadth S i))) o9) + (breadth S i))) (va_up L1 o9 (upd (L1 o9) r9 ((L1 o9 r9) + (breadth S i)))) rc re fr lo sm ++ (pS cy a S)) hx hb hK hP8 hD8 hS8 (9 + o9) 0 (row6 (P := fun i9 => (aS cy b P F N (fil (breadth S) B (i + 1)) (fil (fun g => 8 * push S g) O (i + 1)) (gSd S (i)) (upd (upd (gDv S (i)) r9 (((gDv S (i)) r9) + (breadth S i))) o9 (((upd (gDv S (i)) r9 (((gDv S (i)) r9) + (breadth S i))) o9) + (breadth S i))) L1 rc re fr lo sm ++ (pS cy a S))[9 + i9]? = some (b (9 + i9), .inl (cy 0, 6, .inl (L1 i9)))) rfl rfl rfl rfl rfl rfl (by first | assumption | omega)) rfl r9 rfl (by first | omega | assumption) (by decide) (row6 (P := fun i9 => (aS cy b P F N (fil (breadth S) B (i + 1)) (fil (fun g => 8 * push S g) O (i + 1)) (gSd S (i)) (upd (upd (gDv S (i)) r9 (((gDv S (i)) r9) + (breadth S i))) o9 (((upd (gDv S (i)) r9 (((gDv S (i)) r9) + (breadth S i))) o9) + (breadth S i))) L1 rc re fr lo sm ++ (pS cy a S)).set (9 + i9) (b (9 + i9), .inl (cy 0, 6, .inl (upd (L1 i9) r9 ((L1 o9 r9) + (breadth S i))))) = aS cy b P F N (fil (breadth S) B (i + 1)) (fil (fun g => 8 * push S g) O (i + 1)) (gSd S (i)) (upd (upd (gDv S (i)) r9 (((gDv S (i)) r9) + (breadth S i))) o9 (((upd (gDv S (i)) r9 (((gDv S (i)) r9) + (breadth S i))) o9) + (breadth S i))) (va_up L1 i9 (upd (L1 i9) r9 ((L1 o9 r9) + (breadth S i)))) rc re fr lo sm ++ (pS cy a S)) rfl rfl rfl rfl rfl rfl (by first | assumption | omega)) dX0_gather_129 (fun H9 locs9 hP9 hD9 hS9 => ?_)
      clear hP8 hD8 hS8 locs8 H8
      have hq9 : (aS cy b P F N (fil (breadth S) B (i + 1)) (fil (fun g => 8 * push S g) O (i + 1)) (gSd S (i)) (upd (upd (gDv S (i)) r9 (((gDv S (i)) r9) + (breadth S i))) o9 (((upd (gDv S (i)) r9 (((gDv S (i)) r9) + (breadth S i))) o9) + (breadth S i))) (va_up L1 o9 (upd (L1 o9) r9 ((L1 o9 r9) + (breadth S i)))) rc re fr lo sm ++ (pS cy a S)) = (aS cy b P F N (fil (breadth S) B (i + 1)) (fil (fun g => 8 * push S g) O (i + 1)) (gSd S (i)) (gDv S (i + 1)) (va_up L1 o9 (upd (L1 o9) r9 ((L1 o9 r9) + (breadth S i)))) rc re fr lo sm ++ (pS cy a S)) := congrArg (fun z9 => aS cy b P F N (fil (breadth S) B (i + 1)) (fil (fun g => 8 * push S g) O (i + 1)) (gSd S (i)) z9 (va_up L1 o9 (upd (L1 o9) r9 ((L1 o9 r9) + (breadth S i)))) rc re fr lo sm ++ (pS cy a S)) (show (upd (upd (gDv S (i)) r9 (((gDv S (i)) r9) + (breadth S i))) o9 (((upd (gDv S (i)) r9 (((gDv S (i)) r9) + (breadth S i))) o9) + (breadth S i))) = (gDv S (i + 1)) from by rw [er9, eo9]; exact (if_neg c_67).symm)
      replace hP9 := (congrArg (fun z9 => va_P D vwCl z9 _) hq9).mp hP9
      replace hD9 := (congrArg (fun z9 => va_D _ z9) hq9).mp hD9
      clear hq9
      have hq9 : (aS cy b P F N (fil (breadth S) B (i + 1)) (fil (fun g => 8 * push S g) O (i + 1)) (gSd S (i)) (gDv S (i + 1)) (va_up L1 o9 (upd (L1 o9) r9 ((L1 o9 r9) + (breadth S i)))) rc re fr lo sm ++ (pS cy a S)) = (aS cy b P F N (fil (breadth S) B (i + 1)) (fil (fun g => 8 * push S g) O (i + 1)) (gSd S (i + 1)) (gDv S (i + 1)) (va_up L1 o9 (upd (L1 o9) r9 ((L1 o9 r9) + (breadth S i)))) rc re fr lo sm ++ (pS cy a S)) := congrArg (fun z9 => aS cy b P F N (fil (breadth S) B (i + 1)) (fil (fun g => 8 * push S g) O (i + 1)) z9 (gDv S (i + 1)) (va_up L1 o9 (upd (L1 o9) r9 ((L1 o9 r9) + (breadth S i)))) rc re fr lo sm ++ (pS cy a S)) (show (gSd S (i)) = (gSd S (i + 1)) from (if_neg (c := S (11 + 8 * i) = -1) c_67).symm)
      replace hP9 := (congrArg (fun z9 => va_P D vwCl z9 _) hq9).mp hP9
      replace hD9 := (congrArg (fun z9 => va_D _ z9) hq9).mp hD9
      clear hq9
      have hq9 : (aS cy b P F N (fil (breadth S) B (i + 1)) (fil (fun g => 8 * push S g) O (i + 1)) (gSd S (i + 1)) (gDv S (i + 1)) (va_up L1 o9 (upd (L1 o9) r9 ((L1 o9 r9) + (breadth S i)))) rc re fr lo sm ++ (pS cy a S)) = (aS cy b P F N (fil (breadth S) B (i + 1)) (fil (fun g => 8 * push S g) O (i + 1)) (gSd S (i + 1)) (gDv S (i + 1)) (gL S (i + 1)) rc re fr lo sm ++ (pS cy a S)) := congrArg (fun z9 => aS cy b P F N (fil (breadth S) B (i + 1)) (fil (fun g => 8 * push S g) O (i + 1)) (gSd S (i + 1)) (gDv S (i + 1)) z9 rc re fr lo sm ++ (pS cy a S)) (show (va_up L1 o9 (upd (L1 o9) r9 ((L1 o9 r9) + (breadth S i)))) = (gL S (i + 1)) from by rw [eL1, er9, eo9]; exact (if_neg c_67).symm)
      replace hP9 := (congrArg (fun z9 => va_P D vwCl z9 _) hq9).mp hP9
      replace hD9 := (congrArg (fun z9 => va_D _ z9) hq9).mp hD9
      clear hq9
      refine lv_iinc (v := nI (i + 1)) (lv' := [(2, .int (nI (i + 1))), (5, .int (S (11 + 8 * i))), (4, .int (nI r9)), (3, .int (breadth S i)), (0, .ref (b 0)), (1, .ref (a 0))]) hx hb dX0_gather_130 hl5 (k := 3) rfl (nI_inc _) (by decide) rfl (fun ls6 hl6 => ?_)
      clear hl5 ls5
      refine lv_goto (tgt := 2) hx hb dX0_gather_133 (by decide) ?_
      exact ih_2 (i + 1) (by first | omega | assumption | rfl | simp_all) (by (try dsimp only); omega) H9 locs9 ls6 hP9 hD9 hS9 (lv_sub hl6 [0, 4, 5] rfl)
    · refine lv_aload_n hx hb dX0_gather_70 rfl (lv_at hl5 4 rfl) ?_
      refine va_get (D := D) (ci := 0) (v := .ref (b 6)) (C := RX0) (T := TX0) (N := 13) hx hb hw iX0 hown hK hP6 0 rfl rfl 10 (by decide) (hw _ kw_1_123) (fun _ h9 => h9) rfl dX0_gather_71 ?_
      refine lv_iload hx hb dX0_gather_74 (lv_at hl5 1 rfl) ?_
      refine lv_dup2_11 hx hb dX0_gather_76 rfl rfl ?_
      refine ald_i (f := gSd S (i)) hx hb hK hP6 6 0 rfl rfl r9 rfl (by first | omega | assumption) (by decide) dX0_gather_77 ?_
      refine lv_iload_n hx hb dX0_gather_78 rfl (lv_at hl5 2 rfl) ?_
      refine lv_aload_n hx hb dX0_gather_79 rfl (lv_at hl5 4 rfl) ?_
      refine va_get (D := D) (ci := 0) (v := .ref (b 5)) (C := RX0) (T := TX0) (N := 13) hx hb hw iX0 hown hK hP6 0 rfl rfl 9 (by decide) (hw _ kw_1_122) (fun _ h9 => h9) rfl dX0_gather_80 ?_
      refine lv_iload_n hx hb dX0_gather_83 rfl (lv_at hl5 3 rfl) ?_
      refine ald_i (f := fil (fun g => 8 * push S g) O (i + 1)) hx hb hK hP6 5 0 rfl rfl i rfl (by first | omega | assumption) (by decide) dX0_gather_84 ?_
      refine tp (show ((fil (fun g => 8 * push S g) O (i + 1)) i) = 8 * push S i from fil_in (by omega)) ?_
      refine lv_imul hx hb dX0_gather_85 ?_
      refine lv_iadd hx hb dX0_gather_86 ?_
      refine ast_i (f := gSd S (i)) (ws' := aS cy b P F N (fil (breadth S) B (i + 1)) (fil (fun g => 8 * push S g) O (i + 1)) (upd (gSd S (i)) r9 (((gSd S (i)) r9) + ((breadth S i) * (8 * push S i)))) (upd (gDv S (i)) r9 (((gDv S (i)) r9) + (breadth S i))) (gL S (i)) rc re fr lo sm ++ (pS cy a S)) hx hb hK hP6 hD6 hS6 6 0 rfl rfl r9 rfl (by first | omega | assumption) (by decide) rfl dX0_gather_87 (fun H7 locs7 hP7 hD7 hS7 => ?_)
      clear hP6 hD6 hS6 locs6 H6
      have hq9 : (aS cy b P F N (fil (breadth S) B (i + 1)) (fil (fun g => 8 * push S g) O (i + 1)) (upd (gSd S (i)) r9 (((gSd S (i)) r9) + ((breadth S i) * (8 * push S i)))) (upd (gDv S (i)) r9 (((gDv S (i)) r9) + (breadth S i))) (gL S (i)) rc re fr lo sm ++ (pS cy a S)) = (aS cy b P F N (fil (breadth S) B (i + 1)) (fil (fun g => 8 * push S g) O (i + 1)) (upd (gSd S (i)) r9 (((gSd S (i)) r9) + ((breadth S i) * (8 * push S i)))) (gDv S (i + 1)) (gL S (i)) rc re fr lo sm ++ (pS cy a S)) := congrArg (fun z9 => aS cy b P F N (fil (breadth S) B (i + 1)) (fil (fun g => 8 * push S g) O (i + 1)) (upd (gSd S (i)) r9 (((gSd S (i)) r9) + ((breadth S i) * (8 * push S i)))) z9 (gL S (i)) rc re fr lo sm ++ (pS cy a S)) (show (upd (gDv S (i)) r9 (((gDv S (i)) r9) + (breadth S i))) = (gDv S (i + 1)) from by rw [er9]; exact (if_pos c_67).symm)
      replace hP7 := (congrArg (fun z9 => va_P D vwCl z9 _) hq9).mp hP7
      replace hD7 := (congrArg (fun z9 => va_D _ z9) hq9).mp hD7
      clear hq9
      have hq9 : (aS cy b P F N (fil (breadth S) B (i + 1)) (fil (fun g => 8 * push S g) O (i + 1)) (upd (gSd S (i)) r9 (((gSd S (i)) r9) + ((breadth S i) * (8 * push S i)))) (gDv S (i + 1)) (gL S (i)) rc re fr lo sm ++ (pS cy a S)) = (aS cy b P F N (fil (breadth S) B (i + 1)) (fil (fun g => 8 * push S g) O (i + 1)) (gSd S (i + 1)) (gDv S (i + 1)) (gL S (i)) rc re fr lo sm ++ (pS cy a S)) := congrArg (fun z9 => aS cy b P F N (fil (breadth S) B (i + 1)) (fil (fun g => 8 * push S g) O (i + 1)) z9 (gDv S (i + 1)) (gL S (i)) rc re fr lo sm ++ (pS cy a S)) (show (upd (gSd S (i)) r9 (((gSd S (i)) r9) + ((breadth S i) * (8 * push S i)))) = (gSd S (i + 1)) from by rw [er9]; exact (if_pos c_67).symm)
      replace hP7 := (congrArg (fun z9 => va_P D vwCl z9 _) hq9).mp hP7
      replace hD7 := (congrArg (fun z9 => va_D _ z9) hq9).mp hD7
      clear hq9
      have hq9 : (aS cy b P F N (fil (breadth S) B (i + 1)) (fil (fun g => 8 * push S g) O (i + 1)) (gSd S (i + 1)) (gDv S (i + 1)) (gL S (i)) rc re fr lo sm ++ (pS cy a S)) = (aS cy b P F N (fil (breadth S) B (i + 1)) (fil (fun g => 8 * push S g) O (i + 1)) (gSd S (i + 1)) (gDv S (i + 1)) (gL S (i + 1)) rc re fr lo sm ++ (pS cy a S)) := congrArg (fun z9 => aS cy b P F N (fil (breadth S) B (i + 1)) (fil (fun g => 8 * push S g) O (i + 1)) (gSd S (i + 1)) (gDv S (i + 1)) z9 rc re fr lo sm ++ (pS cy a S)) (show (gL S (i)) = (gL S (i + 1)) from (if_pos (c := S (11 + 8 * i) = -1) c_67).symm)
      replace hP7 := (congrArg (fun z9 => va_P D vwCl z9 _) hq9).mp hP7
      replace hD7 := (congrArg (fun z9 => va_D _ z9) hq9).mp hD7
      clear hq9
      refine lv_goto (tgt := 130) hx hb dX0_gather_88 (by decide) ?_
      refine lv_iinc (v := nI (i + 1)) (lv' := [(2, .int (nI (i + 1))), (5, .int (S (11 + 8 * i))), (4, .int (nI r9)), (3, .int (breadth S i)), (0, .ref (b 0)), (1, .ref (a 0))]) hx hb dX0_gather_130 hl5 (k := 3) rfl (nI_inc _) (by decide) rfl (fun ls6 hl6 => ?_)
      clear hl5 ls5
      refine lv_goto (tgt := 2) hx hb dX0_gather_133 (by decide) ?_
      exact ih_2 (i + 1) (by first | omega | assumption | rfl | simp_all) (by (try dsimp only); omega) H7 locs7 ls6 hP7 hD7 hS7 (lv_sub hl6 [0, 4, 5] rfl)

theorem kc_X0_goRound : kV yX0_goRound cX0_goRound 6 (some .boolean) 1 := ⟨kw_3_72, kw_s_17, kw_1_3, kw_3_73, by decide, by decide, by decide +kernel⟩
set_option maxHeartbeats 4000000 in
set_option maxRecDepth 100000 in
theorem c_X0_goRound (l : Launch) (D : va_G) (cy : Nat → ClassId) (G : Nat → Nat) (sz : Nat) (b : Nat → Nat) (P : Nat → Int32) (F : Nat → Int32) (N : Nat → Int32) (B : Nat → Int32) (O : Nat → Int32) (Sd : Nat → Int32) (Dv : Nat → Int32) (L : Nat → Nat → Int32) (rc : Int32) (re : Int32) (fr : Int32) (lo : Int32) (sm : Int32) (n : Nat) (hn : n ≤ 6) : Met l yX0_goRound (wm yX0_goRound cX0_goRound 6 (some .boolean)) { frames := 1, cells := 0, slots := 0, locals := 26 } (va_Pc [.ref (b 0), .int (nI n)] (pr D (TY cy) G (aS cy b P F N B O Sd Dv L rc re fr lo sm) sz)) (va_Qi (fun (r : Int32) (u : Unit) => r = b2i (chgG (nxC Sd Dv L n) n P = true)) (fun (u : Unit) t => po D (va_A (aS cy b P F N B O Sd Dv L rc re fr lo sm) sz) (aS cy b (rndG (nxC Sd Dv L n) n P) F (fil (nxC Sd Dv L n P) N n) B O Sd Dv L rc re fr lo sm) t) (va_A (aS cy b P F N B O Sd Dv L rc re fr lo sm) sz)) 0 0 (va_A (aS cy b P F N B O Sd Dv L rc re fr lo sm) sz) := by
  refine mk_rw (by decide) RX0 rfl (Nat.le_of_ble_eq_true rfl) [(0, .ref (b 0)), (1, .int (nI n))] rfl ?_
  intro p e s m below meth c hx hb hml hown hr hlocks hin hw hsz hA hG hK H0 locs0 hP0 hD0 hS0 ls0 hl0
  clear hin
  refine lv_iconst (v := 0) hx hb dX0_goRound_0 (by decide) ?_
  refine lv_istore_n (lv' := [(2, .int 0), (0, .ref (b 0)), (1, .int (nI n))]) hx hb dX0_goRound_1 rfl hl0 (by decide) rfl (fun ls1 hl1 => ?_)
  clear hl0 ls0
  refine lv_iconst (v := 0) hx hb dX0_goRound_2 (by decide) ?_
  refine lv_istore_n (lv' := [(3, .int 0), (2, .int 0), (0, .ref (b 0)), (1, .int (nI n))]) hx hb dX0_goRound_3 rfl hl1 (by decide) rfl (fun ls2 hl2 => ?_)
  clear hl1 ls1
  have hq9 : (aS cy b P F N B O Sd Dv L rc re fr lo sm) = (aS cy b P F (fil (nxC Sd Dv L n P) N 0) B O Sd Dv L rc re fr lo sm) := congrArg (fun z9 => aS cy b P F z9 B O Sd Dv L rc re fr lo sm) (show N = (fil (nxC Sd Dv L n P) N 0) from fil_0 _ N)
  replace hP0 := (congrArg (fun z9 => va_P D vwCl z9 _) hq9).mp hP0
  replace hD0 := (congrArg (fun z9 => va_D _ z9) hq9).mp hD0
  clear hq9
  refine wlp (ι := Nat) (nL := 6) (fun x9 => (x9 ≤ n)) (fun x9 => aS cy b P F (fil (nxC Sd Dv L n P) N x9) B O Sd Dv L rc re fr lo sm) (fun x9 => [(3, .int (nI x9)), (2, .int (b2i (anyN (fun q => decide (nxC Sd Dv L n P q ≠ P q)) x9 = true))), (0, .ref (b 0)), (1, .int (nI n))]) (fun x9 => []) (fun x9 => n - x9) 4 ?_ 0 (by first | omega | assumption | rfl | simp_all) rfl hP0 hD0 hS0 (lv_sub hl2 [0, 1, 2, 3] rfl)
  clear hP0 hD0 hS0 locs0 H0 hl2 ls2
  intro x9 hI ih_4 H1 locs1 ls3 hP1 hD1 hS1 hl3
  obtain ⟨i, rfl⟩ : ∃ z9, z9 = x9 := ⟨_, rfl⟩
  have hi := hI
  replace hi : i ≤ n := hi
  replace hP1 : va_P D vwCl (aS cy b P F (fil (nxC Sd Dv L n P) N i) B O Sd Dv L rc re fr lo sm) H1 := hP1
  replace hD1 : va_D (va_A _ sz) (aS cy b P F (fil (nxC Sd Dv L n P) N i) B O Sd Dv L rc re fr lo sm) := hD1
  replace hl3 : lv_has ls3 6 [(3, .int (nI i)), (2, .int (b2i (anyN (fun q => decide (nxC Sd Dv L n P q ≠ P q)) i = true))), (0, .ref (b 0)), (1, .int (nI n))] := hl3
  show W p l e _ s m _ below meth c _ _ _ _ _ (F0 m 4 ls3 [])
  refine lv_iload_n hx hb dX0_goRound_4 rfl (lv_at hl3 0 rfl) ?_
  refine lv_iload_n hx hb dX0_goRound_5 rfl (lv_at hl3 3 rfl) ?_
  refine ln_ge (tgt := 113) i n rfl rfl (by omega) (by omega) hx hb dX0_goRound_6 (by decide) (fun c_6 => ?_) (fun c_6 => ?_)
  · obtain rfl : n = i := (by omega)
    refine lv_aload_n hx hb dX0_goRound_113 rfl (lv_at hl3 2 rfl) ?_
    refine va_get (D := D) (ci := 0) (v := .ref (b 3)) (C := RX0) (T := TX0) (N := 13) hx hb hw iX0 hown hK hP1 0 rfl rfl 7 (by decide) (hw _ kw_1_120) (fun _ h9 => h9) rfl dX0_goRound_114 ?_
    refine lv_iconst (v := 0) hx hb dX0_goRound_117 (by decide) ?_
    refine lv_aload_n hx hb dX0_goRound_118 rfl (lv_at hl3 2 rfl) ?_
    refine va_get (D := D) (ci := 0) (v := .ref (b 1)) (C := RX0) (T := TX0) (N := 13) hx hb hw iX0 hown hK hP1 0 rfl rfl 0 (by decide) (hw _ kw_1_102) (fun _ h9 => h9) rfl dX0_goRound_119 ?_
    refine lv_iconst (v := 0) hx hb dX0_goRound_122 (by decide) ?_
    refine lv_iload_n hx hb dX0_goRound_123 rfl (lv_at hl3 3 rfl) ?_
    refine acp (f := fil (nxC Sd Dv L n P) N n) (g := P) (ty := .int) (ws' := aS cy b (va_cpy (fil (nxC Sd Dv L n P) N n) P 0 0 n) F (fil (nxC Sd Dv L n P) N n) B O Sd Dv L rc re fr lo sm) hx hb hml hl3 hw hown kw_3_74 kw_2_162 kw_2_161 kw_1_9 hK hP1 hD1 hS1 3 1 0 rfl rfl rfl rfl 0 0 n rfl rfl rfl (by omega) (by omega) (by omega) (by first | decide | omega) (by first | decide | omega) (fun _ _ => rfl) rfl (Nat.le_of_ble_eq_true rfl) (Nat.le_of_ble_eq_true rfl) dX0_goRound_124 (fun H2 locs2 hP2 hD2 hS2 => ?_)
    clear hP1 hD1 hS1 locs1 H1
    have hq9 : (aS cy b (va_cpy (fil (nxC Sd Dv L n P) N n) P 0 0 n) F (fil (nxC Sd Dv L n P) N n) B O Sd Dv L rc re fr lo sm) = (aS cy b (rndG (nxC Sd Dv L n) n P) F (fil (nxC Sd Dv L n P) N n) B O Sd Dv L rc re fr lo sm) := congrArg (fun z9 => aS cy b z9 F (fil (nxC Sd Dv L n P) N n) B O Sd Dv L rc re fr lo sm) (show (va_cpy (fil (nxC Sd Dv L n P) N n) P 0 0 n) = (rndG (nxC Sd Dv L n) n P) from cpy_fil _ N P n)
    replace hP2 := (congrArg (fun z9 => va_P D vwCl z9 _) hq9).mp hP2
    replace hD2 := (congrArg (fun z9 => va_D _ z9) hq9).mp hD2
    clear hq9
    refine lv_iload_n hx hb dX0_goRound_127 rfl (lv_at hl3 1 rfl) ?_
    refine re_z () hx hb hr hlocks hP2 hD2 hS2 dX0_goRound_128 (b2i_z _) ?_
    exact (rfl)
  · refine lv_aload_n hx hb dX0_goRound_9 rfl (lv_at hl3 2 rfl) ?_
    refine va_get (D := D) (ci := 0) (v := .ref (b 6)) (C := RX0) (T := TX0) (N := 13) hx hb hw iX0 hown hK hP1 0 rfl rfl 10 (by decide) (hw _ kw_1_123) (fun _ h9 => h9) rfl dX0_goRound_10 ?_
    refine lv_iload_n hx hb dX0_goRound_13 rfl (lv_at hl3 0 rfl) ?_
    refine ald_i (f := Sd) hx hb hK hP1 6 0 rfl rfl i rfl (by first | omega | assumption) (by decide) dX0_goRound_14 ?_
    refine lv_istore (lv' := [(4, .int (Sd i)), (3, .int (nI i)), (2, .int (b2i (anyN (fun q => decide (nxC Sd Dv L n P q ≠ P q)) i = true))), (0, .ref (b 0)), (1, .int (nI n))]) hx hb dX0_goRound_15 hl3 (by decide) rfl (fun ls4 hl4 => ?_)
    clear hl3 ls3
    refine lv_iconst (v := 0) hx hb dX0_goRound_17 (by decide) ?_
    refine lv_istore (lv' := [(5, .int 0), (4, .int (Sd i)), (3, .int (nI i)), (2, .int (b2i (anyN (fun q => decide (nxC Sd Dv L n P q ≠ P q)) i = true))), (0, .ref (b 0)), (1, .int (nI n))]) hx hb dX0_goRound_18 hl4 (by decide) rfl (fun ls5 hl5 => ?_)
    clear hl4 ls4
    refine wlp (ι := Nat) (nL := 6) (fun x9 => (x9 ≤ n)) (fun x9 => aS cy b P F (fil (nxC Sd Dv L n P) N i) B O Sd Dv L rc re fr lo sm) (fun x9 => [(5, .int (nI x9)), (4, .int (lsm (Sd i) (fun x9 => L i x9 * P x9) x9)), (3, .int (nI i)), (2, .int (b2i (anyN (fun q => decide (nxC Sd Dv L n P q ≠ P q)) i = true))), (0, .ref (b 0)), (1, .int (nI n))]) (fun x9 => []) (fun x9 => n - x9) 20 ?_ 0 (by first | omega | assumption | rfl | simp_all) rfl hP1 hD1 hS1 (lv_sub hl5 [0, 1, 2, 3, 4, 5] rfl)
    clear hP1 hD1 hS1 locs1 H1 hl5 ls5
    intro x9 hI ih_20 H2 locs2 ls6 hP2 hD2 hS2 hl6
    obtain ⟨o, rfl⟩ : ∃ z9, z9 = x9 := ⟨_, rfl⟩
    have ho := hI
    replace ho : o ≤ n := ho
    replace hP2 : va_P D vwCl (aS cy b P F (fil (nxC Sd Dv L n P) N i) B O Sd Dv L rc re fr lo sm) H2 := hP2
    replace hD2 : va_D (va_A _ sz) (aS cy b P F (fil (nxC Sd Dv L n P) N i) B O Sd Dv L rc re fr lo sm) := hD2
    replace hl6 : lv_has ls6 6 [(5, .int (nI o)), (4, .int (lsm (Sd i) (fun o => L i o * P o) o)), (3, .int (nI i)), (2, .int (b2i (anyN (fun q => decide (nxC Sd Dv L n P q ≠ P q)) i = true))), (0, .ref (b 0)), (1, .int (nI n))] := hl6
    show W p l e _ s m _ below meth c _ _ _ _ _ (F0 m 20 ls6 [])
    refine lv_iload hx hb dX0_goRound_20 (lv_at hl6 0 rfl) ?_
    refine lv_iload_n hx hb dX0_goRound_22 rfl (lv_at hl6 5 rfl) ?_
    refine ln_ge (tgt := 54) o n rfl rfl (by omega) (by omega) hx hb dX0_goRound_23 (by decide) (fun c_23 => ?_) (fun c_23 => ?_)
    · obtain rfl : n = o := (by omega)
      refine lv_aload_n hx hb dX0_goRound_54 rfl (lv_at hl6 4 rfl) ?_
      refine va_get (D := D) (ci := 0) (v := .ref (b 3)) (C := RX0) (T := TX0) (N := 13) hx hb hw iX0 hown hK hP2 0 rfl rfl 7 (by decide) (hw _ kw_1_120) (fun _ h9 => h9) rfl dX0_goRound_55 ?_
      refine lv_iload_n hx hb dX0_goRound_58 rfl (lv_at hl6 2 rfl) ?_
      refine lv_aload_n hx hb dX0_goRound_59 rfl (lv_at hl6 4 rfl) ?_
      refine va_get (D := D) (ci := 0) (v := .ref (b 7)) (C := RX0) (T := TX0) (N := 13) hx hb hw iX0 hown hK hP2 0 rfl rfl 11 (by decide) (hw _ kw_1_124) (fun _ h9 => h9) rfl dX0_goRound_60 ?_
      refine lv_iload_n hx hb dX0_goRound_63 rfl (lv_at hl6 2 rfl) ?_
      refine ald_i (f := Dv) hx hb hK hP2 7 0 rfl rfl i rfl (by first | omega | assumption) (by decide) dX0_goRound_64 ?_
      refine lv_if_ne (tgt := 72) hx hb dX0_goRound_65 (by decide) (fun c_65 => ?_) (fun c_65 => ?_)
      · refine lv_iload hx hb dX0_goRound_72 (lv_at hl6 1 rfl) ?_
        refine lv_aload_n hx hb dX0_goRound_74 rfl (lv_at hl6 4 rfl) ?_
        refine va_get (D := D) (ci := 0) (v := .ref (b 7)) (C := RX0) (T := TX0) (N := 13) hx hb hw iX0 hown hK hP2 0 rfl rfl 11 (by decide) (hw _ kw_1_124) (fun _ h9 => h9) rfl dX0_goRound_75 ?_
        refine lv_iload_n hx hb dX0_goRound_78 rfl (lv_at hl6 2 rfl) ?_
        refine ald_i (f := Dv) hx hb hK hP2 7 0 rfl rfl i rfl (by first | omega | assumption) (by decide) dX0_goRound_79 ?_
        refine lv_idiv hx hb dX0_goRound_80 (c_65) ?_
        refine tp (show ((lsm (Sd i) (fun n => L i n * P n) n) / (Dv i)) = nxC Sd Dv L n P i from by simp [nxC, c_65]) ?_
        refine ast_i (f := fil (nxC Sd Dv L n P) N i) (ws' := aS cy b P F (upd (fil (nxC Sd Dv L n P) N i) i (nxC Sd Dv L n P i)) B O Sd Dv L rc re fr lo sm) hx hb hK hP2 hD2 hS2 3 0 rfl rfl i rfl (by first | omega | assumption) (by decide) rfl dX0_goRound_81 (fun H3 locs3 hP3 hD3 hS3 => ?_)
        clear hP2 hD2 hS2 locs2 H2
        have hq9 : (aS cy b P F (upd (fil (nxC Sd Dv L n P) N i) i (nxC Sd Dv L n P i)) B O Sd Dv L rc re fr lo sm) = (aS cy b P F (fil (nxC Sd Dv L n P) N (i + 1)) B O Sd Dv L rc re fr lo sm) := congrArg (fun z9 => aS cy b P F z9 B O Sd Dv L rc re fr lo sm) (show (upd (fil (nxC Sd Dv L n P) N i) i (nxC Sd Dv L n P i)) = (fil (nxC Sd Dv L n P) N (i + 1)) from fil_s _ N i)
        replace hP3 := (congrArg (fun z9 => va_P D vwCl z9 _) hq9).mp hP3
        replace hD3 := (congrArg (fun z9 => va_D _ z9) hq9).mp hD3
        clear hq9
        refine lv_iload_n hx hb dX0_goRound_82 rfl (lv_at hl6 3 rfl) ?_
        refine lb_ne (tgt := 101) hx hb dX0_goRound_83 (by decide) (fun c_83 => ?_) (fun c_83 => ?_)
        · refine lv_iconst (v := 1) hx hb dX0_goRound_101 (by decide) ?_
          refine lv_goto (tgt := 106) hx hb dX0_goRound_102 (by decide) ?_
          refine tp (show (1) = b2i (anyN (fun q => decide (nxC Sd Dv L n P q ≠ P q)) (i + 1) = true) from by simp [anyN, b2i, c_6, c_23, c_65, c_83] <;> simp_all [anyN, b2i]) ?_
          refine lv_istore_n (lv' := [(2, .int (b2i (anyN (fun q => decide (nxC Sd Dv L n P q ≠ P q)) (i + 1) = true))), (5, .int (nI n)), (4, .int (lsm (Sd i) (fun n => L i n * P n) n)), (3, .int (nI i)), (0, .ref (b 0)), (1, .int (nI n))]) hx hb dX0_goRound_106 rfl hl6 (by decide) rfl (fun ls7 hl7 => ?_)
          clear hl6 ls6
          refine lv_iinc (v := nI (i + 1)) (lv' := [(3, .int (nI (i + 1))), (2, .int (b2i (anyN (fun q => decide (nxC Sd Dv L n P q ≠ P q)) (i + 1) = true))), (5, .int (nI n)), (4, .int (lsm (Sd i) (fun n => L i n * P n) n)), (0, .ref (b 0)), (1, .int (nI n))]) hx hb dX0_goRound_107 hl7 (k := 3) rfl (nI_inc _) (by decide) rfl (fun ls8 hl8 => ?_)
          clear hl7 ls7
          refine lv_goto (tgt := 4) hx hb dX0_goRound_110 (by decide) ?_
          exact ih_4 (i + 1) (by first | omega | assumption | rfl | simp_all) (by (try dsimp only); omega) H3 locs3 ls8 hP3 hD3 hS3 (lv_sub hl8 [0, 1, 4, 5] rfl)
        · refine lv_aload_n hx hb dX0_goRound_86 rfl (lv_at hl6 4 rfl) ?_
          refine va_get (D := D) (ci := 0) (v := .ref (b 3)) (C := RX0) (T := TX0) (N := 13) hx hb hw iX0 hown hK hP3 0 rfl rfl 7 (by decide) (hw _ kw_1_120) (fun _ h9 => h9) rfl dX0_goRound_87 ?_
          refine lv_iload_n hx hb dX0_goRound_90 rfl (lv_at hl6 2 rfl) ?_
          refine ald_i (f := fil (nxC Sd Dv L n P) N (i + 1)) hx hb hK hP3 3 0 rfl rfl i rfl (by first | omega | assumption) (by decide) dX0_goRound_91 ?_
          refine tp (show ((fil (nxC Sd Dv L n P) N (i + 1)) i) = nxC Sd Dv L n P i from fil_in (by omega)) ?_
          refine lv_aload_n hx hb dX0_goRound_92 rfl (lv_at hl6 4 rfl) ?_
          refine va_get (D := D) (ci := 0) (v := .ref (b 1)) (C := RX0) (T := TX0) (N := 13) hx hb hw iX0 hown hK hP3 0 rfl rfl 0 (by decide) (hw _ kw_1_102) (fun _ h9 => h9) rfl dX0_goRound_93 ?_
          refine lv_iload_n hx hb dX0_goRound_96 rfl (lv_at hl6 2 rfl) ?_
          refine ald_i (f := P) hx hb hK hP3 1 0 rfl rfl i rfl (by first | omega | assumption) (by decide) dX0_goRound_97 ?_
          refine lv_icmp_eq (tgt := 105) hx hb dX0_goRound_98 (by decide) (fun c_98 => ?_) (fun c_98 => ?_)
          · refine lv_iconst (v := 0) hx hb dX0_goRound_105 (by decide) ?_
            refine tp (show (0) = b2i (anyN (fun q => decide (nxC Sd Dv L n P q ≠ P q)) (i + 1) = true) from by simp [anyN, b2i, c_6, c_23, c_65, c_83, c_98] <;> simp_all [anyN, b2i]) ?_
            refine lv_istore_n (lv' := [(2, .int (b2i (anyN (fun q => decide (nxC Sd Dv L n P q ≠ P q)) (i + 1) = true))), (5, .int (nI n)), (4, .int (lsm (Sd i) (fun n => L i n * P n) n)), (3, .int (nI i)), (0, .ref (b 0)), (1, .int (nI n))]) hx hb dX0_goRound_106 rfl hl6 (by decide) rfl (fun ls7 hl7 => ?_)
            clear hl6 ls6
            refine lv_iinc (v := nI (i + 1)) (lv' := [(3, .int (nI (i + 1))), (2, .int (b2i (anyN (fun q => decide (nxC Sd Dv L n P q ≠ P q)) (i + 1) = true))), (5, .int (nI n)), (4, .int (lsm (Sd i) (fun n => L i n * P n) n)), (0, .ref (b 0)), (1, .int (nI n))]) hx hb dX0_goRound_107 hl7 (k := 3) rfl (nI_inc _) (by decide) rfl (fun ls8 hl8 => ?_)
            clear hl7 ls7
            refine lv_goto (tgt := 4) hx hb dX0_goRound_110 (by decide) ?_
            exact ih_4 (i + 1) (by first | omega | assumption | rfl | simp_all) (by (try dsimp only); omega) H3 locs3 ls8 hP3 hD3 hS3 (lv_sub hl8 [0, 1, 4, 5] rfl)
          · refine lv_iconst (v := 1) hx hb dX0_goRound_101 (by decide) ?_
            refine lv_goto (tgt := 106) hx hb dX0_goRound_102 (by decide) ?_
            refine tp (show (1) = b2i (anyN (fun q => decide (nxC Sd Dv L n P q ≠ P q)) (i + 1) = true) from by simp [anyN, b2i, c_6, c_23, c_65, c_83, c_98] <;> simp_all [anyN, b2i]) ?_
            refine lv_istore_n (lv' := [(2, .int (b2i (anyN (fun q => decide (nxC Sd Dv L n P q ≠ P q)) (i + 1) = true))), (5, .int (nI n)), (4, .int (lsm (Sd i) (fun n => L i n * P n) n)), (3, .int (nI i)), (0, .ref (b 0)), (1, .int (nI n))]) hx hb dX0_goRound_106 rfl hl6 (by decide) rfl (fun ls7 hl7 => ?_)
            clear hl6 ls6
            refine lv_iinc (v := nI (i + 1)) (lv' := [(3, .int (nI (i + 1))), (2, .int (b2i (anyN (fun q => decide (nxC Sd Dv L n P q ≠ P q)) (i + 1) = true))), (5, .int (nI n)), (4, .int (lsm (Sd i) (fun n => L i n * P n) n)), (0, .ref (b 0)), (1, .int (nI n))]) hx hb dX0_goRound_107 hl7 (k := 3) rfl (nI_inc _) (by decide) rfl (fun ls8 hl8 => ?_)
            clear hl7 ls7
            refine lv_goto (tgt := 4) hx hb dX0_goRound_110 (by decide) ?_
            exact ih_4 (i + 1) (by first | omega | assumption | rfl | simp_all) (by (try dsimp only); omega) H3 locs3 ls8 hP3 hD3 hS3 (lv_sub hl8 [0, 1, 4, 5] rfl)
      · refine lv_iconst (v := 0) hx hb dX0_goRound_68 (by decide) ?_
        refine lv_goto (tgt := 81) hx hb dX0_goRound_69 (by decide) ?_
        refine tp (show (0) = nxC Sd Dv L n P i from by simp [nxC, c_65]) ?_
        refine ast_i (f := fil (nxC Sd Dv L n P) N i) (ws' := aS cy b P F (upd (fil (nxC Sd Dv L n P) N i) i (nxC Sd Dv L n P i)) B O Sd Dv L rc re fr lo sm) hx hb hK hP2 hD2 hS2 3 0 rfl rfl i rfl (by first | omega | assumption) (by decide) rfl dX0_goRound_81 (fun H3 locs3 hP3 hD3 hS3 => ?_)
        clear hP2 hD2 hS2 locs2 H2
        have hq9 : (aS cy b P F (upd (fil (nxC Sd Dv L n P) N i) i (nxC Sd Dv L n P i)) B O Sd Dv L rc re fr lo sm) = (aS cy b P F (fil (nxC Sd Dv L n P) N (i + 1)) B O Sd Dv L rc re fr lo sm) := congrArg (fun z9 => aS cy b P F z9 B O Sd Dv L rc re fr lo sm) (show (upd (fil (nxC Sd Dv L n P) N i) i (nxC Sd Dv L n P i)) = (fil (nxC Sd Dv L n P) N (i + 1)) from fil_s _ N i)
        replace hP3 := (congrArg (fun z9 => va_P D vwCl z9 _) hq9).mp hP3
        replace hD3 := (congrArg (fun z9 => va_D _ z9) hq9).mp hD3
        clear hq9
        refine lv_iload_n hx hb dX0_goRound_82 rfl (lv_at hl6 3 rfl) ?_
        refine lb_ne (tgt := 101) hx hb dX0_goRound_83 (by decide) (fun c_83 => ?_) (fun c_83 => ?_)
        · refine lv_iconst (v := 1) hx hb dX0_goRound_101 (by decide) ?_
          refine lv_goto (tgt := 106) hx hb dX0_goRound_102 (by decide) ?_
          refine tp (show (1) = b2i (anyN (fun q => decide (nxC Sd Dv L n P q ≠ P q)) (i + 1) = true) from by simp [anyN, b2i, c_6, c_23, c_65, c_83] <;> simp_all [anyN, b2i]) ?_
          refine lv_istore_n (lv' := [(2, .int (b2i (anyN (fun q => decide (nxC Sd Dv L n P q ≠ P q)) (i + 1) = true))), (5, .int (nI n)), (4, .int (lsm (Sd i) (fun n => L i n * P n) n)), (3, .int (nI i)), (0, .ref (b 0)), (1, .int (nI n))]) hx hb dX0_goRound_106 rfl hl6 (by decide) rfl (fun ls7 hl7 => ?_)
          clear hl6 ls6
          refine lv_iinc (v := nI (i + 1)) (lv' := [(3, .int (nI (i + 1))), (2, .int (b2i (anyN (fun q => decide (nxC Sd Dv L n P q ≠ P q)) (i + 1) = true))), (5, .int (nI n)), (4, .int (lsm (Sd i) (fun n => L i n * P n) n)), (0, .ref (b 0)), (1, .int (nI n))]) hx hb dX0_goRound_107 hl7 (k := 3) rfl (nI_inc _) (by decide) rfl (fun ls8 hl8 => ?_)
          clear hl7 ls7
          refine lv_goto (tgt := 4) hx hb dX0_goRound_110 (by decide) ?_
          exact ih_4 (i + 1) (by first | omega | assumption | rfl | simp_all) (by (try dsimp only); omega) H3 locs3 ls8 hP3 hD3 hS3 (lv_sub hl8 [0, 1, 4, 5] rfl)
        · refine lv_aload_n hx hb dX0_goRound_86 rfl (lv_at hl6 4 rfl) ?_
          refine va_get (D := D) (ci := 0) (v := .ref (b 3)) (C := RX0) (T := TX0) (N := 13) hx hb hw iX0 hown hK hP3 0 rfl rfl 7 (by decide) (hw _ kw_1_120) (fun _ h9 => h9) rfl dX0_goRound_87 ?_
          refine lv_iload_n hx hb dX0_goRound_90 rfl (lv_at hl6 2 rfl) ?_
          refine ald_i (f := fil (nxC Sd Dv L n P) N (i + 1)) hx hb hK hP3 3 0 rfl rfl i rfl (by first | omega | assumption) (by decide) dX0_goRound_91 ?_
          refine tp (show ((fil (nxC Sd Dv L n P) N (i + 1)) i) = nxC Sd Dv L n P i from fil_in (by omega)) ?_
          refine lv_aload_n hx hb dX0_goRound_92 rfl (lv_at hl6 4 rfl) ?_
          refine va_get (D := D) (ci := 0) (v := .ref (b 1)) (C := RX0) (T := TX0) (N := 13) hx hb hw iX0 hown hK hP3 0 rfl rfl 0 (by decide) (hw _ kw_1_102) (fun _ h9 => h9) rfl dX0_goRound_93 ?_
          refine lv_iload_n hx hb dX0_goRound_96 rfl (lv_at hl6 2 rfl) ?_
          refine ald_i (f := P) hx hb hK hP3 1 0 rfl rfl i rfl (by first | omega | assumption) (by decide) dX0_goRound_97 ?_
          refine lv_icmp_eq (tgt := 105) hx hb dX0_goRound_98 (by decide) (fun c_98 => ?_) (fun c_98 => ?_)
          · refine lv_iconst (v := 0) hx hb dX0_goRound_105 (by decide) ?_
            refine tp (show (0) = b2i (anyN (fun q => decide (nxC Sd Dv L n P q ≠ P q)) (i + 1) = true) from by simp [anyN, b2i, c_6, c_23, c_65, c_83, c_98] <;> simp_all [anyN, b2i]) ?_
            refine lv_istore_n (lv' := [(2, .int (b2i (anyN (fun q => decide (nxC Sd Dv L n P q ≠ P q)) (i + 1) = true))), (5, .int (nI n)), (4, .int (lsm (Sd i) (fun n => L i n * P n) n)), (3, .int (nI i)), (0, .ref (b 0)), (1, .int (nI n))]) hx hb dX0_goRound_106 rfl hl6 (by decide) rfl (fun ls7 hl7 => ?_)
            clear hl6 ls6
            refine lv_iinc (v := nI (i + 1)) (lv' := [(3, .int (nI (i + 1))), (2, .int (b2i (anyN (fun q => decide (nxC Sd Dv L n P q ≠ P q)) (i + 1) = true))), (5, .int (nI n)), (4, .int (lsm (Sd i) (fun n => L i n * P n) n)), (0, .ref (b 0)), (1, .int (nI n))]) hx hb dX0_goRound_107 hl7 (k := 3) rfl (nI_inc _) (by decide) rfl (fun ls8 hl8 => ?_)
            clear hl7 ls7
            refine lv_goto (tgt := 4) hx hb dX0_goRound_110 (by decide) ?_
            exact ih_4 (i + 1) (by first | omega | assumption | rfl | simp_all) (by (try dsimp only); omega) H3 locs3 ls8 hP3 hD3 hS3 (lv_sub hl8 [0, 1, 4, 5] rfl)
          · refine lv_iconst (v := 1) hx hb dX0_goRound_101 (by decide) ?_
            refine lv_goto (tgt := 106) hx hb dX0_goRound_102 (by decide) ?_
            refine tp (show (1) = b2i (anyN (fun q => decide (nxC Sd Dv L n P q ≠ P q)) (i + 1) = true) from by simp [anyN, b2i, c_6, c_23, c_65, c_83, c_98] <;> simp_all [anyN, b2i]) ?_
            refine lv_istore_n (lv' := [(2, .int (b2i (anyN (fun q => decide (nxC Sd Dv L n P q ≠ P q)) (i + 1) = true))), (5, .int (nI n)), (4, .int (lsm (Sd i) (fun n => L i n * P n) n)), (3, .int (nI i)), (0, .ref (b 0)), (1, .int (nI n))]) hx hb dX0_goRound_106 rfl hl6 (by decide) rfl (fun ls7 hl7 => ?_)
            clear hl6 ls6
            refine lv_iinc (v := nI (i + 1)) (lv' := [(3, .int (nI (i + 1))), (2, .int (b2i (anyN (fun q => decide (nxC Sd Dv L n P q ≠ P q)) (i + 1) = true))), (5, .int (nI n)), (4, .int (lsm (Sd i) (fun n => L i n * P n) n)), (0, .ref (b 0)), (1, .int (nI n))]) hx hb dX0_goRound_107 hl7 (k := 3) rfl (nI_inc _) (by decide) rfl (fun ls8 hl8 => ?_)
            clear hl7 ls7
            refine lv_goto (tgt := 4) hx hb dX0_goRound_110 (by decide) ?_
            exact ih_4 (i + 1) (by first | omega | assumption | rfl | simp_all) (by (try dsimp only); omega) H3 locs3 ls8 hP3 hD3 hS3 (lv_sub hl8 [0, 1, 4, 5] rfl)
    · refine lv_iload hx hb dX0_goRound_26 (lv_at hl6 1 rfl) ?_
      refine lv_aload_n hx hb dX0_goRound_28 rfl (lv_at hl6 4 rfl) ?_
      refine va_get (D := D) (ci := 0) (v := .ref (b 8)) (C := RX0) (T := TX0) (N := 13) hx hb hw iX0 hown hK hP2 0 rfl rfl 12 (by decide) (hw _ kw_1_125) (fun _ h9 => h9) rfl dX0_goRound_29 ?_
      refine lv_iload_n hx hb dX0_goRound_32 rfl (lv_at hl6 2 rfl) ?_
      refine ald_q hx hb hK hP2 8 4 rfl rfl rfl i rfl (by first | omega | assumption) (by decide) (if_pos (by first | assumption | omega)) dX0_goRound_33 ?_
      refine lv_iload hx hb dX0_goRound_34 (lv_at hl6 0 rfl) ?_
      refine ald_i (f := L i) hx hb hK hP2 (9 + i) 0 (row6 (P := fun i9 => (aS cy b P F (fil (nxC Sd Dv L n P) N i) B O Sd Dv L rc re fr lo sm)[9 + i9]? = some (b (9 + i9), .inl (cy 0, 6, .inl (L i9)))) rfl rfl rfl rfl rfl rfl (by first | assumption | omega)) rfl o rfl (by first | omega | assumption) (by decide) dX0_goRound_36 ?_
      refine lv_aload_n hx hb dX0_goRound_37 rfl (lv_at hl6 4 rfl) ?_
      refine va_get (D := D) (ci := 0) (v := .ref (b 1)) (C := RX0) (T := TX0) (N := 13) hx hb hw iX0 hown hK hP2 0 rfl rfl 0 (by decide) (hw _ kw_1_102) (fun _ h9 => h9) rfl dX0_goRound_38 ?_
      refine lv_iload hx hb dX0_goRound_41 (lv_at hl6 0 rfl) ?_
      refine ald_i (f := P) hx hb hK hP2 1 0 rfl rfl o rfl (by first | omega | assumption) (by decide) dX0_goRound_43 ?_
      refine lv_imul hx hb dX0_goRound_44 ?_
      refine lv_iadd hx hb dX0_goRound_45 ?_
      refine tp (show ((lsm (Sd i) (fun o => L i o * P o) o) + ((L i o) * (P o))) = lsm (Sd i) (fun o => L i o * P o) (o + 1) from rfl) ?_
      refine lv_istore (lv' := [(4, .int (lsm (Sd i) (fun o => L i o * P o) (o + 1))), (5, .int (nI o)), (3, .int (nI i)), (2, .int (b2i (anyN (fun q => decide (nxC Sd Dv L n P q ≠ P q)) i = true))), (0, .ref (b 0)), (1, .int (nI n))]) hx hb dX0_goRound_46 hl6 (by decide) rfl (fun ls7 hl7 => ?_)
      clear hl6 ls6
      refine lv_iinc (v := nI (o + 1)) (lv' := [(5, .int (nI (o + 1))), (4, .int (lsm (Sd i) (fun o => L i o * P o) (o + 1))), (3, .int (nI i)), (2, .int (b2i (anyN (fun q => decide (nxC Sd Dv L n P q ≠ P q)) i = true))), (0, .ref (b 0)), (1, .int (nI n))]) hx hb dX0_goRound_48 hl7 (k := 1) rfl (nI_inc _) (by decide) rfl (fun ls8 hl8 => ?_)
      clear hl7 ls7
      refine lv_goto (tgt := 20) hx hb dX0_goRound_51 (by decide) ?_
      exact ih_20 (o + 1) (by first | omega | assumption | rfl | simp_all) (by (try dsimp only); omega) H2 locs2 ls8 hP2 hD2 hS2 (lv_sub hl8 [0, 1, 2, 3, 4, 5] rfl)

theorem kc_X0_goRounds : kV yX0_goRounds cX0_goRounds 2 none 1 := ⟨kw_3_68, kw_s_16, kw_1_3, kw_3_69, by decide, by decide, by decide +kernel⟩
set_option maxHeartbeats 4000000 in
set_option maxRecDepth 100000 in
theorem c_X0_goRounds (l : Launch) (D : va_G) (cy : Nat → ClassId) (G : Nat → Nat) (sz : Nat) (b : Nat → Nat) (P : Nat → Int32) (F : Nat → Int32) (N : Nat → Int32) (B : Nat → Int32) (O : Nat → Int32) (Sd : Nat → Int32) (Dv : Nat → Int32) (L : Nat → Nat → Int32) (rc : Int32) (re : Int32) (fr : Int32) (lo : Int32) (sm : Int32) (n : Nat) (hn : n ≤ 6) : Met l yX0_goRounds (wm yX0_goRounds cX0_goRounds 2 none) { frames := 2, cells := 0, slots := 0, locals := 51 } (va_Pc [.ref (b 0), .int (nI n)] (pr D (TY cy) G (aS cy b P F N B O Sd Dv L rc re fr lo sm) sz)) (va_Qv (fun (u : (Nat → Int32)) => True) (fun (u : (Nat → Int32)) t => po D (va_A (aS cy b P F N B O Sd Dv L rc re fr lo sm) sz) (aS cy b (itG (nxC Sd Dv L n) n P (cntG (nxC Sd Dv L n) n P)) F u B O Sd Dv L (nI (cntG (nxC Sd Dv L n) n P)) (b2i (cntG (nxC Sd Dv L n) n P = 60)) fr lo sm) t) (va_A (aS cy b P F N B O Sd Dv L rc re fr lo sm) sz)) 0 0 (va_A (aS cy b P F N B O Sd Dv L rc re fr lo sm) sz) := by
  refine mk_rw (by decide) RX0 rfl (Nat.le_of_ble_eq_true rfl) [(0, .ref (b 0)), (1, .int (nI n))] rfl ?_
  intro p e s m below meth c hx hb hml hown hr hlocks hin hw hsz hA hG hK H0 locs0 hP0 hD0 hS0 ls0 hl0
  clear hin
  refine lv_aload_n hx hb dX0_goRounds_0 rfl (lv_at hl0 0 rfl) ?_
  refine lv_iconst (v := 0) hx hb dX0_goRounds_1 (by decide) ?_
  refine pt (D := D) (ci := 0) (v := .int 0) (ty := .int) (C := RX0) (T := TX0) (N := 13) (ws' := aS cy b P F N B O Sd Dv L 0 re fr lo sm) hx hb hw iX0 tyX0 tyX0_ok nmX0 hown hK hP0 hD0 hS0 0 rfl rfl 2 (by decide) kw_1_107 (fun _ h9 => h9) rfl (by decide +kernel) rfl rfl (Nat.le_of_ble_eq_true rfl) rfl dX0_goRounds_2 (fun H1 locs1 hP1 hD1 hS1 => ?_)
  clear hP0 hD0 hS0 locs0 H0
  refine wlp (ι := Nat × (Nat → Int32)) (nL := 2) (fun x9 => (x9.1 ≤ 60) ∧ (∀ j, j < x9.1 → chgG (nxC Sd Dv L n) n (itG (nxC Sd Dv L n) n P j) = true)) (fun x9 => aS cy b (itG (nxC Sd Dv L n) n P x9.1) F x9.2 B O Sd Dv L (nI x9.1) re fr lo sm) (fun x9 => [(0, .ref (b 0)), (1, .int (nI n))]) (fun x9 => []) (fun x9 => 60 - x9.1) 5 ?_ (0, N) (⟨by first | omega | assumption | rfl | simp_all, fun j hj => absurd hj (Nat.not_lt_zero j)⟩) rfl hP1 hD1 hS1 (lv_sub hl0 [0, 1] rfl)
  clear hP1 hD1 hS1 locs1 H1 hl0 ls0
  intro x9 hI ih_5 H2 locs2 ls1 hP2 hD2 hS2 hl1
  obtain ⟨k, N1⟩ := x9
  obtain ⟨hk, hc⟩ := hI
  replace hk : k ≤ 60 := hk
  replace hc : ∀ j, j < k → chgG (nxC Sd Dv L n) n (itG (nxC Sd Dv L n) n P j) = true := hc
  replace hP2 : va_P D vwCl (aS cy b (itG (nxC Sd Dv L n) n P k) F N1 B O Sd Dv L (nI k) re fr lo sm) H2 := hP2
  replace hD2 : va_D (va_A _ sz) (aS cy b (itG (nxC Sd Dv L n) n P k) F N1 B O Sd Dv L (nI k) re fr lo sm) := hD2
  replace hl1 : lv_has ls1 2 [(0, .ref (b 0)), (1, .int (nI n))] := hl1
  show W p l e _ s m _ below meth c _ _ _ _ _ (F0 m 5 ls1 [])
  refine lv_aload_n hx hb dX0_goRounds_5 rfl (lv_at hl1 0 rfl) ?_
  refine va_get (D := D) (ci := 0) (v := .int (nI k)) (C := RX0) (T := TX0) (N := 13) hx hb hw iX0 hown hK hP2 0 rfl rfl 2 (by decide) (hw _ kw_1_107) (fun _ h9 => h9) rfl dX0_goRounds_6 ?_
  refine lv_bipush (v := 60) hx hb dX0_goRounds_9 (by decide) ?_
  refine ln_ge (tgt := 35) k 60 rfl rfl (by omega) (by omega) hx hb dX0_goRounds_11 (by decide) (fun c_11 => ?_) (fun c_11 => ?_)
  · have hk60 : k = 60 := by omega
    have hcn : cntG (nxC Sd Dv L n) n P = k := cntG_eq hk hc (Or.inl hk60)
    refine lv_aload_n hx hb dX0_goRounds_35 rfl (lv_at hl1 0 rfl) ?_
    refine lv_aload_n hx hb dX0_goRounds_36 rfl (lv_at hl1 0 rfl) ?_
    refine va_get (D := D) (ci := 0) (v := .int (nI k)) (C := RX0) (T := TX0) (N := 13) hx hb hw iX0 hown hK hP2 0 rfl rfl 2 (by decide) (hw _ kw_1_107) (fun _ h9 => h9) rfl dX0_goRounds_37 ?_
    refine lv_bipush (v := 60) hx hb dX0_goRounds_40 (by decide) ?_
    refine ln_ne (tgt := 49) k 60 rfl rfl (by omega) (by omega) hx hb dX0_goRounds_42 (by decide) (fun c_42 => ?_) (fun c_42 => ?_)
    · refine lv_iconst (v := 0) hx hb dX0_goRounds_49 (by decide) ?_
      refine tp (show (0) = b2i (cntG (nxC Sd Dv L n) n P = 60) from by rw [hcn]; simp [b2i, c_11, c_42]) ?_
      refine pt (D := D) (ci := 0) (v := .int (b2i (cntG (nxC Sd Dv L n) n P = 60))) (ty := .boolean) (C := RX0) (T := TX0) (N := 13) (ws' := aS cy b (itG (nxC Sd Dv L n) n P k) F N1 B O Sd Dv L (nI k) (b2i (cntG (nxC Sd Dv L n) n P = 60)) fr lo sm) hx hb hw iX0 tyX0 tyX0_ok nmX0 hown hK hP2 hD2 hS2 0 rfl rfl 3 (by decide) kw_1_109 (fun _ h9 => h9) rfl (by decide +kernel) (b2i_z _) (b2i_fits _) (Nat.le_of_ble_eq_true rfl) rfl dX0_goRounds_50 (fun H3 locs3 hP3 hD3 hS3 => ?_)
      clear hP2 hD2 hS2 locs2 H2
      have hq9 : (aS cy b (itG (nxC Sd Dv L n) n P k) F N1 B O Sd Dv L (nI k) (b2i (cntG (nxC Sd Dv L n) n P = 60)) fr lo sm) = (aS cy b (itG (nxC Sd Dv L n) n P (cntG (nxC Sd Dv L n) n P)) F N1 B O Sd Dv L (nI k) (b2i (cntG (nxC Sd Dv L n) n P = 60)) fr lo sm) := congrArg (fun z9 => aS cy b z9 F N1 B O Sd Dv L (nI k) (b2i (cntG (nxC Sd Dv L n) n P = 60)) fr lo sm) (show (itG (nxC Sd Dv L n) n P k) = (itG (nxC Sd Dv L n) n P (cntG (nxC Sd Dv L n) n P)) from by rw [hcn])
      replace hP3 := (congrArg (fun z9 => va_P D vwCl z9 _) hq9).mp hP3
      replace hD3 := (congrArg (fun z9 => va_D _ z9) hq9).mp hD3
      clear hq9
      have hq9 : (aS cy b (itG (nxC Sd Dv L n) n P (cntG (nxC Sd Dv L n) n P)) F N1 B O Sd Dv L (nI k) (b2i (cntG (nxC Sd Dv L n) n P = 60)) fr lo sm) = (aS cy b (itG (nxC Sd Dv L n) n P (cntG (nxC Sd Dv L n) n P)) F N1 B O Sd Dv L (nI (cntG (nxC Sd Dv L n) n P)) (b2i (cntG (nxC Sd Dv L n) n P = 60)) fr lo sm) := congrArg (fun z9 => aS cy b (itG (nxC Sd Dv L n) n P (cntG (nxC Sd Dv L n) n P)) F N1 B O Sd Dv L z9 (b2i (cntG (nxC Sd Dv L n) n P = 60)) fr lo sm) (show (nI k) = (nI (cntG (nxC Sd Dv L n) n P)) from by rw [hcn])
      replace hP3 := (congrArg (fun z9 => va_P D vwCl z9 _) hq9).mp hP3
      replace hD3 := (congrArg (fun z9 => va_D _ z9) hq9).mp hD3
      clear hq9
      refine re_v N1 hx hb hr hlocks hP3 hD3 hS3 dX0_goRounds_53 ?_
      exact (trivial)
    · refine lv_iconst (v := 1) hx hb dX0_goRounds_45 (by decide) ?_
      refine lv_goto (tgt := 50) hx hb dX0_goRounds_46 (by decide) ?_
      refine tp (show (1) = b2i (cntG (nxC Sd Dv L n) n P = 60) from by rw [hcn]; simp [b2i, c_11, c_42]) ?_
      refine pt (D := D) (ci := 0) (v := .int (b2i (cntG (nxC Sd Dv L n) n P = 60))) (ty := .boolean) (C := RX0) (T := TX0) (N := 13) (ws' := aS cy b (itG (nxC Sd Dv L n) n P k) F N1 B O Sd Dv L (nI k) (b2i (cntG (nxC Sd Dv L n) n P = 60)) fr lo sm) hx hb hw iX0 tyX0 tyX0_ok nmX0 hown hK hP2 hD2 hS2 0 rfl rfl 3 (by decide) kw_1_109 (fun _ h9 => h9) rfl (by decide +kernel) (b2i_z _) (b2i_fits _) (Nat.le_of_ble_eq_true rfl) rfl dX0_goRounds_50 (fun H3 locs3 hP3 hD3 hS3 => ?_)
      clear hP2 hD2 hS2 locs2 H2
      have hq9 : (aS cy b (itG (nxC Sd Dv L n) n P k) F N1 B O Sd Dv L (nI k) (b2i (cntG (nxC Sd Dv L n) n P = 60)) fr lo sm) = (aS cy b (itG (nxC Sd Dv L n) n P (cntG (nxC Sd Dv L n) n P)) F N1 B O Sd Dv L (nI k) (b2i (cntG (nxC Sd Dv L n) n P = 60)) fr lo sm) := congrArg (fun z9 => aS cy b z9 F N1 B O Sd Dv L (nI k) (b2i (cntG (nxC Sd Dv L n) n P = 60)) fr lo sm) (show (itG (nxC Sd Dv L n) n P k) = (itG (nxC Sd Dv L n) n P (cntG (nxC Sd Dv L n) n P)) from by rw [hcn])
      replace hP3 := (congrArg (fun z9 => va_P D vwCl z9 _) hq9).mp hP3
      replace hD3 := (congrArg (fun z9 => va_D _ z9) hq9).mp hD3
      clear hq9
      have hq9 : (aS cy b (itG (nxC Sd Dv L n) n P (cntG (nxC Sd Dv L n) n P)) F N1 B O Sd Dv L (nI k) (b2i (cntG (nxC Sd Dv L n) n P = 60)) fr lo sm) = (aS cy b (itG (nxC Sd Dv L n) n P (cntG (nxC Sd Dv L n) n P)) F N1 B O Sd Dv L (nI (cntG (nxC Sd Dv L n) n P)) (b2i (cntG (nxC Sd Dv L n) n P = 60)) fr lo sm) := congrArg (fun z9 => aS cy b (itG (nxC Sd Dv L n) n P (cntG (nxC Sd Dv L n) n P)) F N1 B O Sd Dv L z9 (b2i (cntG (nxC Sd Dv L n) n P = 60)) fr lo sm) (show (nI k) = (nI (cntG (nxC Sd Dv L n) n P)) from by rw [hcn])
      replace hP3 := (congrArg (fun z9 => va_P D vwCl z9 _) hq9).mp hP3
      replace hD3 := (congrArg (fun z9 => va_D _ z9) hq9).mp hD3
      clear hq9
      refine re_v N1 hx hb hr hlocks hP3 hD3 hS3 dX0_goRounds_53 ?_
      exact (trivial)
  · refine lv_aload_n hx hb dX0_goRounds_14 rfl (lv_at hl1 0 rfl) ?_
    refine lv_iload_n hx hb dX0_goRounds_15 rfl (lv_at hl1 1 rfl) ?_
    refine cV_i (wc := aS cy b (itG (nxC Sd Dv L n) n P k) F N1 B O Sd Dv L (nI k) re fr lo sm) (wr := []) (rest := []) hx hb hml hown hw hG hK hP2 hD2 hS2 hA hl1 kc_X0_goRound kw_3_70 [.int (nI n)] (c_X0_goRound l D cy G H2.size b (itG (nxC Sd Dv L n) n P k) F N1 B O Sd Dv L (nI k) re fr lo sm n (by first | omega | assumption)) [0, 1, 2, 3, 4, 5, 6, 7, 8, 9, 10, 11, 12, 13, 14] [] rfl rfl rfl rfl rfl 0 rfl rfl rfl rfl rfl (Nat.le_of_ble_eq_true rfl) ⟨Nat.le_of_ble_eq_true rfl, Nat.le_of_ble_eq_true rfl⟩ dX0_goRounds_16 ⟨Nat.le_of_ble_eq_true rfl, Nat.le_of_ble_eq_true rfl⟩ (fun r_16 u9 H3 locs3 hu9 hP3 hD3 hS3 => ?_)
    clear hP2 hD2 hS2 locs2 H2
    have hr_16 := hu9
    replace hP3 : va_P D vwCl (aS cy b (rndG (nxC Sd Dv L n) n (itG (nxC Sd Dv L n) n P k)) F (fil (nxC Sd Dv L n (itG (nxC Sd Dv L n) n P k)) N1 n) B O Sd Dv L (nI k) re fr lo sm) H3 := hP3
    replace hD3 : va_D (va_A _ sz) (aS cy b (rndG (nxC Sd Dv L n) n (itG (nxC Sd Dv L n) n P k)) F (fil (nxC Sd Dv L n (itG (nxC Sd Dv L n) n P k)) N1 n) B O Sd Dv L (nI k) re fr lo sm) := hD3
    subst hr_16
    refine lb_eq (tgt := 35) hx hb dX0_goRounds_19 (by decide) (fun c_19 => ?_) (fun c_19 => ?_)
    · have hcf := Bool.eq_false_iff.mpr c_19
      have hcn : cntG (nxC Sd Dv L n) n P = k := cntG_eq hk hc (Or.inr hcf)
      have hq9 : (aS cy b (rndG (nxC Sd Dv L n) n (itG (nxC Sd Dv L n) n P k)) F (fil (nxC Sd Dv L n (itG (nxC Sd Dv L n) n P k)) N1 n) B O Sd Dv L (nI k) re fr lo sm) = (aS cy b (itG (nxC Sd Dv L n) n P k) F (fil (nxC Sd Dv L n (itG (nxC Sd Dv L n) n P k)) N1 n) B O Sd Dv L (nI k) re fr lo sm) := congrArg (fun z9 => aS cy b z9 F (fil (nxC Sd Dv L n (itG (nxC Sd Dv L n) n P k)) N1 n) B O Sd Dv L (nI k) re fr lo sm) (show (rndG (nxC Sd Dv L n) n (itG (nxC Sd Dv L n) n P k)) = (itG (nxC Sd Dv L n) n P k) from rnd_same hcf)
      replace hP3 := (congrArg (fun z9 => va_P D vwCl z9 _) hq9).mp hP3
      replace hD3 := (congrArg (fun z9 => va_D _ z9) hq9).mp hD3
      clear hq9
      refine lv_aload_n hx hb dX0_goRounds_35 rfl (lv_at hl1 0 rfl) ?_
      refine lv_aload_n hx hb dX0_goRounds_36 rfl (lv_at hl1 0 rfl) ?_
      refine va_get (D := D) (ci := 0) (v := .int (nI k)) (C := RX0) (T := TX0) (N := 13) hx hb hw iX0 hown hK hP3 0 rfl rfl 2 (by decide) (hw _ kw_1_107) (fun _ h9 => h9) rfl dX0_goRounds_37 ?_
      refine lv_bipush (v := 60) hx hb dX0_goRounds_40 (by decide) ?_
      refine ln_ne (tgt := 49) k 60 rfl rfl (by omega) (by omega) hx hb dX0_goRounds_42 (by decide) (fun c_42 => ?_) (fun c_42 => ?_)
      · refine lv_iconst (v := 0) hx hb dX0_goRounds_49 (by decide) ?_
        refine tp (show (0) = b2i (cntG (nxC Sd Dv L n) n P = 60) from by rw [hcn]; simp [b2i, c_11, c_19, c_42]) ?_
        refine pt (D := D) (ci := 0) (v := .int (b2i (cntG (nxC Sd Dv L n) n P = 60))) (ty := .boolean) (C := RX0) (T := TX0) (N := 13) (ws' := aS cy b (itG (nxC Sd Dv L n) n P k) F (fil (nxC Sd Dv L n (itG (nxC Sd Dv L n) n P k)) N1 n) B O Sd Dv L (nI k) (b2i (cntG (nxC Sd Dv L n) n P = 60)) fr lo sm) hx hb hw iX0 tyX0 tyX0_ok nmX0 hown hK hP3 hD3 hS3 0 rfl rfl 3 (by decide) kw_1_109 (fun _ h9 => h9) rfl (by decide +kernel) (b2i_z _) (b2i_fits _) (Nat.le_of_ble_eq_true rfl) rfl dX0_goRounds_50 (fun H4 locs4 hP4 hD4 hS4 => ?_)
        clear hP3 hD3 hS3 locs3 H3
        have hq9 : (aS cy b (itG (nxC Sd Dv L n) n P k) F (fil (nxC Sd Dv L n (itG (nxC Sd Dv L n) n P k)) N1 n) B O Sd Dv L (nI k) (b2i (cntG (nxC Sd Dv L n) n P = 60)) fr lo sm) = (aS cy b (itG (nxC Sd Dv L n) n P (cntG (nxC Sd Dv L n) n P)) F (fil (nxC Sd Dv L n (itG (nxC Sd Dv L n) n P k)) N1 n) B O Sd Dv L (nI k) (b2i (cntG (nxC Sd Dv L n) n P = 60)) fr lo sm) := congrArg (fun z9 => aS cy b z9 F (fil (nxC Sd Dv L n (itG (nxC Sd Dv L n) n P k)) N1 n) B O Sd Dv L (nI k) (b2i (cntG (nxC Sd Dv L n) n P = 60)) fr lo sm) (show (itG (nxC Sd Dv L n) n P k) = (itG (nxC Sd Dv L n) n P (cntG (nxC Sd Dv L n) n P)) from by rw [hcn])
        replace hP4 := (congrArg (fun z9 => va_P D vwCl z9 _) hq9).mp hP4
        replace hD4 := (congrArg (fun z9 => va_D _ z9) hq9).mp hD4
        clear hq9
        have hq9 : (aS cy b (itG (nxC Sd Dv L n) n P (cntG (nxC Sd Dv L n) n P)) F (fil (nxC Sd Dv L n (itG (nxC Sd Dv L n) n P k)) N1 n) B O Sd Dv L (nI k) (b2i (cntG (nxC Sd Dv L n) n P = 60)) fr lo sm) = (aS cy b (itG (nxC Sd Dv L n) n P (cntG (nxC Sd Dv L n) n P)) F (fil (nxC Sd Dv L n (itG (nxC Sd Dv L n) n P k)) N1 n) B O Sd Dv L (nI (cntG (nxC Sd Dv L n) n P)) (b2i (cntG (nxC Sd Dv L n) n P = 60)) fr lo sm) := congrArg (fun z9 => aS cy b (itG (nxC Sd Dv L n) n P (cntG (nxC Sd Dv L n) n P)) F (fil (nxC Sd Dv L n (itG (nxC Sd Dv L n) n P k)) N1 n) B O Sd Dv L z9 (b2i (cntG (nxC Sd Dv L n) n P = 60)) fr lo sm) (show (nI k) = (nI (cntG (nxC Sd Dv L n) n P)) from by rw [hcn])
        replace hP4 := (congrArg (fun z9 => va_P D vwCl z9 _) hq9).mp hP4
        replace hD4 := (congrArg (fun z9 => va_D _ z9) hq9).mp hD4
        clear hq9
        refine re_v (fil (nxC Sd Dv L n (itG (nxC Sd Dv L n) n P k)) N1 n) hx hb hr hlocks hP4 hD4 hS4 dX0_goRounds_53 ?_
        exact (trivial)
      · refine lv_iconst (v := 1) hx hb dX0_goRounds_45 (by decide) ?_
        refine lv_goto (tgt := 50) hx hb dX0_goRounds_46 (by decide) ?_
        refine tp (show (1) = b2i (cntG (nxC Sd Dv L n) n P = 60) from by rw [hcn]; simp [b2i, c_11, c_19, c_42]) ?_
        refine pt (D := D) (ci := 0) (v := .int (b2i (cntG (nxC Sd Dv L n) n P = 60))) (ty := .boolean) (C := RX0) (T := TX0) (N := 13) (ws' := aS cy b (itG (nxC Sd Dv L n) n P k) F (fil (nxC Sd Dv L n (itG (nxC Sd Dv L n) n P k)) N1 n) B O Sd Dv L (nI k) (b2i (cntG (nxC Sd Dv L n) n P = 60)) fr lo sm) hx hb hw iX0 tyX0 tyX0_ok nmX0 hown hK hP3 hD3 hS3 0 rfl rfl 3 (by decide) kw_1_109 (fun _ h9 => h9) rfl (by decide +kernel) (b2i_z _) (b2i_fits _) (Nat.le_of_ble_eq_true rfl) rfl dX0_goRounds_50 (fun H4 locs4 hP4 hD4 hS4 => ?_)
        clear hP3 hD3 hS3 locs3 H3
        have hq9 : (aS cy b (itG (nxC Sd Dv L n) n P k) F (fil (nxC Sd Dv L n (itG (nxC Sd Dv L n) n P k)) N1 n) B O Sd Dv L (nI k) (b2i (cntG (nxC Sd Dv L n) n P = 60)) fr lo sm) = (aS cy b (itG (nxC Sd Dv L n) n P (cntG (nxC Sd Dv L n) n P)) F (fil (nxC Sd Dv L n (itG (nxC Sd Dv L n) n P k)) N1 n) B O Sd Dv L (nI k) (b2i (cntG (nxC Sd Dv L n) n P = 60)) fr lo sm) := congrArg (fun z9 => aS cy b z9 F (fil (nxC Sd Dv L n (itG (nxC Sd Dv L n) n P k)) N1 n) B O Sd Dv L (nI k) (b2i (cntG (nxC Sd Dv L n) n P = 60)) fr lo sm) (show (itG (nxC Sd Dv L n) n P k) = (itG (nxC Sd Dv L n) n P (cntG (nxC Sd Dv L n) n P)) from by rw [hcn])
        replace hP4 := (congrArg (fun z9 => va_P D vwCl z9 _) hq9).mp hP4
        replace hD4 := (congrArg (fun z9 => va_D _ z9) hq9).mp hD4
        clear hq9
        have hq9 : (aS cy b (itG (nxC Sd Dv L n) n P (cntG (nxC Sd Dv L n) n P)) F (fil (nxC Sd Dv L n (itG (nxC Sd Dv L n) n P k)) N1 n) B O Sd Dv L (nI k) (b2i (cntG (nxC Sd Dv L n) n P = 60)) fr lo sm) = (aS cy b (itG (nxC Sd Dv L n) n P (cntG (nxC Sd Dv L n) n P)) F (fil (nxC Sd Dv L n (itG (nxC Sd Dv L n) n P k)) N1 n) B O Sd Dv L (nI (cntG (nxC Sd Dv L n) n P)) (b2i (cntG (nxC Sd Dv L n) n P = 60)) fr lo sm) := congrArg (fun z9 => aS cy b (itG (nxC Sd Dv L n) n P (cntG (nxC Sd Dv L n) n P)) F (fil (nxC Sd Dv L n (itG (nxC Sd Dv L n) n P k)) N1 n) B O Sd Dv L z9 (b2i (cntG (nxC Sd Dv L n) n P = 60)) fr lo sm) (show (nI k) = (nI (cntG (nxC Sd Dv L n) n P)) from by rw [hcn])
        replace hP4 := (congrArg (fun z9 => va_P D vwCl z9 _) hq9).mp hP4
        replace hD4 := (congrArg (fun z9 => va_D _ z9) hq9).mp hD4
        clear hq9
        refine re_v (fil (nxC Sd Dv L n (itG (nxC Sd Dv L n) n P k)) N1 n) hx hb hr hlocks hP4 hD4 hS4 dX0_goRounds_53 ?_
        exact (trivial)
    · refine lv_aload_n hx hb dX0_goRounds_22 rfl (lv_at hl1 0 rfl) ?_
      refine lv_dup hx hb dX0_goRounds_23 rfl ?_
      refine va_get (D := D) (ci := 0) (v := .int (nI k)) (C := RX0) (T := TX0) (N := 13) hx hb hw iX0 hown hK hP3 0 rfl rfl 2 (by decide) (hw _ kw_1_107) (fun _ h9 => h9) rfl dX0_goRounds_24 ?_
      refine lv_iconst (v := 1) hx hb dX0_goRounds_27 (by decide) ?_
      refine lv_iadd hx hb dX0_goRounds_28 ?_
      refine tp (show ((nI k) + 1) = nI (k + 1) from nI_add _ _) ?_
      refine pt (D := D) (ci := 0) (v := .int (nI (k + 1))) (ty := .int) (C := RX0) (T := TX0) (N := 13) (ws' := aS cy b (rndG (nxC Sd Dv L n) n (itG (nxC Sd Dv L n) n P k)) F (fil (nxC Sd Dv L n (itG (nxC Sd Dv L n) n P k)) N1 n) B O Sd Dv L (nI (k + 1)) re fr lo sm) hx hb hw iX0 tyX0 tyX0_ok nmX0 hown hK hP3 hD3 hS3 0 rfl rfl 2 (by decide) kw_1_107 (fun _ h9 => h9) rfl (by decide +kernel) rfl rfl (Nat.le_of_ble_eq_true rfl) rfl dX0_goRounds_29 (fun H4 locs4 hP4 hD4 hS4 => ?_)
      clear hP3 hD3 hS3 locs3 H3
      refine lv_goto (tgt := 5) hx hb dX0_goRounds_32 (by decide) ?_
      have hq9 : (aS cy b (rndG (nxC Sd Dv L n) n (itG (nxC Sd Dv L n) n P k)) F (fil (nxC Sd Dv L n (itG (nxC Sd Dv L n) n P k)) N1 n) B O Sd Dv L (nI (k + 1)) re fr lo sm) = (aS cy b (itG (nxC Sd Dv L n) n P (k + 1)) F (fil (nxC Sd Dv L n (itG (nxC Sd Dv L n) n P k)) N1 n) B O Sd Dv L (nI (k + 1)) re fr lo sm) := congrArg (fun z9 => aS cy b z9 F (fil (nxC Sd Dv L n (itG (nxC Sd Dv L n) n P k)) N1 n) B O Sd Dv L (nI (k + 1)) re fr lo sm) (show (rndG (nxC Sd Dv L n) n (itG (nxC Sd Dv L n) n P k)) = (itG (nxC Sd Dv L n) n P (k + 1)) from rfl)
      replace hP4 := (congrArg (fun z9 => va_P D vwCl z9 _) hq9).mp hP4
      replace hD4 := (congrArg (fun z9 => va_D _ z9) hq9).mp hD4
      clear hq9
      exact ih_5 (k + 1, fil (nxC Sd Dv L n (itG (nxC Sd Dv L n) n P k)) N1 n) (⟨by first | omega | assumption | rfl | simp_all, fun j hj => by
          by_cases e9 : j = k
          · subst e9; exact c_19
          · exact hc j (by omega)⟩) (by (try dsimp only); omega) H4 locs4 ls1 hP4 hD4 hS4 (lv_sub hl1 [0, 1] rfl)

theorem kc_X0_sumFlows : kV yX0_sumFlows cX0_sumFlows 5 none 1 := ⟨kw_3_77, kw_s_18, kw_1_3, kw_3_78, by decide, by decide, by decide +kernel⟩
set_option maxHeartbeats 4000000 in
set_option maxRecDepth 100000 in
theorem c_X0_sumFlows (l : Launch) (D : va_G) (cy : Nat → ClassId) (G : Nat → Nat) (sz : Nat) (b : Nat → Nat) (P : Nat → Int32) (F : Nat → Int32) (N : Nat → Int32) (B : Nat → Int32) (O : Nat → Int32) (Sd : Nat → Int32) (Dv : Nat → Int32) (L : Nat → Nat → Int32) (rc : Int32) (re : Int32) (fr : Int32) (lo : Int32) (sm : Int32) (a : Nat → Nat) (S : Nat → Int32) (wf : wf S) (hB : ∀ g, g < gcN S → B g = breadth S g) (hO : ∀ g, g < gcN S → O g = 8 * push S g) : Met l yX0_sumFlows (wm yX0_sumFlows cX0_sumFlows 5 none) { frames := 3, cells := 0, slots := 0, locals := 64 } (va_Pc [.ref (b 0), .ref (a 0)] (pr D (TY cy) G (aS cy b P F N B O Sd Dv L rc re fr lo sm ++ (pS cy a S)) sz)) (va_Qv (fun (u : Unit) => True) (fun (u : Unit) t => po D (va_A (aS cy b P F N B O Sd Dv L rc re fr lo sm ++ (pS cy a S)) sz) (aS cy b P (fil (flow S P) F (gcN S)) N B O Sd Dv L rc re (frs S P (gcN S)) (frs S P (gcN S) * S 2) (b2i (smk S P (gcN S) = true)) ++ (pS cy a S)) t) (va_A (aS cy b P F N B O Sd Dv L rc re fr lo sm ++ (pS cy a S)) sz)) 0 0 (va_A (aS cy b P F N B O Sd Dv L rc re fr lo sm ++ (pS cy a S)) sz) := by
  refine mk_rw (by decide) RX0 rfl (Nat.le_of_ble_eq_true rfl) [(0, .ref (b 0)), (1, .ref (a 0))] rfl ?_
  intro p e s m below meth c hx hb hml hown hr hlocks hin hw hsz hA hG hK H0 locs0 hP0 hD0 hS0 ls0 hl0
  clear hin
  have hg20 := wf_g20 wf
  have hr6 := wf_r6 wf
  refine lv_aload_n hx hb dX0_sumFlows_0 rfl (lv_at hl0 0 rfl) ?_
  refine lv_iconst (v := 0) hx hb dX0_sumFlows_1 (by decide) ?_
  refine pt (D := D) (ci := 0) (v := .int 0) (ty := .int) (C := RX0) (T := TX0) (N := 13) (ws' := aS cy b P F N B O Sd Dv L rc re 0 lo sm ++ (pS cy a S)) hx hb hw iX0 tyX0 tyX0_ok nmX0 hown hK hP0 hD0 hS0 0 rfl rfl 4 (by decide) kw_1_111 (fun _ h9 => h9) rfl (by decide +kernel) rfl rfl (Nat.le_of_ble_eq_true rfl) rfl dX0_sumFlows_2 (fun H1 locs1 hP1 hD1 hS1 => ?_)
  clear hP0 hD0 hS0 locs0 H0
  refine lv_aload_n hx hb dX0_sumFlows_5 rfl (lv_at hl0 0 rfl) ?_
  refine lv_iconst (v := 0) hx hb dX0_sumFlows_6 (by decide) ?_
  refine pt (D := D) (ci := 0) (v := .int 0) (ty := .boolean) (C := RX0) (T := TX0) (N := 13) (ws' := aS cy b P F N B O Sd Dv L rc re 0 lo 0 ++ (pS cy a S)) hx hb hw iX0 tyX0 tyX0_ok nmX0 hown hK hP1 hD1 hS1 0 rfl rfl 6 (by decide) kw_1_117 (fun _ h9 => h9) rfl (by decide +kernel) rfl rfl (Nat.le_of_ble_eq_true rfl) rfl dX0_sumFlows_7 (fun H2 locs2 hP2 hD2 hS2 => ?_)
  clear hP1 hD1 hS1 locs1 H1
  refine lv_iconst (v := 0) hx hb dX0_sumFlows_10 (by decide) ?_
  refine lv_istore_n (lv' := [(2, .int 0), (0, .ref (b 0)), (1, .ref (a 0))]) hx hb dX0_sumFlows_11 rfl hl0 (by decide) rfl (fun ls1 hl1 => ?_)
  clear hl0 ls0
  have hq9 : (aS cy b P F N B O Sd Dv L rc re 0 lo 0 ++ (pS cy a S)) = (aS cy b P (fil (flow S P) F 0) N B O Sd Dv L rc re 0 lo 0 ++ (pS cy a S)) := congrArg (fun z9 => aS cy b P z9 N B O Sd Dv L rc re 0 lo 0 ++ (pS cy a S)) (show F = (fil (flow S P) F 0) from fil_0 _ F)
  replace hP2 := (congrArg (fun z9 => va_P D vwCl z9 _) hq9).mp hP2
  replace hD2 := (congrArg (fun z9 => va_D _ z9) hq9).mp hD2
  clear hq9
  have hq9 : (aS cy b P (fil (flow S P) F 0) N B O Sd Dv L rc re 0 lo 0 ++ (pS cy a S)) = (aS cy b P (fil (flow S P) F 0) N B O Sd Dv L rc re (frs S P 0) lo 0 ++ (pS cy a S)) := congrArg (fun z9 => aS cy b P (fil (flow S P) F 0) N B O Sd Dv L rc re z9 lo 0 ++ (pS cy a S)) (show 0 = (frs S P 0) from rfl)
  replace hP2 := (congrArg (fun z9 => va_P D vwCl z9 _) hq9).mp hP2
  replace hD2 := (congrArg (fun z9 => va_D _ z9) hq9).mp hD2
  clear hq9
  have hq9 : (aS cy b P (fil (flow S P) F 0) N B O Sd Dv L rc re (frs S P 0) lo 0 ++ (pS cy a S)) = (aS cy b P (fil (flow S P) F 0) N B O Sd Dv L rc re (frs S P 0) lo (b2i (smk S P 0 = true)) ++ (pS cy a S)) := congrArg (fun z9 => aS cy b P (fil (flow S P) F 0) N B O Sd Dv L rc re (frs S P 0) lo z9 ++ (pS cy a S)) (show 0 = (b2i (smk S P 0 = true)) from (b2i_f (by simp [smk])).symm)
  replace hP2 := (congrArg (fun z9 => va_P D vwCl z9 _) hq9).mp hP2
  replace hD2 := (congrArg (fun z9 => va_D _ z9) hq9).mp hD2
  clear hq9
  refine wlp (ι := Nat) (nL := 5) (fun x9 => (x9 ≤ gcN S)) (fun x9 => aS cy b P (fil (flow S P) F x9) N B O Sd Dv L rc re (frs S P x9) lo (b2i (smk S P x9 = true)) ++ (pS cy a S)) (fun x9 => [(2, .int (nI x9)), (0, .ref (b 0)), (1, .ref (a 0))]) (fun x9 => []) (fun x9 => gcN S - x9) 12 ?_ 0 (by first | omega | assumption | rfl | simp_all) rfl hP2 hD2 hS2 (lv_sub hl1 [0, 1, 2] rfl)
  clear hP2 hD2 hS2 locs2 H2 hl1 ls1
  intro x9 hI ih_12 H3 locs3 ls2 hP3 hD3 hS3 hl2
  obtain ⟨i, rfl⟩ : ∃ z9, z9 = x9 := ⟨_, rfl⟩
  have hi := hI
  replace hi : i ≤ gcN S := hi
  replace hP3 : va_P D vwCl (aS cy b P (fil (flow S P) F i) N B O Sd Dv L rc re (frs S P i) lo (b2i (smk S P i = true)) ++ (pS cy a S)) H3 := hP3
  replace hD3 : va_D (va_A _ sz) (aS cy b P (fil (flow S P) F i) N B O Sd Dv L rc re (frs S P i) lo (b2i (smk S P i = true)) ++ (pS cy a S)) := hD3
  replace hl2 : lv_has ls2 5 [(2, .int (nI i)), (0, .ref (b 0)), (1, .ref (a 0))] := hl2
  show W p l e _ s m _ below meth c _ _ _ _ _ (F0 m 12 ls2 [])
  refine lv_iload_n hx hb dX0_sumFlows_12 rfl (lv_at hl2 0 rfl) ?_
  refine lv_aload_n hx hb dX0_sumFlows_13 rfl (lv_at hl2 2 rfl) ?_
  refine va_get (D := D) (ci := 1) (v := .int (S 1)) (C := RX1) (T := TX1) (N := 12) hx hb hw iX1 hown hK hP3 15 rfl rfl 1 (by decide) (hw _ kw_1_36) (fun _ h9 => h9) rfl dX0_sumFlows_14 ?_
  refine tp (show (S 1) = nI (gcN S) from wf_g wf) ?_
  refine ln_ge (tgt := 147) i (gcN S) rfl rfl (by omega) (by omega) hx hb dX0_sumFlows_17 (by decide) (fun c_17 => ?_) (fun c_17 => ?_)
  · obtain rfl : i = gcN S := (by omega)
    refine lv_aload_n hx hb dX0_sumFlows_147 rfl (lv_at hl2 1 rfl) ?_
    refine lv_aload_n hx hb dX0_sumFlows_148 rfl (lv_at hl2 1 rfl) ?_
    refine va_get (D := D) (ci := 0) (v := .int (frs S P (gcN S))) (C := RX0) (T := TX0) (N := 13) hx hb hw iX0 hown hK hP3 0 rfl rfl 4 (by decide) (hw _ kw_1_111) (fun _ h9 => h9) rfl dX0_sumFlows_149 ?_
    refine lv_aload_n hx hb dX0_sumFlows_152 rfl (lv_at hl2 2 rfl) ?_
    refine va_get (D := D) (ci := 1) (v := .ref (a 9)) (C := RX1) (T := TX1) (N := 12) hx hb hw iX1 hown hK hP3 15 rfl rfl 10 (by decide) (hw _ kw_1_61) (fun _ h9 => h9) rfl dX0_sumFlows_153 ?_
    refine lv_iconst (v := 0) hx hb dX0_sumFlows_156 (by decide) ?_
    refine ald_i (f := fun k => if k < 6 then S (2 + k) else 0) hx hb hK hP3 24 0 rfl rfl 0 rfl (by first | omega | assumption) (by decide) dX0_sumFlows_157 ?_
    refine tp (show (if 0 < 6 then S (2 + 0) else 0) = S 2 from rfl) ?_
    refine lv_imul hx hb dX0_sumFlows_158 ?_
    refine pt (D := D) (ci := 0) (v := .int ((frs S P (gcN S)) * (S 2))) (ty := .int) (C := RX0) (T := TX0) (N := 13) (ws' := aS cy b P (fil (flow S P) F (gcN S)) N B O Sd Dv L rc re (frs S P (gcN S)) ((frs S P (gcN S)) * (S 2)) (b2i (smk S P (gcN S) = true)) ++ (pS cy a S)) hx hb hw iX0 tyX0 tyX0_ok nmX0 hown hK hP3 hD3 hS3 0 rfl rfl 5 (by decide) kw_1_114 (fun _ h9 => h9) rfl (by decide +kernel) rfl rfl (Nat.le_of_ble_eq_true rfl) rfl dX0_sumFlows_159 (fun H4 locs4 hP4 hD4 hS4 => ?_)
    clear hP3 hD3 hS3 locs3 H3
    have hq9 : (aS cy b P (fil (flow S P) F (gcN S)) N B O Sd Dv L rc re (frs S P (gcN S)) ((frs S P (gcN S)) * (S 2)) (b2i (smk S P (gcN S) = true)) ++ (pS cy a S)) = aS cy b P (fil (flow S P) F (gcN S)) N B O Sd Dv L rc re (frs S P (gcN S)) (frs S P (gcN S) * S 2) (b2i (smk S P (gcN S) = true)) ++ (pS cy a S) := by rfl
    replace hP4 := (congrArg (fun z9 => va_P D vwCl z9 _) hq9).mp hP4
    replace hD4 := (congrArg (fun z9 => va_D _ z9) hq9).mp hD4
    refine re_v () hx hb hr hlocks hP4 hD4 hS4 dX0_sumFlows_162 ?_
    exact (trivial)
  · have hr9 := wf_rm6 wf c_17
    refine lv_aload_n hx hb dX0_sumFlows_20 rfl (lv_at hl2 2 rfl) ?_
    refine va_get (D := D) (ci := 1) (v := .ref (a 3)) (C := RX1) (T := TX1) (N := 12) hx hb hw iX1 hown hK hP3 15 rfl rfl 4 (by decide) (hw _ kw_1_45) (fun _ h9 => h9) rfl dX0_sumFlows_21 ?_
    refine lv_iload_n hx hb dX0_sumFlows_24 rfl (lv_at hl2 0 rfl) ?_
    refine ald_i (f := fun g => S (11 + 8 * g)) hx hb hK hP3 18 0 rfl rfl i rfl (by first | omega | assumption) (by decide) dX0_sumFlows_25 ?_
    refine lv_istore_n (lv' := [(3, .int (S (11 + 8 * i))), (2, .int (nI i)), (0, .ref (b 0)), (1, .ref (a 0))]) hx hb dX0_sumFlows_26 rfl hl2 (by decide) rfl (fun ls3 hl3 => ?_)
    clear hl2 ls2
    refine lv_iload_n hx hb dX0_sumFlows_27 rfl (lv_at hl3 0 rfl) ?_
    refine lv_iconst (v := (-1)) hx hb dX0_sumFlows_28 (by decide) ?_
    refine lv_icmp_ne (tgt := 41) hx hb dX0_sumFlows_29 (by decide) (fun c_29 => ?_) (fun c_29 => ?_)
    · have ho9 := wf_ot6 wf c_17 c_29
      refine lv_aload_n hx hb dX0_sumFlows_41 rfl (lv_at hl3 2 rfl) ?_
      refine va_get (D := D) (ci := 0) (v := .ref (b 1)) (C := RX0) (T := TX0) (N := 13) hx hb hw iX0 hown hK hP3 0 rfl rfl 0 (by decide) (hw _ kw_1_102) (fun _ h9 => h9) rfl dX0_sumFlows_42 ?_
      refine lv_iload_n hx hb dX0_sumFlows_45 rfl (lv_at hl3 0 rfl) ?_
      refine ald_i (f := P) hx hb hK hP3 1 0 rfl rfl (otN S i) (wf_ot wf c_17 c_29) ho9 (by decide) dX0_sumFlows_46 ?_
      refine tp (show (P (otN S i)) = (if S (11 + 8 * i) = -1 then 8 * push S i else P (otN S i)) from by simp [c_29]) ?_
      refine lv_istore (lv' := [(4, .int (if S (11 + 8 * i) = -1 then 8 * push S i else P (otN S i))), (3, .int (S (11 + 8 * i))), (2, .int (nI i)), (0, .ref (b 0)), (1, .ref (a 0))]) hx hb dX0_sumFlows_47 hl3 (by decide) rfl (fun ls4 hl4 => ?_)
      clear hl3 ls3
      refine lv_aload_n hx hb dX0_sumFlows_49 rfl (lv_at hl4 3 rfl) ?_
      refine va_get (D := D) (ci := 0) (v := .ref (b 2)) (C := RX0) (T := TX0) (N := 13) hx hb hw iX0 hown hK hP3 0 rfl rfl 1 (by decide) (hw _ kw_1_104) (fun _ h9 => h9) rfl dX0_sumFlows_50 ?_
      refine lv_iload_n hx hb dX0_sumFlows_53 rfl (lv_at hl4 2 rfl) ?_
      refine lv_aload_n hx hb dX0_sumFlows_54 rfl (lv_at hl4 3 rfl) ?_
      refine va_get (D := D) (ci := 0) (v := .ref (b 4)) (C := RX0) (T := TX0) (N := 13) hx hb hw iX0 hown hK hP3 0 rfl rfl 8 (by decide) (hw _ kw_1_121) (fun _ h9 => h9) rfl dX0_sumFlows_55 ?_
      refine lv_iload_n hx hb dX0_sumFlows_58 rfl (lv_at hl4 2 rfl) ?_
      refine ald_i (f := B) hx hb hK hP3 4 0 rfl rfl i rfl (by first | omega | assumption) (by decide) dX0_sumFlows_59 ?_
      refine tp (show (B i) = breadth S i from hB i c_17) ?_
      refine lv_iload hx hb dX0_sumFlows_60 (lv_at hl4 0 rfl) ?_
      refine lv_aload_n hx hb dX0_sumFlows_62 rfl (lv_at hl4 3 rfl) ?_
      refine va_get (D := D) (ci := 0) (v := .ref (b 1)) (C := RX0) (T := TX0) (N := 13) hx hb hw iX0 hown hK hP3 0 rfl rfl 0 (by decide) (hw _ kw_1_102) (fun _ h9 => h9) rfl dX0_sumFlows_63 ?_
      refine lv_aload_n hx hb dX0_sumFlows_66 rfl (lv_at hl4 4 rfl) ?_
      refine va_get (D := D) (ci := 1) (v := .ref (a 2)) (C := RX1) (T := TX1) (N := 12) hx hb hw iX1 hown hK hP3 15 rfl rfl 3 (by decide) (hw _ kw_1_42) (fun _ h9 => h9) rfl dX0_sumFlows_67 ?_
      refine lv_iload_n hx hb dX0_sumFlows_70 rfl (lv_at hl4 2 rfl) ?_
      refine ald_i (f := fun g => S (10 + 8 * g)) hx hb hK hP3 17 0 rfl rfl i rfl (by first | omega | assumption) (by decide) dX0_sumFlows_71 ?_
      refine tp (show (S (10 + 8 * i)) = nI (rmN S i) from wf_rm wf c_17) ?_
      refine ald_i (f := P) hx hb hK hP3 1 0 rfl rfl (rmN S i) rfl (by first | omega | assumption) (by decide) dX0_sumFlows_72 ?_
      refine lv_isub hx hb dX0_sumFlows_73 ?_
      refine lv_imul hx hb dX0_sumFlows_74 ?_
      refine lv_bipush (v := 80) hx hb dX0_sumFlows_75 (by decide) ?_
      refine lv_idiv hx hb dX0_sumFlows_77 (by decide) ?_
      refine tp (show (((breadth S i) * ((if S (11 + 8 * i) = -1 then 8 * push S i else P (otN S i)) - (P (rmN S i)))) / 80) = flow S P i from rfl) ?_
      refine ast_i (f := fil (flow S P) F i) (ws' := aS cy b P (upd (fil (flow S P) F i) i (flow S P i)) N B O Sd Dv L rc re (frs S P i) lo (b2i (smk S P i = true)) ++ (pS cy a S)) hx hb hK hP3 hD3 hS3 2 0 rfl rfl i rfl (by first | omega | assumption) (by decide) rfl dX0_sumFlows_78 (fun H4 locs4 hP4 hD4 hS4 => ?_)
      clear hP3 hD3 hS3 locs3 H3
      have hq9 : (aS cy b P (upd (fil (flow S P) F i) i (flow S P i)) N B O Sd Dv L rc re (frs S P i) lo (b2i (smk S P i = true)) ++ (pS cy a S)) = (aS cy b P (fil (flow S P) F (i + 1)) N B O Sd Dv L rc re (frs S P i) lo (b2i (smk S P i = true)) ++ (pS cy a S)) := congrArg (fun z9 => aS cy b P z9 N B O Sd Dv L rc re (frs S P i) lo (b2i (smk S P i = true)) ++ (pS cy a S)) (show (upd (fil (flow S P) F i) i (flow S P i)) = (fil (flow S P) F (i + 1)) from fil_s _ F i)
      replace hP4 := (congrArg (fun z9 => va_P D vwCl z9 _) hq9).mp hP4
      replace hD4 := (congrArg (fun z9 => va_D _ z9) hq9).mp hD4
      clear hq9
      refine wjn (ι := Unit) (A := (va_A (aS cy b P F N B O Sd Dv L rc re fr lo sm ++ (pS cy a S)) sz)) (nL := 5) (D := D) (fun x9 => True) (fun x9 => aS cy b P (fil (flow S P) F (i + 1)) N B O Sd Dv L rc re (frs S P (i + 1)) lo (b2i (smk S P i = true)) ++ (pS cy a S)) (fun x9 => [(4, .int (if S (11 + 8 * i) = -1 then 8 * push S i else P (otN S i))), (3, .int (S (11 + 8 * i))), (2, .int (nI i)), (0, .ref (b 0)), (1, .ref (a 0))]) (fun x9 => []) 108 ?_ (fun J_108 => ?_)
      · intro x9 hI H5 locs5 ls5 hP5 hD5 hS5 hl5
        replace hP5 : va_P D vwCl (aS cy b P (fil (flow S P) F (i + 1)) N B O Sd Dv L rc re (frs S P (i + 1)) lo (b2i (smk S P i = true)) ++ (pS cy a S)) H5 := hP5
        replace hD5 : va_D (va_A _ sz) (aS cy b P (fil (flow S P) F (i + 1)) N B O Sd Dv L rc re (frs S P (i + 1)) lo (b2i (smk S P i = true)) ++ (pS cy a S)) := hD5
        replace hl5 : lv_has ls5 5 [(4, .int (if S (11 + 8 * i) = -1 then 8 * push S i else P (otN S i))), (3, .int (S (11 + 8 * i))), (2, .int (nI i)), (0, .ref (b 0)), (1, .ref (a 0))] := hl5
        show W p l e _ s m _ below meth c _ _ _ _ _ (F0 m 108 ls5 [])
        refine lv_aload_n hx hb dX0_sumFlows_108 rfl (lv_at hl5 3 rfl) ?_
        refine lv_aload_n hx hb dX0_sumFlows_109 rfl (lv_at hl5 3 rfl) ?_
        refine va_get (D := D) (ci := 0) (v := .int (b2i (smk S P i = true))) (C := RX0) (T := TX0) (N := 13) hx hb hw iX0 hown hK hP5 0 rfl rfl 6 (by decide) (hw _ kw_1_117) (fun _ h9 => h9) rfl dX0_sumFlows_110 ?_
        refine lb_ne (tgt := 133) hx hb dX0_sumFlows_113 (by decide) (fun c_113 => ?_) (fun c_113 => ?_)
        · refine lv_iconst (v := 1) hx hb dX0_sumFlows_133 (by decide) ?_
          refine lv_goto (tgt := 138) hx hb dX0_sumFlows_134 (by decide) ?_
          refine tp (show (1) = b2i (smk S P (i + 1) = true) from by simp only [smk]; clear hx hb hml hown hr hlocks hw hsz hA hG hK hP5 hD5 hS5 hl5 ih_12; grind [b2i]) ?_
          refine pt (D := D) (ci := 0) (v := .int (b2i (smk S P (i + 1) = true))) (ty := .boolean) (C := RX0) (T := TX0) (N := 13) (ws' := aS cy b P (fil (flow S P) F (i + 1)) N B O Sd Dv L rc re (frs S P (i + 1)) lo (b2i (smk S P (i + 1) = true)) ++ (pS cy a S)) hx hb hw iX0 tyX0 tyX0_ok nmX0 hown hK hP5 hD5 hS5 0 rfl rfl 6 (by decide) kw_1_117 (fun _ h9 => h9) rfl (by decide +kernel) (b2i_z _) (b2i_fits _) (Nat.le_of_ble_eq_true rfl) rfl dX0_sumFlows_138 (fun H6 locs6 hP6 hD6 hS6 => ?_)
          clear hP5 hD5 hS5 locs5 H5
          refine lv_iinc (v := nI (i + 1)) (lv' := [(2, .int (nI (i + 1))), (4, .int (if S (11 + 8 * i) = -1 then 8 * push S i else P (otN S i))), (3, .int (S (11 + 8 * i))), (0, .ref (b 0)), (1, .ref (a 0))]) hx hb dX0_sumFlows_141 hl5 (k := 2) rfl (nI_inc _) (by decide) rfl (fun ls6 hl6 => ?_)
          clear hl5 ls5
          refine lv_goto (tgt := 12) hx hb dX0_sumFlows_144 (by decide) ?_
          exact ih_12 (i + 1) (by first | omega | assumption | rfl | simp_all) (by (try dsimp only); omega) H6 locs6 ls6 hP6 hD6 hS6 (lv_sub hl6 [0, 3, 4] rfl)
        · refine lv_aload_n hx hb dX0_sumFlows_116 rfl (lv_at hl5 3 rfl) ?_
          refine va_get (D := D) (ci := 0) (v := .ref (b 2)) (C := RX0) (T := TX0) (N := 13) hx hb hw iX0 hown hK hP5 0 rfl rfl 1 (by decide) (hw _ kw_1_104) (fun _ h9 => h9) rfl dX0_sumFlows_117 ?_
          refine lv_iload_n hx hb dX0_sumFlows_120 rfl (lv_at hl5 2 rfl) ?_
          refine ald_i (f := fil (flow S P) F (i + 1)) hx hb hK hP5 2 0 rfl rfl i rfl (by first | omega | assumption) (by decide) dX0_sumFlows_121 ?_
          refine tp (show ((fil (flow S P) F (i + 1)) i) = flow S P i from fil_in (by omega)) ?_
          refine lv_if_lt (tgt := 137) hx hb dX0_sumFlows_122 (by decide) (fun c_122 => ?_) (fun c_122 => ?_)
          · refine lv_iconst (v := 0) hx hb dX0_sumFlows_137 (by decide) ?_
            refine tp (show (0) = b2i (smk S P (i + 1) = true) from by simp only [smk]; clear hx hb hml hown hr hlocks hw hsz hA hG hK hP5 hD5 hS5 hl5 ih_12; grind [b2i]) ?_
            refine pt (D := D) (ci := 0) (v := .int (b2i (smk S P (i + 1) = true))) (ty := .boolean) (C := RX0) (T := TX0) (N := 13) (ws' := aS cy b P (fil (flow S P) F (i + 1)) N B O Sd Dv L rc re (frs S P (i + 1)) lo (b2i (smk S P (i + 1) = true)) ++ (pS cy a S)) hx hb hw iX0 tyX0 tyX0_ok nmX0 hown hK hP5 hD5 hS5 0 rfl rfl 6 (by decide) kw_1_117 (fun _ h9 => h9) rfl (by decide +kernel) (b2i_z _) (b2i_fits _) (Nat.le_of_ble_eq_true rfl) rfl dX0_sumFlows_138 (fun H6 locs6 hP6 hD6 hS6 => ?_)
            clear hP5 hD5 hS5 locs5 H5
            refine lv_iinc (v := nI (i + 1)) (lv' := [(2, .int (nI (i + 1))), (4, .int (if S (11 + 8 * i) = -1 then 8 * push S i else P (otN S i))), (3, .int (S (11 + 8 * i))), (0, .ref (b 0)), (1, .ref (a 0))]) hx hb dX0_sumFlows_141 hl5 (k := 2) rfl (nI_inc _) (by decide) rfl (fun ls6 hl6 => ?_)
            clear hl5 ls5
            refine lv_goto (tgt := 12) hx hb dX0_sumFlows_144 (by decide) ?_
            exact ih_12 (i + 1) (by first | omega | assumption | rfl | simp_all) (by (try dsimp only); omega) H6 locs6 ls6 hP6 hD6 hS6 (lv_sub hl6 [0, 3, 4] rfl)
          · refine lv_aload_n hx hb dX0_sumFlows_125 rfl (lv_at hl5 4 rfl) ?_
            refine lv_iload_n hx hb dX0_sumFlows_126 rfl (lv_at hl5 2 rfl) ?_
            refine rV_i (wc := pS cy a S) (rest := [.ref (b 0)]) hx hb hml hown hw hG hK hP5 hS5 hA hl5 kc_X1_isOpenFire kw_3_79 [.int (nI i)] (c_X1_isOpenFire l D cy G H5.size a S i (by first | omega | assumption)) [15, 16, 17, 18, 19, 20, 21, 22, 23, 24] rfl 0 rfl rfl rfl rfl rfl (Nat.le_of_ble_eq_true rfl) ⟨Nat.le_of_ble_eq_true rfl, Nat.le_of_ble_eq_true rfl⟩ dX0_sumFlows_127 ⟨Nat.le_of_ble_eq_true rfl, Nat.le_of_ble_eq_true rfl⟩ (fun r_127 H6 locs6 hr_127 hP6 hS6 => ?_)
            have hD6 := hD5
            clear hP5 hD5 hS5 locs5 H5
            subst hr_127
            refine lb_eq (tgt := 137) hx hb dX0_sumFlows_130 (by decide) (fun c_130 => ?_) (fun c_130 => ?_)
            · refine lv_iconst (v := 0) hx hb dX0_sumFlows_137 (by decide) ?_
              refine tp (show (0) = b2i (smk S P (i + 1) = true) from by simp only [smk]; clear hx hb hml hown hr hlocks hw hsz hA hG hK hP6 hD6 hS6 hl5 ih_12; grind [b2i]) ?_
              refine pt (D := D) (ci := 0) (v := .int (b2i (smk S P (i + 1) = true))) (ty := .boolean) (C := RX0) (T := TX0) (N := 13) (ws' := aS cy b P (fil (flow S P) F (i + 1)) N B O Sd Dv L rc re (frs S P (i + 1)) lo (b2i (smk S P (i + 1) = true)) ++ (pS cy a S)) hx hb hw iX0 tyX0 tyX0_ok nmX0 hown hK hP6 hD6 hS6 0 rfl rfl 6 (by decide) kw_1_117 (fun _ h9 => h9) rfl (by decide +kernel) (b2i_z _) (b2i_fits _) (Nat.le_of_ble_eq_true rfl) rfl dX0_sumFlows_138 (fun H7 locs7 hP7 hD7 hS7 => ?_)
              clear hP6 hD6 hS6 locs6 H6
              refine lv_iinc (v := nI (i + 1)) (lv' := [(2, .int (nI (i + 1))), (4, .int (if S (11 + 8 * i) = -1 then 8 * push S i else P (otN S i))), (3, .int (S (11 + 8 * i))), (0, .ref (b 0)), (1, .ref (a 0))]) hx hb dX0_sumFlows_141 hl5 (k := 2) rfl (nI_inc _) (by decide) rfl (fun ls6 hl6 => ?_)
              clear hl5 ls5
              refine lv_goto (tgt := 12) hx hb dX0_sumFlows_144 (by decide) ?_
              exact ih_12 (i + 1) (by first | omega | assumption | rfl | simp_all) (by (try dsimp only); omega) H7 locs7 ls6 hP7 hD7 hS7 (lv_sub hl6 [0, 3, 4] rfl)
            · refine lv_iconst (v := 1) hx hb dX0_sumFlows_133 (by decide) ?_
              refine lv_goto (tgt := 138) hx hb dX0_sumFlows_134 (by decide) ?_
              refine tp (show (1) = b2i (smk S P (i + 1) = true) from by simp only [smk]; clear hx hb hml hown hr hlocks hw hsz hA hG hK hP6 hD6 hS6 hl5 ih_12; grind [b2i]) ?_
              refine pt (D := D) (ci := 0) (v := .int (b2i (smk S P (i + 1) = true))) (ty := .boolean) (C := RX0) (T := TX0) (N := 13) (ws' := aS cy b P (fil (flow S P) F (i + 1)) N B O Sd Dv L rc re (frs S P (i + 1)) lo (b2i (smk S P (i + 1) = true)) ++ (pS cy a S)) hx hb hw iX0 tyX0 tyX0_ok nmX0 hown hK hP6 hD6 hS6 0 rfl rfl 6 (by decide) kw_1_117 (fun _ h9 => h9) rfl (by decide +kernel) (b2i_z _) (b2i_fits _) (Nat.le_of_ble_eq_true rfl) rfl dX0_sumFlows_138 (fun H7 locs7 hP7 hD7 hS7 => ?_)
              clear hP6 hD6 hS6 locs6 H6
              refine lv_iinc (v := nI (i + 1)) (lv' := [(2, .int (nI (i + 1))), (4, .int (if S (11 + 8 * i) = -1 then 8 * push S i else P (otN S i))), (3, .int (S (11 + 8 * i))), (0, .ref (b 0)), (1, .ref (a 0))]) hx hb dX0_sumFlows_141 hl5 (k := 2) rfl (nI_inc _) (by decide) rfl (fun ls6 hl6 => ?_)
              clear hl5 ls5
              refine lv_goto (tgt := 12) hx hb dX0_sumFlows_144 (by decide) ?_
              exact ih_12 (i + 1) (by first | omega | assumption | rfl | simp_all) (by (try dsimp only); omega) H7 locs7 ls6 hP7 hD7 hS7 (lv_sub hl6 [0, 3, 4] rfl)
      refine lv_iload_n hx hb dX0_sumFlows_79 rfl (lv_at hl4 1 rfl) ?_
      refine lv_iconst (v := (-1)) hx hb dX0_sumFlows_80 (by decide) ?_
      refine lv_icmp_ne (tgt := 108) hx hb dX0_sumFlows_81 (by decide) (fun c_81 => ?_) (fun c_81 => ?_)
      · have hq9 : (aS cy b P (fil (flow S P) F (i + 1)) N B O Sd Dv L rc re (frs S P i) lo (b2i (smk S P i = true)) ++ (pS cy a S)) = (aS cy b P (fil (flow S P) F (i + 1)) N B O Sd Dv L rc re (frs S P (i + 1)) lo (b2i (smk S P i = true)) ++ (pS cy a S)) := congrArg (fun z9 => aS cy b P (fil (flow S P) F (i + 1)) N B O Sd Dv L rc re z9 lo (b2i (smk S P i = true)) ++ (pS cy a S)) (show (frs S P i) = (frs S P (i + 1)) from by clear hx hb hml hown hr hlocks hw hsz hA hG hK hP4 hD4 hS4 hl4 ih_12 J_108; grind [frs])
        replace hP4 := (congrArg (fun z9 => va_P D vwCl z9 _) hq9).mp hP4
        replace hD4 := (congrArg (fun z9 => va_D _ z9) hq9).mp hD4
        clear hq9
        exact J_108 () trivial H4 locs4 ls4 hP4 hD4 hS4 (lv_sub hl4 [0, 1, 2, 3, 4] rfl)
      · refine lv_aload_n hx hb dX0_sumFlows_84 rfl (lv_at hl4 3 rfl) ?_
        refine va_get (D := D) (ci := 0) (v := .ref (b 2)) (C := RX0) (T := TX0) (N := 13) hx hb hw iX0 hown hK hP4 0 rfl rfl 1 (by decide) (hw _ kw_1_104) (fun _ h9 => h9) rfl dX0_sumFlows_85 ?_
        refine lv_iload_n hx hb dX0_sumFlows_88 rfl (lv_at hl4 2 rfl) ?_
        refine ald_i (f := fil (flow S P) F (i + 1)) hx hb hK hP4 2 0 rfl rfl i rfl (by first | omega | assumption) (by decide) dX0_sumFlows_89 ?_
        refine tp (show ((fil (flow S P) F (i + 1)) i) = flow S P i from fil_in (by omega)) ?_
        refine lv_if_le (tgt := 108) hx hb dX0_sumFlows_90 (by decide) (fun c_90 => ?_) (fun c_90 => ?_)
        · have hq9 : (aS cy b P (fil (flow S P) F (i + 1)) N B O Sd Dv L rc re (frs S P i) lo (b2i (smk S P i = true)) ++ (pS cy a S)) = (aS cy b P (fil (flow S P) F (i + 1)) N B O Sd Dv L rc re (frs S P (i + 1)) lo (b2i (smk S P i = true)) ++ (pS cy a S)) := congrArg (fun z9 => aS cy b P (fil (flow S P) F (i + 1)) N B O Sd Dv L rc re z9 lo (b2i (smk S P i = true)) ++ (pS cy a S)) (show (frs S P i) = (frs S P (i + 1)) from by clear hx hb hml hown hr hlocks hw hsz hA hG hK hP4 hD4 hS4 hl4 ih_12 J_108; grind [frs])
          replace hP4 := (congrArg (fun z9 => va_P D vwCl z9 _) hq9).mp hP4
          replace hD4 := (congrArg (fun z9 => va_D _ z9) hq9).mp hD4
          clear hq9
          exact J_108 () trivial H4 locs4 ls4 hP4 hD4 hS4 (lv_sub hl4 [0, 1, 2, 3, 4] rfl)
        · refine lv_aload_n hx hb dX0_sumFlows_93 rfl (lv_at hl4 3 rfl) ?_
          refine lv_dup hx hb dX0_sumFlows_94 rfl ?_
          refine va_get (D := D) (ci := 0) (v := .int (frs S P i)) (C := RX0) (T := TX0) (N := 13) hx hb hw iX0 hown hK hP4 0 rfl rfl 4 (by decide) (hw _ kw_1_111) (fun _ h9 => h9) rfl dX0_sumFlows_95 ?_
          refine lv_aload_n hx hb dX0_sumFlows_98 rfl (lv_at hl4 3 rfl) ?_
          refine va_get (D := D) (ci := 0) (v := .ref (b 2)) (C := RX0) (T := TX0) (N := 13) hx hb hw iX0 hown hK hP4 0 rfl rfl 1 (by decide) (hw _ kw_1_104) (fun _ h9 => h9) rfl dX0_sumFlows_99 ?_
          refine lv_iload_n hx hb dX0_sumFlows_102 rfl (lv_at hl4 2 rfl) ?_
          refine ald_i (f := fil (flow S P) F (i + 1)) hx hb hK hP4 2 0 rfl rfl i rfl (by first | omega | assumption) (by decide) dX0_sumFlows_103 ?_
          refine tp (show ((fil (flow S P) F (i + 1)) i) = flow S P i from fil_in (by omega)) ?_
          refine lv_iadd hx hb dX0_sumFlows_104 ?_
          refine pt (D := D) (ci := 0) (v := .int ((frs S P i) + (flow S P i))) (ty := .int) (C := RX0) (T := TX0) (N := 13) (ws' := aS cy b P (fil (flow S P) F (i + 1)) N B O Sd Dv L rc re ((frs S P i) + (flow S P i)) lo (b2i (smk S P i = true)) ++ (pS cy a S)) hx hb hw iX0 tyX0 tyX0_ok nmX0 hown hK hP4 hD4 hS4 0 rfl rfl 4 (by decide) kw_1_111 (fun _ h9 => h9) rfl (by decide +kernel) rfl rfl (Nat.le_of_ble_eq_true rfl) rfl dX0_sumFlows_105 (fun H5 locs5 hP5 hD5 hS5 => ?_)
          clear hP4 hD4 hS4 locs4 H4
          have hq9 : (aS cy b P (fil (flow S P) F (i + 1)) N B O Sd Dv L rc re ((frs S P i) + (flow S P i)) lo (b2i (smk S P i = true)) ++ (pS cy a S)) = (aS cy b P (fil (flow S P) F (i + 1)) N B O Sd Dv L rc re (frs S P (i + 1)) lo (b2i (smk S P i = true)) ++ (pS cy a S)) := congrArg (fun z9 => aS cy b P (fil (flow S P) F (i + 1)) N B O Sd Dv L rc re z9 lo (b2i (smk S P i = true)) ++ (pS cy a S)) (show ((frs S P i) + (flow S P i)) = (frs S P (i + 1)) from by clear hx hb hml hown hr hlocks hw hsz hA hG hK hP5 hD5 hS5 hl4 ih_12 J_108; grind [frs])
          replace hP5 := (congrArg (fun z9 => va_P D vwCl z9 _) hq9).mp hP5
          replace hD5 := (congrArg (fun z9 => va_D _ z9) hq9).mp hD5
          clear hq9
          exact J_108 () trivial H5 locs5 ls4 hP5 hD5 hS5 (lv_sub hl4 [0, 1, 2, 3, 4] rfl)
    · refine lv_aload_n hx hb dX0_sumFlows_32 rfl (lv_at hl3 2 rfl) ?_
      refine va_get (D := D) (ci := 0) (v := .ref (b 5)) (C := RX0) (T := TX0) (N := 13) hx hb hw iX0 hown hK hP3 0 rfl rfl 9 (by decide) (hw _ kw_1_122) (fun _ h9 => h9) rfl dX0_sumFlows_33 ?_
      refine lv_iload_n hx hb dX0_sumFlows_36 rfl (lv_at hl3 1 rfl) ?_
      refine ald_i (f := O) hx hb hK hP3 5 0 rfl rfl i rfl (by first | omega | assumption) (by decide) dX0_sumFlows_37 ?_
      refine tp (show (O i) = 8 * push S i from hO i c_17) ?_
      refine lv_goto (tgt := 47) hx hb dX0_sumFlows_38 (by decide) ?_
      refine tp (show (8 * push S i) = (if S (11 + 8 * i) = -1 then 8 * push S i else P (otN S i)) from by simp [c_29]) ?_
      refine lv_istore (lv' := [(4, .int (if S (11 + 8 * i) = -1 then 8 * push S i else P (otN S i))), (3, .int (S (11 + 8 * i))), (2, .int (nI i)), (0, .ref (b 0)), (1, .ref (a 0))]) hx hb dX0_sumFlows_47 hl3 (by decide) rfl (fun ls4 hl4 => ?_)
      clear hl3 ls3
      refine lv_aload_n hx hb dX0_sumFlows_49 rfl (lv_at hl4 3 rfl) ?_
      refine va_get (D := D) (ci := 0) (v := .ref (b 2)) (C := RX0) (T := TX0) (N := 13) hx hb hw iX0 hown hK hP3 0 rfl rfl 1 (by decide) (hw _ kw_1_104) (fun _ h9 => h9) rfl dX0_sumFlows_50 ?_
      refine lv_iload_n hx hb dX0_sumFlows_53 rfl (lv_at hl4 2 rfl) ?_
      refine lv_aload_n hx hb dX0_sumFlows_54 rfl (lv_at hl4 3 rfl) ?_
      refine va_get (D := D) (ci := 0) (v := .ref (b 4)) (C := RX0) (T := TX0) (N := 13) hx hb hw iX0 hown hK hP3 0 rfl rfl 8 (by decide) (hw _ kw_1_121) (fun _ h9 => h9) rfl dX0_sumFlows_55 ?_
      refine lv_iload_n hx hb dX0_sumFlows_58 rfl (lv_at hl4 2 rfl) ?_
      refine ald_i (f := B) hx hb hK hP3 4 0 rfl rfl i rfl (by first | omega | assumption) (by decide) dX0_sumFlows_59 ?_
      refine tp (show (B i) = breadth S i from hB i c_17) ?_
      refine lv_iload hx hb dX0_sumFlows_60 (lv_at hl4 0 rfl) ?_
      refine lv_aload_n hx hb dX0_sumFlows_62 rfl (lv_at hl4 3 rfl) ?_
      refine va_get (D := D) (ci := 0) (v := .ref (b 1)) (C := RX0) (T := TX0) (N := 13) hx hb hw iX0 hown hK hP3 0 rfl rfl 0 (by decide) (hw _ kw_1_102) (fun _ h9 => h9) rfl dX0_sumFlows_63 ?_
      refine lv_aload_n hx hb dX0_sumFlows_66 rfl (lv_at hl4 4 rfl) ?_
      refine va_get (D := D) (ci := 1) (v := .ref (a 2)) (C := RX1) (T := TX1) (N := 12) hx hb hw iX1 hown hK hP3 15 rfl rfl 3 (by decide) (hw _ kw_1_42) (fun _ h9 => h9) rfl dX0_sumFlows_67 ?_
      refine lv_iload_n hx hb dX0_sumFlows_70 rfl (lv_at hl4 2 rfl) ?_
      refine ald_i (f := fun g => S (10 + 8 * g)) hx hb hK hP3 17 0 rfl rfl i rfl (by first | omega | assumption) (by decide) dX0_sumFlows_71 ?_
      refine tp (show (S (10 + 8 * i)) = nI (rmN S i) from wf_rm wf c_17) ?_
      refine ald_i (f := P) hx hb hK hP3 1 0 rfl rfl (rmN S i) rfl (by first | omega | assumption) (by decide) dX0_sumFlows_72 ?_
      refine lv_isub hx hb dX0_sumFlows_73 ?_
      refine lv_imul hx hb dX0_sumFlows_74 ?_
      refine lv_bipush (v := 80) hx hb dX0_sumFlows_75 (by decide) ?_
      refine lv_idiv hx hb dX0_sumFlows_77 (by decide) ?_
      refine tp (show (((breadth S i) * ((if S (11 + 8 * i) = -1 then 8 * push S i else P (otN S i)) - (P (rmN S i)))) / 80) = flow S P i from rfl) ?_
      refine ast_i (f := fil (flow S P) F i) (ws' := aS cy b P (upd (fil (flow S P) F i) i (flow S P i)) N B O Sd Dv L rc re (frs S P i) lo (b2i (smk S P i = true)) ++ (pS cy a S)) hx hb hK hP3 hD3 hS3 2 0 rfl rfl i rfl (by first | omega | assumption) (by decide) rfl dX0_sumFlows_78 (fun H4 locs4 hP4 hD4 hS4 => ?_)
      clear hP3 hD3 hS3 locs3 H3
      have hq9 : (aS cy b P (upd (fil (flow S P) F i) i (flow S P i)) N B O Sd Dv L rc re (frs S P i) lo (b2i (smk S P i = true)) ++ (pS cy a S)) = (aS cy b P (fil (flow S P) F (i + 1)) N B O Sd Dv L rc re (frs S P i) lo (b2i (smk S P i = true)) ++ (pS cy a S)) := congrArg (fun z9 => aS cy b P z9 N B O Sd Dv L rc re (frs S P i) lo (b2i (smk S P i = true)) ++ (pS cy a S)) (show (upd (fil (flow S P) F i) i (flow S P i)) = (fil (flow S P) F (i + 1)) from fil_s _ F i)
      replace hP4 := (congrArg (fun z9 => va_P D vwCl z9 _) hq9).mp hP4
      replace hD4 := (congrArg (fun z9 => va_D _ z9) hq9).mp hD4
      clear hq9
      refine wjn (ι := Unit) (A := (va_A (aS cy b P F N B O Sd Dv L rc re fr lo sm ++ (pS cy a S)) sz)) (nL := 5) (D := D) (fun x9 => True) (fun x9 => aS cy b P (fil (flow S P) F (i + 1)) N B O Sd Dv L rc re (frs S P (i + 1)) lo (b2i (smk S P i = true)) ++ (pS cy a S)) (fun x9 => [(4, .int (if S (11 + 8 * i) = -1 then 8 * push S i else P (otN S i))), (3, .int (S (11 + 8 * i))), (2, .int (nI i)), (0, .ref (b 0)), (1, .ref (a 0))]) (fun x9 => []) 108 ?_ (fun J_108 => ?_)
      · intro x9 hI H5 locs5 ls5 hP5 hD5 hS5 hl5
        replace hP5 : va_P D vwCl (aS cy b P (fil (flow S P) F (i + 1)) N B O Sd Dv L rc re (frs S P (i + 1)) lo (b2i (smk S P i = true)) ++ (pS cy a S)) H5 := hP5
        replace hD5 : va_D (va_A _ sz) (aS cy b P (fil (flow S P) F (i + 1)) N B O Sd Dv L rc re (frs S P (i + 1)) lo (b2i (smk S P i = true)) ++ (pS cy a S)) := hD5
        replace hl5 : lv_has ls5 5 [(4, .int (if S (11 + 8 * i) = -1 then 8 * push S i else P (otN S i))), (3, .int (S (11 + 8 * i))), (2, .int (nI i)), (0, .ref (b 0)), (1, .ref (a 0))] := hl5
        show W p l e _ s m _ below meth c _ _ _ _ _ (F0 m 108 ls5 [])
        refine lv_aload_n hx hb dX0_sumFlows_108 rfl (lv_at hl5 3 rfl) ?_
        refine lv_aload_n hx hb dX0_sumFlows_109 rfl (lv_at hl5 3 rfl) ?_
        refine va_get (D := D) (ci := 0) (v := .int (b2i (smk S P i = true))) (C := RX0) (T := TX0) (N := 13) hx hb hw iX0 hown hK hP5 0 rfl rfl 6 (by decide) (hw _ kw_1_117) (fun _ h9 => h9) rfl dX0_sumFlows_110 ?_
        refine lb_ne (tgt := 133) hx hb dX0_sumFlows_113 (by decide) (fun c_113 => ?_) (fun c_113 => ?_)
        · refine lv_iconst (v := 1) hx hb dX0_sumFlows_133 (by decide) ?_
          refine lv_goto (tgt := 138) hx hb dX0_sumFlows_134 (by decide) ?_
          refine tp (show (1) = b2i (smk S P (i + 1) = true) from by simp only [smk]; clear hx hb hml hown hr hlocks hw hsz hA hG hK hP5 hD5 hS5 hl5 ih_12; grind [b2i]) ?_
          refine pt (D := D) (ci := 0) (v := .int (b2i (smk S P (i + 1) = true))) (ty := .boolean) (C := RX0) (T := TX0) (N := 13) (ws' := aS cy b P (fil (flow S P) F (i + 1)) N B O Sd Dv L rc re (frs S P (i + 1)) lo (b2i (smk S P (i + 1) = true)) ++ (pS cy a S)) hx hb hw iX0 tyX0 tyX0_ok nmX0 hown hK hP5 hD5 hS5 0 rfl rfl 6 (by decide) kw_1_117 (fun _ h9 => h9) rfl (by decide +kernel) (b2i_z _) (b2i_fits _) (Nat.le_of_ble_eq_true rfl) rfl dX0_sumFlows_138 (fun H6 locs6 hP6 hD6 hS6 => ?_)
          clear hP5 hD5 hS5 locs5 H5
          refine lv_iinc (v := nI (i + 1)) (lv' := [(2, .int (nI (i + 1))), (4, .int (if S (11 + 8 * i) = -1 then 8 * push S i else P (otN S i))), (3, .int (S (11 + 8 * i))), (0, .ref (b 0)), (1, .ref (a 0))]) hx hb dX0_sumFlows_141 hl5 (k := 2) rfl (nI_inc _) (by decide) rfl (fun ls6 hl6 => ?_)
          clear hl5 ls5
          refine lv_goto (tgt := 12) hx hb dX0_sumFlows_144 (by decide) ?_
          exact ih_12 (i + 1) (by first | omega | assumption | rfl | simp_all) (by (try dsimp only); omega) H6 locs6 ls6 hP6 hD6 hS6 (lv_sub hl6 [0, 3, 4] rfl)
        · refine lv_aload_n hx hb dX0_sumFlows_116 rfl (lv_at hl5 3 rfl) ?_
          refine va_get (D := D) (ci := 0) (v := .ref (b 2)) (C := RX0) (T := TX0) (N := 13) hx hb hw iX0 hown hK hP5 0 rfl rfl 1 (by decide) (hw _ kw_1_104) (fun _ h9 => h9) rfl dX0_sumFlows_117 ?_
          refine lv_iload_n hx hb dX0_sumFlows_120 rfl (lv_at hl5 2 rfl) ?_
          refine ald_i (f := fil (flow S P) F (i + 1)) hx hb hK hP5 2 0 rfl rfl i rfl (by first | omega | assumption) (by decide) dX0_sumFlows_121 ?_
          refine tp (show ((fil (flow S P) F (i + 1)) i) = flow S P i from fil_in (by omega)) ?_
          refine lv_if_lt (tgt := 137) hx hb dX0_sumFlows_122 (by decide) (fun c_122 => ?_) (fun c_122 => ?_)
          · refine lv_iconst (v := 0) hx hb dX0_sumFlows_137 (by decide) ?_
            refine tp (show (0) = b2i (smk S P (i + 1) = true) from by simp only [smk]; clear hx hb hml hown hr hlocks hw hsz hA hG hK hP5 hD5 hS5 hl5 ih_12; grind [b2i]) ?_
            refine pt (D := D) (ci := 0) (v := .int (b2i (smk S P (i + 1) = true))) (ty := .boolean) (C := RX0) (T := TX0) (N := 13) (ws' := aS cy b P (fil (flow S P) F (i + 1)) N B O Sd Dv L rc re (frs S P (i + 1)) lo (b2i (smk S P (i + 1) = true)) ++ (pS cy a S)) hx hb hw iX0 tyX0 tyX0_ok nmX0 hown hK hP5 hD5 hS5 0 rfl rfl 6 (by decide) kw_1_117 (fun _ h9 => h9) rfl (by decide +kernel) (b2i_z _) (b2i_fits _) (Nat.le_of_ble_eq_true rfl) rfl dX0_sumFlows_138 (fun H6 locs6 hP6 hD6 hS6 => ?_)
            clear hP5 hD5 hS5 locs5 H5
            refine lv_iinc (v := nI (i + 1)) (lv' := [(2, .int (nI (i + 1))), (4, .int (if S (11 + 8 * i) = -1 then 8 * push S i else P (otN S i))), (3, .int (S (11 + 8 * i))), (0, .ref (b 0)), (1, .ref (a 0))]) hx hb dX0_sumFlows_141 hl5 (k := 2) rfl (nI_inc _) (by decide) rfl (fun ls6 hl6 => ?_)
            clear hl5 ls5
            refine lv_goto (tgt := 12) hx hb dX0_sumFlows_144 (by decide) ?_
            exact ih_12 (i + 1) (by first | omega | assumption | rfl | simp_all) (by (try dsimp only); omega) H6 locs6 ls6 hP6 hD6 hS6 (lv_sub hl6 [0, 3, 4] rfl)
          · refine lv_aload_n hx hb dX0_sumFlows_125 rfl (lv_at hl5 4 rfl) ?_
            refine lv_iload_n hx hb dX0_sumFlows_126 rfl (lv_at hl5 2 rfl) ?_
            refine rV_i (wc := pS cy a S) (rest := [.ref (b 0)]) hx hb hml hown hw hG hK hP5 hS5 hA hl5 kc_X1_isOpenFire kw_3_79 [.int (nI i)] (c_X1_isOpenFire l D cy G H5.size a S i (by first | omega | assumption)) [15, 16, 17, 18, 19, 20, 21, 22, 23, 24] rfl 0 rfl rfl rfl rfl rfl (Nat.le_of_ble_eq_true rfl) ⟨Nat.le_of_ble_eq_true rfl, Nat.le_of_ble_eq_true rfl⟩ dX0_sumFlows_127 ⟨Nat.le_of_ble_eq_true rfl, Nat.le_of_ble_eq_true rfl⟩ (fun r_127 H6 locs6 hr_127 hP6 hS6 => ?_)
            have hD6 := hD5
            clear hP5 hD5 hS5 locs5 H5
            subst hr_127
            refine lb_eq (tgt := 137) hx hb dX0_sumFlows_130 (by decide) (fun c_130 => ?_) (fun c_130 => ?_)
            · refine lv_iconst (v := 0) hx hb dX0_sumFlows_137 (by decide) ?_
              refine tp (show (0) = b2i (smk S P (i + 1) = true) from by simp only [smk]; clear hx hb hml hown hr hlocks hw hsz hA hG hK hP6 hD6 hS6 hl5 ih_12; grind [b2i]) ?_
              refine pt (D := D) (ci := 0) (v := .int (b2i (smk S P (i + 1) = true))) (ty := .boolean) (C := RX0) (T := TX0) (N := 13) (ws' := aS cy b P (fil (flow S P) F (i + 1)) N B O Sd Dv L rc re (frs S P (i + 1)) lo (b2i (smk S P (i + 1) = true)) ++ (pS cy a S)) hx hb hw iX0 tyX0 tyX0_ok nmX0 hown hK hP6 hD6 hS6 0 rfl rfl 6 (by decide) kw_1_117 (fun _ h9 => h9) rfl (by decide +kernel) (b2i_z _) (b2i_fits _) (Nat.le_of_ble_eq_true rfl) rfl dX0_sumFlows_138 (fun H7 locs7 hP7 hD7 hS7 => ?_)
              clear hP6 hD6 hS6 locs6 H6
              refine lv_iinc (v := nI (i + 1)) (lv' := [(2, .int (nI (i + 1))), (4, .int (if S (11 + 8 * i) = -1 then 8 * push S i else P (otN S i))), (3, .int (S (11 + 8 * i))), (0, .ref (b 0)), (1, .ref (a 0))]) hx hb dX0_sumFlows_141 hl5 (k := 2) rfl (nI_inc _) (by decide) rfl (fun ls6 hl6 => ?_)
              clear hl5 ls5
              refine lv_goto (tgt := 12) hx hb dX0_sumFlows_144 (by decide) ?_
              exact ih_12 (i + 1) (by first | omega | assumption | rfl | simp_all) (by (try dsimp only); omega) H7 locs7 ls6 hP7 hD7 hS7 (lv_sub hl6 [0, 3, 4] rfl)
            · refine lv_iconst (v := 1) hx hb dX0_sumFlows_133 (by decide) ?_
              refine lv_goto (tgt := 138) hx hb dX0_sumFlows_134 (by decide) ?_
              refine tp (show (1) = b2i (smk S P (i + 1) = true) from by simp only [smk]; clear hx hb hml hown hr hlocks hw hsz hA hG hK hP6 hD6 hS6 hl5 ih_12; grind [b2i]) ?_
              refine pt (D := D) (ci := 0) (v := .int (b2i (smk S P (i + 1) = true))) (ty := .boolean) (C := RX0) (T := TX0) (N := 13) (ws' := aS cy b P (fil (flow S P) F (i + 1)) N B O Sd Dv L rc re (frs S P (i + 1)) lo (b2i (smk S P (i + 1) = true)) ++ (pS cy a S)) hx hb hw iX0 tyX0 tyX0_ok nmX0 hown hK hP6 hD6 hS6 0 rfl rfl 6 (by decide) kw_1_117 (fun _ h9 => h9) rfl (by decide +kernel) (b2i_z _) (b2i_fits _) (Nat.le_of_ble_eq_true rfl) rfl dX0_sumFlows_138 (fun H7 locs7 hP7 hD7 hS7 => ?_)
              clear hP6 hD6 hS6 locs6 H6
              refine lv_iinc (v := nI (i + 1)) (lv' := [(2, .int (nI (i + 1))), (4, .int (if S (11 + 8 * i) = -1 then 8 * push S i else P (otN S i))), (3, .int (S (11 + 8 * i))), (0, .ref (b 0)), (1, .ref (a 0))]) hx hb dX0_sumFlows_141 hl5 (k := 2) rfl (nI_inc _) (by decide) rfl (fun ls6 hl6 => ?_)
              clear hl5 ls5
              refine lv_goto (tgt := 12) hx hb dX0_sumFlows_144 (by decide) ?_
              exact ih_12 (i + 1) (by first | omega | assumption | rfl | simp_all) (by (try dsimp only); omega) H7 locs7 ls6 hP7 hD7 hS7 (lv_sub hl6 [0, 3, 4] rfl)
      refine lv_iload_n hx hb dX0_sumFlows_79 rfl (lv_at hl4 1 rfl) ?_
      refine lv_iconst (v := (-1)) hx hb dX0_sumFlows_80 (by decide) ?_
      refine lv_icmp_ne (tgt := 108) hx hb dX0_sumFlows_81 (by decide) (fun c_81 => ?_) (fun c_81 => ?_)
      · have hq9 : (aS cy b P (fil (flow S P) F (i + 1)) N B O Sd Dv L rc re (frs S P i) lo (b2i (smk S P i = true)) ++ (pS cy a S)) = (aS cy b P (fil (flow S P) F (i + 1)) N B O Sd Dv L rc re (frs S P (i + 1)) lo (b2i (smk S P i = true)) ++ (pS cy a S)) := congrArg (fun z9 => aS cy b P (fil (flow S P) F (i + 1)) N B O Sd Dv L rc re z9 lo (b2i (smk S P i = true)) ++ (pS cy a S)) (show (frs S P i) = (frs S P (i + 1)) from by clear hx hb hml hown hr hlocks hw hsz hA hG hK hP4 hD4 hS4 hl4 ih_12 J_108; grind [frs])
        replace hP4 := (congrArg (fun z9 => va_P D vwCl z9 _) hq9).mp hP4
        replace hD4 := (congrArg (fun z9 => va_D _ z9) hq9).mp hD4
        clear hq9
        exact J_108 () trivial H4 locs4 ls4 hP4 hD4 hS4 (lv_sub hl4 [0, 1, 2, 3, 4] rfl)
      · refine lv_aload_n hx hb dX0_sumFlows_84 rfl (lv_at hl4 3 rfl) ?_
        refine va_get (D := D) (ci := 0) (v := .ref (b 2)) (C := RX0) (T := TX0) (N := 13) hx hb hw iX0 hown hK hP4 0 rfl rfl 1 (by decide) (hw _ kw_1_104) (fun _ h9 => h9) rfl dX0_sumFlows_85 ?_
        refine lv_iload_n hx hb dX0_sumFlows_88 rfl (lv_at hl4 2 rfl) ?_
        refine ald_i (f := fil (flow S P) F (i + 1)) hx hb hK hP4 2 0 rfl rfl i rfl (by first | omega | assumption) (by decide) dX0_sumFlows_89 ?_
        refine tp (show ((fil (flow S P) F (i + 1)) i) = flow S P i from fil_in (by omega)) ?_
        refine lv_if_le (tgt := 108) hx hb dX0_sumFlows_90 (by decide) (fun c_90 => ?_) (fun c_90 => ?_)
        · have hq9 : (aS cy b P (fil (flow S P) F (i + 1)) N B O Sd Dv L rc re (frs S P i) lo (b2i (smk S P i = true)) ++ (pS cy a S)) = (aS cy b P (fil (flow S P) F (i + 1)) N B O Sd Dv L rc re (frs S P (i + 1)) lo (b2i (smk S P i = true)) ++ (pS cy a S)) := congrArg (fun z9 => aS cy b P (fil (flow S P) F (i + 1)) N B O Sd Dv L rc re z9 lo (b2i (smk S P i = true)) ++ (pS cy a S)) (show (frs S P i) = (frs S P (i + 1)) from by clear hx hb hml hown hr hlocks hw hsz hA hG hK hP4 hD4 hS4 hl4 ih_12 J_108; grind [frs])
          replace hP4 := (congrArg (fun z9 => va_P D vwCl z9 _) hq9).mp hP4
          replace hD4 := (congrArg (fun z9 => va_D _ z9) hq9).mp hD4
          clear hq9
          exact J_108 () trivial H4 locs4 ls4 hP4 hD4 hS4 (lv_sub hl4 [0, 1, 2, 3, 4] rfl)
        · refine lv_aload_n hx hb dX0_sumFlows_93 rfl (lv_at hl4 3 rfl) ?_
          refine lv_dup hx hb dX0_sumFlows_94 rfl ?_
          refine va_get (D := D) (ci := 0) (v := .int (frs S P i)) (C := RX0) (T := TX0) (N := 13) hx hb hw iX0 hown hK hP4 0 rfl rfl 4 (by decide) (hw _ kw_1_111) (fun _ h9 => h9) rfl dX0_sumFlows_95 ?_
          refine lv_aload_n hx hb dX0_sumFlows_98 rfl (lv_at hl4 3 rfl) ?_
          refine va_get (D := D) (ci := 0) (v := .ref (b 2)) (C := RX0) (T := TX0) (N := 13) hx hb hw iX0 hown hK hP4 0 rfl rfl 1 (by decide) (hw _ kw_1_104) (fun _ h9 => h9) rfl dX0_sumFlows_99 ?_
          refine lv_iload_n hx hb dX0_sumFlows_102 rfl (lv_at hl4 2 rfl) ?_
          refine ald_i (f := fil (flow S P) F (i + 1)) hx hb hK hP4 2 0 rfl rfl i rfl (by first | omega | assumption) (by decide) dX0_sumFlows_103 ?_
          refine tp (show ((fil (flow S P) F (i + 1)) i) = flow S P i from fil_in (by omega)) ?_
          refine lv_iadd hx hb dX0_sumFlows_104 ?_
          refine pt (D := D) (ci := 0) (v := .int ((frs S P i) + (flow S P i))) (ty := .int) (C := RX0) (T := TX0) (N := 13) (ws' := aS cy b P (fil (flow S P) F (i + 1)) N B O Sd Dv L rc re ((frs S P i) + (flow S P i)) lo (b2i (smk S P i = true)) ++ (pS cy a S)) hx hb hw iX0 tyX0 tyX0_ok nmX0 hown hK hP4 hD4 hS4 0 rfl rfl 4 (by decide) kw_1_111 (fun _ h9 => h9) rfl (by decide +kernel) rfl rfl (Nat.le_of_ble_eq_true rfl) rfl dX0_sumFlows_105 (fun H5 locs5 hP5 hD5 hS5 => ?_)
          clear hP4 hD4 hS4 locs4 H4
          have hq9 : (aS cy b P (fil (flow S P) F (i + 1)) N B O Sd Dv L rc re ((frs S P i) + (flow S P i)) lo (b2i (smk S P i = true)) ++ (pS cy a S)) = (aS cy b P (fil (flow S P) F (i + 1)) N B O Sd Dv L rc re (frs S P (i + 1)) lo (b2i (smk S P i = true)) ++ (pS cy a S)) := congrArg (fun z9 => aS cy b P (fil (flow S P) F (i + 1)) N B O Sd Dv L rc re z9 lo (b2i (smk S P i = true)) ++ (pS cy a S)) (show ((frs S P i) + (flow S P i)) = (frs S P (i + 1)) from by clear hx hb hml hown hr hlocks hw hsz hA hG hK hP5 hD5 hS5 hl4 ih_12 J_108; grind [frs])
          replace hP5 := (congrArg (fun z9 => va_P D vwCl z9 _) hq9).mp hP5
          replace hD5 := (congrArg (fun z9 => va_D _ z9) hq9).mp hD5
          clear hq9
          exact J_108 () trivial H5 locs5 ls4 hP5 hD5 hS5 (lv_sub hl4 [0, 1, 2, 3, 4] rfl)

theorem kc_X0_settle : kV yX0_settle cX0_settle 2 none 1 := ⟨kw_3_53, kw_3_54, kw_1_3, kw_3_55, by decide, by decide, by decide +kernel⟩
set_option maxHeartbeats 4000000 in
set_option maxRecDepth 100000 in
theorem c_X0_settle (l : Launch) (D : va_G) (cy : Nat → ClassId) (G : Nat → Nat) (sz : Nat) (b : Nat → Nat) (P : Nat → Int32) (F : Nat → Int32) (N : Nat → Int32) (B : Nat → Int32) (O : Nat → Int32) (Sd : Nat → Int32) (Dv : Nat → Int32) (L : Nat → Nat → Int32) (rc : Int32) (re : Int32) (fr : Int32) (lo : Int32) (sm : Int32) (a : Nat → Nat) (S : Nat → Int32) (wf : wf S) : Met l yX0_settle (wm yX0_settle cX0_settle 2 none) { frames := 4, cells := 0, slots := 0, locals := 88 } (va_Pc [.ref (b 0), .ref (a 0)] (pr D (TY cy) G (aS cy b P F N B O Sd Dv L rc re fr lo sm ++ (pS cy a S)) sz)) (va_Qv (fun (u : (Nat → Int32) × (Nat → Int32) × (Nat → Int32) × (Nat → Int32) × (Nat → Int32) × (Nat → Int32) × (Nat → Nat → Int32)) => ∀ g, g < gcN S → u.1 g = flow S (PR S) g) (fun (u : (Nat → Int32) × (Nat → Int32) × (Nat → Int32) × (Nat → Int32) × (Nat → Int32) × (Nat → Int32) × (Nat → Nat → Int32)) t => po D (va_A (aS cy b P F N B O Sd Dv L rc re fr lo sm ++ (pS cy a S)) sz) (aS cy b (PR S) u.1 u.2.1 u.2.2.1 u.2.2.2.1 u.2.2.2.2.1 u.2.2.2.2.2.1 u.2.2.2.2.2.2 (nI (RC S)) (b2i (RC S = 60)) (fresh S) (lost S) (b2i (smokes S = true)) ++ (pS cy a S)) t) (va_A (aS cy b P F N B O Sd Dv L rc re fr lo sm ++ (pS cy a S)) sz)) 0 0 (va_A (aS cy b P F N B O Sd Dv L rc re fr lo sm ++ (pS cy a S)) sz) := by
  refine mk_rw (by decide) RX0 rfl (Nat.le_of_ble_eq_true rfl) [(0, .ref (b 0)), (1, .ref (a 0))] rfl ?_
  intro p e s m below meth c hx hb hml hown hr hlocks hin hw hsz hA hG hK H0 locs0 hP0 hD0 hS0 ls0 hl0
  clear hin
  have hg20 := wf_g20 wf
  have hr6 := wf_r6 wf
  refine lv_aload_n hx hb dX0_settle_0 rfl (lv_at hl0 0 rfl) ?_
  refine cV_v (wc := aS cy b P F N B O Sd Dv L rc re fr lo sm) (wr := pS cy a S) (rest := []) hx hb hml hown hw hG hK hP0 hD0 hS0 hA hl0 kc_X0_clear kw_3_56 [] (c_X0_clear l D cy G H0.size b P F N B O Sd Dv L rc re fr lo sm) [0, 1, 2, 3, 4, 5, 6, 7, 8, 9, 10, 11, 12, 13, 14] [15, 16, 17, 18, 19, 20, 21, 22, 23, 24] rfl rfl rfl rfl rfl 0 rfl rfl rfl rfl rfl (Nat.le_of_ble_eq_true rfl) ⟨Nat.le_of_ble_eq_true rfl, Nat.le_of_ble_eq_true rfl⟩ dX0_settle_1 ⟨Nat.le_of_ble_eq_true rfl, Nat.le_of_ble_eq_true rfl⟩ (fun u9 H1 locs1 hu9 hP1 hD1 hS1 => ?_)
  clear hP0 hD0 hS0 locs0 H0
  replace hP1 : va_P D vwCl (pS cy a S ++ (aS cy b (fun _ => 0) F N B O (fun _ => 0) (fun _ => 0) (fun _ _ => 0) rc re fr lo sm)) H1 := hP1
  replace hD1 : va_D (va_A _ sz) (pS cy a S ++ (aS cy b (fun _ => 0) F N B O (fun _ => 0) (fun _ => 0) (fun _ _ => 0) rc re fr lo sm)) := hD1
  replace hP1 := hP1.sub (ws' := aS cy b (fun _ => 0) F N B O (fun _ => 0) (fun _ => 0) (fun _ _ => 0) rc re fr lo sm ++ (pS cy a S)) [10, 11, 12, 13, 14, 15, 16, 17, 18, 19, 20, 21, 22, 23, 24, 0, 1, 2, 3, 4, 5, 6, 7, 8, 9] rfl
  replace hD1 := hD1.sub (ws' := aS cy b (fun _ => 0) F N B O (fun _ => 0) (fun _ => 0) (fun _ _ => 0) rc re fr lo sm ++ (pS cy a S)) [10, 11, 12, 13, 14, 15, 16, 17, 18, 19, 20, 21, 22, 23, 24, 0, 1, 2, 3, 4, 5, 6, 7, 8, 9] (by decide) rfl
  refine lv_aload_n hx hb dX0_settle_4 rfl (lv_at hl0 0 rfl) ?_
  refine lv_aload_n hx hb dX0_settle_5 rfl (lv_at hl0 1 rfl) ?_
  refine cV_v (wc := aS cy b (fun _ => 0) F N B O (fun _ => 0) (fun _ => 0) (fun _ _ => 0) rc re fr lo sm ++ (pS cy a S)) (wr := []) (rest := []) hx hb hml hown hw hG hK hP1 hD1 hS1 hA hl0 kc_X0_gather kw_3_60 [.ref (a 0)] (c_X0_gather l D cy G H1.size b (fun _ => 0) F N B O rc re fr lo sm a S (by first | omega | assumption)) [0, 1, 2, 3, 4, 5, 6, 7, 8, 9, 10, 11, 12, 13, 14, 15, 16, 17, 18, 19, 20, 21, 22, 23, 24] [] rfl rfl rfl rfl rfl 0 rfl rfl rfl rfl rfl (Nat.le_of_ble_eq_true rfl) ⟨Nat.le_of_ble_eq_true rfl, Nat.le_of_ble_eq_true rfl⟩ dX0_settle_6 ⟨Nat.le_of_ble_eq_true rfl, Nat.le_of_ble_eq_true rfl⟩ (fun u9 H2 locs2 hu9 hP2 hD2 hS2 => ?_)
  clear hP1 hD1 hS1 locs1 H1
  replace hP2 : va_P D vwCl (aS cy b (fun _ => 0) F N (fil (breadth S) B (gcN S)) (fil (fun g => 8 * push S g) O (gcN S)) (gS0 S) (gDv S (gcN S)) (gL S (gcN S)) rc re fr lo sm ++ (pS cy a S)) H2 := hP2
  replace hD2 : va_D (va_A _ sz) (aS cy b (fun _ => 0) F N (fil (breadth S) B (gcN S)) (fil (fun g => 8 * push S g) O (gcN S)) (gS0 S) (gDv S (gcN S)) (gL S (gcN S)) rc re fr lo sm ++ (pS cy a S)) := hD2
  refine lv_aload_n hx hb dX0_settle_9 rfl (lv_at hl0 0 rfl) ?_
  refine lv_aload_n hx hb dX0_settle_10 rfl (lv_at hl0 1 rfl) ?_
  refine va_get (D := D) (ci := 1) (v := .int (S 0)) (C := RX1) (T := TX1) (N := 12) hx hb hw iX1 hown hK hP2 15 rfl rfl 0 (by decide) (hw _ kw_1_32) (fun _ h9 => h9) rfl dX0_settle_11 ?_
  refine tp (show (S 0) = nI (rcN S) from wf_r wf) ?_
  refine cV_v (wc := aS cy b (fun _ => 0) F N (fil (breadth S) B (gcN S)) (fil (fun g => 8 * push S g) O (gcN S)) (gS0 S) (gDv S (gcN S)) (gL S (gcN S)) rc re fr lo sm) (wr := pS cy a S) (rest := []) hx hb hml hown hw hG hK hP2 hD2 hS2 hA hl0 kc_X0_goRounds kw_3_66 [.int (nI (rcN S))] (c_X0_goRounds l D cy G H2.size b (fun _ => 0) F N (fil (breadth S) B (gcN S)) (fil (fun g => 8 * push S g) O (gcN S)) (gS0 S) (gDv S (gcN S)) (gL S (gcN S)) rc re fr lo sm (rcN S) (by first | omega | assumption)) [0, 1, 2, 3, 4, 5, 6, 7, 8, 9, 10, 11, 12, 13, 14] [15, 16, 17, 18, 19, 20, 21, 22, 23, 24] rfl rfl rfl rfl rfl 0 rfl rfl rfl rfl rfl (Nat.le_of_ble_eq_true rfl) ⟨Nat.le_of_ble_eq_true rfl, Nat.le_of_ble_eq_true rfl⟩ dX0_settle_14 ⟨Nat.le_of_ble_eq_true rfl, Nat.le_of_ble_eq_true rfl⟩ (fun u9 H3 locs3 hu9 hP3 hD3 hS3 => ?_)
  clear hP2 hD2 hS2 locs2 H2
  obtain ⟨N1_14, rfl⟩ : ∃ z9, z9 = u9 := ⟨_, rfl⟩
  replace hP3 : va_P D vwCl (pS cy a S ++ (aS cy b (itG (nxC (gS0 S) (gDv S (gcN S)) (gL S (gcN S)) (rcN S)) (rcN S) (fun _ => 0) (cntG (nxC (gS0 S) (gDv S (gcN S)) (gL S (gcN S)) (rcN S)) (rcN S) (fun _ => 0))) F N1_14 (fil (breadth S) B (gcN S)) (fil (fun g => 8 * push S g) O (gcN S)) (gS0 S) (gDv S (gcN S)) (gL S (gcN S)) (nI (cntG (nxC (gS0 S) (gDv S (gcN S)) (gL S (gcN S)) (rcN S)) (rcN S) (fun _ => 0))) (b2i (cntG (nxC (gS0 S) (gDv S (gcN S)) (gL S (gcN S)) (rcN S)) (rcN S) (fun _ => 0) = 60)) fr lo sm)) H3 := hP3
  replace hD3 : va_D (va_A _ sz) (pS cy a S ++ (aS cy b (itG (nxC (gS0 S) (gDv S (gcN S)) (gL S (gcN S)) (rcN S)) (rcN S) (fun _ => 0) (cntG (nxC (gS0 S) (gDv S (gcN S)) (gL S (gcN S)) (rcN S)) (rcN S) (fun _ => 0))) F N1_14 (fil (breadth S) B (gcN S)) (fil (fun g => 8 * push S g) O (gcN S)) (gS0 S) (gDv S (gcN S)) (gL S (gcN S)) (nI (cntG (nxC (gS0 S) (gDv S (gcN S)) (gL S (gcN S)) (rcN S)) (rcN S) (fun _ => 0))) (b2i (cntG (nxC (gS0 S) (gDv S (gcN S)) (gL S (gcN S)) (rcN S)) (rcN S) (fun _ => 0) = 60)) fr lo sm)) := hD3
  replace hP3 := hP3.sub (ws' := aS cy b (itG (nxC (gS0 S) (gDv S (gcN S)) (gL S (gcN S)) (rcN S)) (rcN S) (fun _ => 0) (cntG (nxC (gS0 S) (gDv S (gcN S)) (gL S (gcN S)) (rcN S)) (rcN S) (fun _ => 0))) F N1_14 (fil (breadth S) B (gcN S)) (fil (fun g => 8 * push S g) O (gcN S)) (gS0 S) (gDv S (gcN S)) (gL S (gcN S)) (nI (cntG (nxC (gS0 S) (gDv S (gcN S)) (gL S (gcN S)) (rcN S)) (rcN S) (fun _ => 0))) (b2i (cntG (nxC (gS0 S) (gDv S (gcN S)) (gL S (gcN S)) (rcN S)) (rcN S) (fun _ => 0) = 60)) fr lo sm ++ (pS cy a S)) [10, 11, 12, 13, 14, 15, 16, 17, 18, 19, 20, 21, 22, 23, 24, 0, 1, 2, 3, 4, 5, 6, 7, 8, 9] rfl
  replace hD3 := hD3.sub (ws' := aS cy b (itG (nxC (gS0 S) (gDv S (gcN S)) (gL S (gcN S)) (rcN S)) (rcN S) (fun _ => 0) (cntG (nxC (gS0 S) (gDv S (gcN S)) (gL S (gcN S)) (rcN S)) (rcN S) (fun _ => 0))) F N1_14 (fil (breadth S) B (gcN S)) (fil (fun g => 8 * push S g) O (gcN S)) (gS0 S) (gDv S (gcN S)) (gL S (gcN S)) (nI (cntG (nxC (gS0 S) (gDv S (gcN S)) (gL S (gcN S)) (rcN S)) (rcN S) (fun _ => 0))) (b2i (cntG (nxC (gS0 S) (gDv S (gcN S)) (gL S (gcN S)) (rcN S)) (rcN S) (fun _ => 0) = 60)) fr lo sm ++ (pS cy a S)) [10, 11, 12, 13, 14, 15, 16, 17, 18, 19, 20, 21, 22, 23, 24, 0, 1, 2, 3, 4, 5, 6, 7, 8, 9] (by decide) rfl
  have hnx : ∀ (P : Nat → Int32) (r : Nat), r < rcN S → nxC (gS0 S) (gDv S (gcN S)) (gL S (gcN S)) (rcN S) P r = asked S P r := fun P r _ => nx_asked wf P r
  have hq9 : (aS cy b (itG (nxC (gS0 S) (gDv S (gcN S)) (gL S (gcN S)) (rcN S)) (rcN S) (fun _ => 0) (cntG (nxC (gS0 S) (gDv S (gcN S)) (gL S (gcN S)) (rcN S)) (rcN S) (fun _ => 0))) F N1_14 (fil (breadth S) B (gcN S)) (fil (fun g => 8 * push S g) O (gcN S)) (gS0 S) (gDv S (gcN S)) (gL S (gcN S)) (nI (cntG (nxC (gS0 S) (gDv S (gcN S)) (gL S (gcN S)) (rcN S)) (rcN S) (fun _ => 0))) (b2i (cntG (nxC (gS0 S) (gDv S (gcN S)) (gL S (gcN S)) (rcN S)) (rcN S) (fun _ => 0) = 60)) fr lo sm ++ (pS cy a S)) = (aS cy b (itG (nxC (gS0 S) (gDv S (gcN S)) (gL S (gcN S)) (rcN S)) (rcN S) (fun _ => 0) (cntG (nxC (gS0 S) (gDv S (gcN S)) (gL S (gcN S)) (rcN S)) (rcN S) (fun _ => 0))) F N1_14 (fil (breadth S) B (gcN S)) (fil (fun g => 8 * push S g) O (gcN S)) (gS0 S) (gDv S (gcN S)) (gL S (gcN S)) (nI (RC S)) (b2i (cntG (nxC (gS0 S) (gDv S (gcN S)) (gL S (gcN S)) (rcN S)) (rcN S) (fun _ => 0) = 60)) fr lo sm ++ (pS cy a S)) := congrArg (fun z9 => aS cy b (itG (nxC (gS0 S) (gDv S (gcN S)) (gL S (gcN S)) (rcN S)) (rcN S) (fun _ => 0) (cntG (nxC (gS0 S) (gDv S (gcN S)) (gL S (gcN S)) (rcN S)) (rcN S) (fun _ => 0))) F N1_14 (fil (breadth S) B (gcN S)) (fil (fun g => 8 * push S g) O (gcN S)) (gS0 S) (gDv S (gcN S)) (gL S (gcN S)) z9 (b2i (cntG (nxC (gS0 S) (gDv S (gcN S)) (gL S (gcN S)) (rcN S)) (rcN S) (fun _ => 0) = 60)) fr lo sm ++ (pS cy a S)) (show (nI (cntG (nxC (gS0 S) (gDv S (gcN S)) (gL S (gcN S)) (rcN S)) (rcN S) (fun _ => 0))) = (nI (RC S)) from by unfold RC; rw [cnt_cong hnx])
  replace hP3 := (congrArg (fun z9 => va_P D vwCl z9 _) hq9).mp hP3
  replace hD3 := (congrArg (fun z9 => va_D _ z9) hq9).mp hD3
  clear hq9
  have hq9 : (aS cy b (itG (nxC (gS0 S) (gDv S (gcN S)) (gL S (gcN S)) (rcN S)) (rcN S) (fun _ => 0) (cntG (nxC (gS0 S) (gDv S (gcN S)) (gL S (gcN S)) (rcN S)) (rcN S) (fun _ => 0))) F N1_14 (fil (breadth S) B (gcN S)) (fil (fun g => 8 * push S g) O (gcN S)) (gS0 S) (gDv S (gcN S)) (gL S (gcN S)) (nI (RC S)) (b2i (cntG (nxC (gS0 S) (gDv S (gcN S)) (gL S (gcN S)) (rcN S)) (rcN S) (fun _ => 0) = 60)) fr lo sm ++ (pS cy a S)) = (aS cy b (itG (nxC (gS0 S) (gDv S (gcN S)) (gL S (gcN S)) (rcN S)) (rcN S) (fun _ => 0) (cntG (nxC (gS0 S) (gDv S (gcN S)) (gL S (gcN S)) (rcN S)) (rcN S) (fun _ => 0))) F N1_14 (fil (breadth S) B (gcN S)) (fil (fun g => 8 * push S g) O (gcN S)) (gS0 S) (gDv S (gcN S)) (gL S (gcN S)) (nI (RC S)) (b2i (RC S = 60)) fr lo sm ++ (pS cy a S)) := congrArg (fun z9 => aS cy b (itG (nxC (gS0 S) (gDv S (gcN S)) (gL S (gcN S)) (rcN S)) (rcN S) (fun _ => 0) (cntG (nxC (gS0 S) (gDv S (gcN S)) (gL S (gcN S)) (rcN S)) (rcN S) (fun _ => 0))) F N1_14 (fil (breadth S) B (gcN S)) (fil (fun g => 8 * push S g) O (gcN S)) (gS0 S) (gDv S (gcN S)) (gL S (gcN S)) (nI (RC S)) z9 fr lo sm ++ (pS cy a S)) (show (b2i (cntG (nxC (gS0 S) (gDv S (gcN S)) (gL S (gcN S)) (rcN S)) (rcN S) (fun _ => 0) = 60)) = (b2i (RC S = 60)) from by unfold RC; rw [cnt_cong hnx])
  replace hP3 := (congrArg (fun z9 => va_P D vwCl z9 _) hq9).mp hP3
  replace hD3 := (congrArg (fun z9 => va_D _ z9) hq9).mp hD3
  clear hq9
  have hq9 : (aS cy b (itG (nxC (gS0 S) (gDv S (gcN S)) (gL S (gcN S)) (rcN S)) (rcN S) (fun _ => 0) (cntG (nxC (gS0 S) (gDv S (gcN S)) (gL S (gcN S)) (rcN S)) (rcN S) (fun _ => 0))) F N1_14 (fil (breadth S) B (gcN S)) (fil (fun g => 8 * push S g) O (gcN S)) (gS0 S) (gDv S (gcN S)) (gL S (gcN S)) (nI (RC S)) (b2i (RC S = 60)) fr lo sm ++ (pS cy a S)) = (aS cy b (PR S) F N1_14 (fil (breadth S) B (gcN S)) (fil (fun g => 8 * push S g) O (gcN S)) (gS0 S) (gDv S (gcN S)) (gL S (gcN S)) (nI (RC S)) (b2i (RC S = 60)) fr lo sm ++ (pS cy a S)) := congrArg (fun z9 => aS cy b z9 F N1_14 (fil (breadth S) B (gcN S)) (fil (fun g => 8 * push S g) O (gcN S)) (gS0 S) (gDv S (gcN S)) (gL S (gcN S)) (nI (RC S)) (b2i (RC S = 60)) fr lo sm ++ (pS cy a S)) (show (itG (nxC (gS0 S) (gDv S (gcN S)) (gL S (gcN S)) (rcN S)) (rcN S) (fun _ => 0) (cntG (nxC (gS0 S) (gDv S (gcN S)) (gL S (gcN S)) (rcN S)) (rcN S) (fun _ => 0))) = (PR S) from by unfold PR RC; rw [it_cong hnx, cnt_cong hnx])
  replace hP3 := (congrArg (fun z9 => va_P D vwCl z9 _) hq9).mp hP3
  replace hD3 := (congrArg (fun z9 => va_D _ z9) hq9).mp hD3
  clear hq9
  refine lv_aload_n hx hb dX0_settle_17 rfl (lv_at hl0 0 rfl) ?_
  refine lv_aload_n hx hb dX0_settle_18 rfl (lv_at hl0 1 rfl) ?_
  refine cV_v (wc := aS cy b (PR S) F N1_14 (fil (breadth S) B (gcN S)) (fil (fun g => 8 * push S g) O (gcN S)) (gS0 S) (gDv S (gcN S)) (gL S (gcN S)) (nI (RC S)) (b2i (RC S = 60)) fr lo sm ++ (pS cy a S)) (wr := []) (rest := []) hx hb hml hown hw hG hK hP3 hD3 hS3 hA hl0 kc_X0_sumFlows kw_3_75 [.ref (a 0)] (c_X0_sumFlows l D cy G H3.size b (PR S) F N1_14 (fil (breadth S) B (gcN S)) (fil (fun g => 8 * push S g) O (gcN S)) (gS0 S) (gDv S (gcN S)) (gL S (gcN S)) (nI (RC S)) (b2i (RC S = 60)) fr lo sm a S (by first | omega | assumption) (fun g hg => fil_in hg) (fun g hg => fil_in (f := fun g => 8 * push S g) hg)) [0, 1, 2, 3, 4, 5, 6, 7, 8, 9, 10, 11, 12, 13, 14, 15, 16, 17, 18, 19, 20, 21, 22, 23, 24] [] rfl rfl rfl rfl rfl 0 rfl rfl rfl rfl rfl (Nat.le_of_ble_eq_true rfl) ⟨Nat.le_of_ble_eq_true rfl, Nat.le_of_ble_eq_true rfl⟩ dX0_settle_19 ⟨Nat.le_of_ble_eq_true rfl, Nat.le_of_ble_eq_true rfl⟩ (fun u9 H4 locs4 hu9 hP4 hD4 hS4 => ?_)
  clear hP3 hD3 hS3 locs3 H3
  replace hP4 : va_P D vwCl (aS cy b (PR S) (fil (flow S (PR S)) F (gcN S)) N1_14 (fil (breadth S) B (gcN S)) (fil (fun g => 8 * push S g) O (gcN S)) (gS0 S) (gDv S (gcN S)) (gL S (gcN S)) (nI (RC S)) (b2i (RC S = 60)) (frs S (PR S) (gcN S)) (frs S (PR S) (gcN S) * S 2) (b2i (smk S (PR S) (gcN S) = true)) ++ (pS cy a S)) H4 := hP4
  replace hD4 : va_D (va_A _ sz) (aS cy b (PR S) (fil (flow S (PR S)) F (gcN S)) N1_14 (fil (breadth S) B (gcN S)) (fil (fun g => 8 * push S g) O (gcN S)) (gS0 S) (gDv S (gcN S)) (gL S (gcN S)) (nI (RC S)) (b2i (RC S = 60)) (frs S (PR S) (gcN S)) (frs S (PR S) (gcN S) * S 2) (b2i (smk S (PR S) (gcN S) = true)) ++ (pS cy a S)) := hD4
  have hq9 : (aS cy b (PR S) (fil (flow S (PR S)) F (gcN S)) N1_14 (fil (breadth S) B (gcN S)) (fil (fun g => 8 * push S g) O (gcN S)) (gS0 S) (gDv S (gcN S)) (gL S (gcN S)) (nI (RC S)) (b2i (RC S = 60)) (frs S (PR S) (gcN S)) (frs S (PR S) (gcN S) * S 2) (b2i (smk S (PR S) (gcN S) = true)) ++ (pS cy a S)) = aS cy b (PR S) (fil (flow S (PR S)) F (gcN S)) N1_14 (fil (breadth S) B (gcN S)) (fil (fun g => 8 * push S g) O (gcN S)) (gS0 S) (gDv S (gcN S)) (gL S (gcN S)) (nI (RC S)) (b2i (RC S = 60)) (fresh S) (lost S) (b2i (smokes S = true)) ++ (pS cy a S) := by rfl
  replace hP4 := (congrArg (fun z9 => va_P D vwCl z9 _) hq9).mp hP4
  replace hD4 := (congrArg (fun z9 => va_D _ z9) hq9).mp hD4
  refine re_v (fil (flow S (PR S)) F (gcN S), N1_14, fil (breadth S) B (gcN S), fil (fun g => 8 * push S g) O (gcN S), gS0 S, gDv S (gcN S), gL S (gcN S)) hx hb hr hlocks hP4 hD4 hS4 dX0_settle_22 ?_
  exact (fun g hg => fil_in hg)

theorem kc_X0_init : kI yX0_init cX0_init 1 0 := ⟨kw_1_97, kw_1_3, kw_1_98, rfl, by decide, by decide, by decide +kernel⟩
set_option maxHeartbeats 4000000 in
set_option maxRecDepth 100000 in
theorem c_X0_init (l : Launch) (D : va_G) (cy : Nat → ClassId) (G : Nat → Nat) (sz : Nat) (h : Nat)  : Met l yX0_init (wm yX0_init cX0_init 1 none) { frames := 1, cells := 14, slots := 126, locals := 20 } (va_Pc [.ref h] (pr D (TY cy) G ([(h, .inr (0, [.null, .null, .int 0, .int 0, .int 0, .int 0, .int 0, .null, .null, .null, .null, .null, .null]))]) sz)) (va_Qv (fun (u : (Nat → Nat)) => u 0 = h) (fun (u : (Nat → Nat)) t => po D (va_A ([(h, .inr (0, [.null, .null, .int 0, .int 0, .int 0, .int 0, .int 0, .null, .null, .null, .null, .null, .null]))]) sz) (aS cy u (fun _ => 0) (fun _ => 0) (fun _ => 0) (fun _ => 0) (fun _ => 0) (fun _ => 0) (fun _ => 0) (fun _ _ => 0) 0 0 0 0 0) t) (va_A ([(h, .inr (0, [.null, .null, .int 0, .int 0, .int 0, .int 0, .int 0, .null, .null, .null, .null, .null, .null]))]) sz)) 14 126 (va_A ([(h, .inr (0, [.null, .null, .int 0, .int 0, .int 0, .int 0, .int 0, .null, .null, .null, .null, .null, .null]))]) sz) := by
  refine mk_rw (by decide) RX0 rfl (Nat.le_of_ble_eq_true rfl) [(0, .ref h)] rfl ?_
  intro p e s m below meth c hx hb hml hown hr hlocks hin hw hsz hA hG hK H0 locs0 hP0 hD0 hS0 ls0 hl0
  have hin : meth.name = "<init>" := hin
  refine lv_aload_n hx hb dX0_init_0 rfl (lv_at hl0 0 rfl) ?_
  refine W.objInit hx hb hown (hw _ kw_1_99) (hw _ kw_1_22) (hw _ kw_1_23) rfl (by rw [hml]; exact hl0.1) rfl dX0_init_1 (Nat.le_of_ble_eq_true rfl) (Nat.le_of_ble_eq_true rfl) ?_
  refine W.eq (g2 := F0 m 4 ls0 []) rfl ?_
  refine lv_aload_n hx hb dX0_init_4 rfl (lv_at hl0 0 rfl) ?_
  refine lv_bipush (v := 6) hx hb dX0_init_5 (by decide) ?_
  refine nwa (atype := .int) (N' := 6) (a0 := (6, .inl (fun _ => 0))) hx hb kw_1_92 hw rfl hK hP0 hD0 hS0 hA 0 rfl (fun c9 => nwa_int c9 6) (by decide) (by decide) (by decide) (Nat.le_of_ble_eq_true rfl) (Nat.le_of_ble_eq_true rfl) dX0_init_7 (fun q7 H1 locs1 hP1 hD1 hS1 => ?_)
  clear hP0 hD0 hS0 locs0 H0
  replace hP1 : va_P D vwCl ([(h, .inr (0, [.null, .null, .int 0, .int 0, .int 0, .int 0, .int 0, .null, .null, .null, .null, .null, .null])), ia cy q7 6 (fun _ => 0)]) H1 := hP1
  replace hD1 : va_D (va_A _ sz) ([(h, .inr (0, [.null, .null, .int 0, .int 0, .int 0, .int 0, .int 0, .null, .null, .null, .null, .null, .null])), ia cy q7 6 (fun _ => 0)]) := hD1
  refine ptF (D := D) (ci := 0) (v := .ref q7) (ty := tyX0 0) (C := RX0) (T := TX0) (N := 13) (ws' := [(h, .inr (0, [.ref q7, .null, .int 0, .int 0, .int 0, .int 0, .int 0, .null, .null, .null, .null, .null, .null])), ia cy q7 6 (fun _ => 0)]) hx hb hw iX0 tyX0 tyX0_ok nmX0 hown hK hP1 hD1 hS1 0 rfl rfl 0 (by decide) kw_1_102 (fun _ h9 => h9) rfl hin rfl (by decide +kernel) rfl rfl (Nat.le_of_ble_eq_true rfl) rfl dX0_init_9 (fun H2 locs2 hP2 hD2 hS2 => ?_)
  clear hP1 hD1 hS1 locs1 H1
  refine lv_aload_n hx hb dX0_init_12 rfl (lv_at hl0 0 rfl) ?_
  refine lv_bipush (v := 20) hx hb dX0_init_13 (by decide) ?_
  refine nwa (atype := .int) (N' := 20) (a0 := (20, .inl (fun _ => 0))) hx hb kw_1_92 hw rfl hK hP2 hD2 hS2 hA 0 rfl (fun c9 => nwa_int c9 20) (by decide) (by decide) (by decide) (Nat.le_of_ble_eq_true rfl) (Nat.le_of_ble_eq_true rfl) dX0_init_15 (fun q15 H3 locs3 hP3 hD3 hS3 => ?_)
  clear hP2 hD2 hS2 locs2 H2
  replace hP3 : va_P D vwCl ([(h, .inr (0, [.ref q7, .null, .int 0, .int 0, .int 0, .int 0, .int 0, .null, .null, .null, .null, .null, .null])), ia cy q7 6 (fun _ => 0), ia cy q15 20 (fun _ => 0)]) H3 := hP3
  replace hD3 : va_D (va_A _ sz) ([(h, .inr (0, [.ref q7, .null, .int 0, .int 0, .int 0, .int 0, .int 0, .null, .null, .null, .null, .null, .null])), ia cy q7 6 (fun _ => 0), ia cy q15 20 (fun _ => 0)]) := hD3
  refine ptF (D := D) (ci := 0) (v := .ref q15) (ty := tyX0 1) (C := RX0) (T := TX0) (N := 13) (ws' := [(h, .inr (0, [.ref q7, .ref q15, .int 0, .int 0, .int 0, .int 0, .int 0, .null, .null, .null, .null, .null, .null])), ia cy q7 6 (fun _ => 0), ia cy q15 20 (fun _ => 0)]) hx hb hw iX0 tyX0 tyX0_ok nmX0 hown hK hP3 hD3 hS3 0 rfl rfl 1 (by decide) kw_1_104 (fun _ h9 => h9) rfl hin rfl (by decide +kernel) rfl rfl (Nat.le_of_ble_eq_true rfl) rfl dX0_init_17 (fun H4 locs4 hP4 hD4 hS4 => ?_)
  clear hP3 hD3 hS3 locs3 H3
  refine lv_aload_n hx hb dX0_init_20 rfl (lv_at hl0 0 rfl) ?_
  refine lv_iconst (v := 0) hx hb dX0_init_21 (by decide) ?_
  refine pt (D := D) (ci := 0) (v := .int 0) (ty := .int) (C := RX0) (T := TX0) (N := 13) (ws' := [(h, .inr (0, [.ref q7, .ref q15, .int 0, .int 0, .int 0, .int 0, .int 0, .null, .null, .null, .null, .null, .null])), ia cy q7 6 (fun _ => 0), ia cy q15 20 (fun _ => 0)]) hx hb hw iX0 tyX0 tyX0_ok nmX0 hown hK hP4 hD4 hS4 0 rfl rfl 2 (by decide) kw_1_107 (fun _ h9 => h9) rfl (by decide +kernel) rfl rfl (Nat.le_of_ble_eq_true rfl) rfl dX0_init_22 (fun H5 locs5 hP5 hD5 hS5 => ?_)
  clear hP4 hD4 hS4 locs4 H4
  refine lv_aload_n hx hb dX0_init_25 rfl (lv_at hl0 0 rfl) ?_
  refine lv_iconst (v := 0) hx hb dX0_init_26 (by decide) ?_
  refine pt (D := D) (ci := 0) (v := .int 0) (ty := .boolean) (C := RX0) (T := TX0) (N := 13) (ws' := [(h, .inr (0, [.ref q7, .ref q15, .int 0, .int 0, .int 0, .int 0, .int 0, .null, .null, .null, .null, .null, .null])), ia cy q7 6 (fun _ => 0), ia cy q15 20 (fun _ => 0)]) hx hb hw iX0 tyX0 tyX0_ok nmX0 hown hK hP5 hD5 hS5 0 rfl rfl 3 (by decide) kw_1_109 (fun _ h9 => h9) rfl (by decide +kernel) rfl rfl (Nat.le_of_ble_eq_true rfl) rfl dX0_init_27 (fun H6 locs6 hP6 hD6 hS6 => ?_)
  clear hP5 hD5 hS5 locs5 H5
  refine lv_aload_n hx hb dX0_init_30 rfl (lv_at hl0 0 rfl) ?_
  refine lv_iconst (v := 0) hx hb dX0_init_31 (by decide) ?_
  refine pt (D := D) (ci := 0) (v := .int 0) (ty := .int) (C := RX0) (T := TX0) (N := 13) (ws' := [(h, .inr (0, [.ref q7, .ref q15, .int 0, .int 0, .int 0, .int 0, .int 0, .null, .null, .null, .null, .null, .null])), ia cy q7 6 (fun _ => 0), ia cy q15 20 (fun _ => 0)]) hx hb hw iX0 tyX0 tyX0_ok nmX0 hown hK hP6 hD6 hS6 0 rfl rfl 4 (by decide) kw_1_111 (fun _ h9 => h9) rfl (by decide +kernel) rfl rfl (Nat.le_of_ble_eq_true rfl) rfl dX0_init_32 (fun H7 locs7 hP7 hD7 hS7 => ?_)
  clear hP6 hD6 hS6 locs6 H6
  refine lv_aload_n hx hb dX0_init_35 rfl (lv_at hl0 0 rfl) ?_
  refine lv_iconst (v := 0) hx hb dX0_init_36 (by decide) ?_
  refine pt (D := D) (ci := 0) (v := .int 0) (ty := .int) (C := RX0) (T := TX0) (N := 13) (ws' := [(h, .inr (0, [.ref q7, .ref q15, .int 0, .int 0, .int 0, .int 0, .int 0, .null, .null, .null, .null, .null, .null])), ia cy q7 6 (fun _ => 0), ia cy q15 20 (fun _ => 0)]) hx hb hw iX0 tyX0 tyX0_ok nmX0 hown hK hP7 hD7 hS7 0 rfl rfl 5 (by decide) kw_1_114 (fun _ h9 => h9) rfl (by decide +kernel) rfl rfl (Nat.le_of_ble_eq_true rfl) rfl dX0_init_37 (fun H8 locs8 hP8 hD8 hS8 => ?_)
  clear hP7 hD7 hS7 locs7 H7
  refine lv_aload_n hx hb dX0_init_40 rfl (lv_at hl0 0 rfl) ?_
  refine lv_iconst (v := 0) hx hb dX0_init_41 (by decide) ?_
  refine pt (D := D) (ci := 0) (v := .int 0) (ty := .boolean) (C := RX0) (T := TX0) (N := 13) (ws' := [(h, .inr (0, [.ref q7, .ref q15, .int 0, .int 0, .int 0, .int 0, .int 0, .null, .null, .null, .null, .null, .null])), ia cy q7 6 (fun _ => 0), ia cy q15 20 (fun _ => 0)]) hx hb hw iX0 tyX0 tyX0_ok nmX0 hown hK hP8 hD8 hS8 0 rfl rfl 6 (by decide) kw_1_117 (fun _ h9 => h9) rfl (by decide +kernel) rfl rfl (Nat.le_of_ble_eq_true rfl) rfl dX0_init_42 (fun H9 locs9 hP9 hD9 hS9 => ?_)
  clear hP8 hD8 hS8 locs8 H8
  refine lv_aload_n hx hb dX0_init_45 rfl (lv_at hl0 0 rfl) ?_
  refine lv_bipush (v := 6) hx hb dX0_init_46 (by decide) ?_
  refine nwa (atype := .int) (N' := 6) (a0 := (6, .inl (fun _ => 0))) hx hb kw_1_92 hw rfl hK hP9 hD9 hS9 hA 0 rfl (fun c9 => nwa_int c9 6) (by decide) (by decide) (by decide) (Nat.le_of_ble_eq_true rfl) (Nat.le_of_ble_eq_true rfl) dX0_init_48 (fun q48 H10 locs10 hP10 hD10 hS10 => ?_)
  clear hP9 hD9 hS9 locs9 H9
  replace hP10 : va_P D vwCl ([(h, .inr (0, [.ref q7, .ref q15, .int 0, .int 0, .int 0, .int 0, .int 0, .null, .null, .null, .null, .null, .null])), ia cy q7 6 (fun _ => 0), ia cy q15 20 (fun _ => 0), ia cy q48 6 (fun _ => 0)]) H10 := hP10
  replace hD10 : va_D (va_A _ sz) ([(h, .inr (0, [.ref q7, .ref q15, .int 0, .int 0, .int 0, .int 0, .int 0, .null, .null, .null, .null, .null, .null])), ia cy q7 6 (fun _ => 0), ia cy q15 20 (fun _ => 0), ia cy q48 6 (fun _ => 0)]) := hD10
  refine ptF (D := D) (ci := 0) (v := .ref q48) (ty := tyX0 7) (C := RX0) (T := TX0) (N := 13) (ws' := [(h, .inr (0, [.ref q7, .ref q15, .int 0, .int 0, .int 0, .int 0, .int 0, .ref q48, .null, .null, .null, .null, .null])), ia cy q7 6 (fun _ => 0), ia cy q15 20 (fun _ => 0), ia cy q48 6 (fun _ => 0)]) hx hb hw iX0 tyX0 tyX0_ok nmX0 hown hK hP10 hD10 hS10 0 rfl rfl 7 (by decide) kw_1_120 (fun _ h9 => h9) rfl hin rfl (by decide +kernel) rfl rfl (Nat.le_of_ble_eq_true rfl) rfl dX0_init_50 (fun H11 locs11 hP11 hD11 hS11 => ?_)
  clear hP10 hD10 hS10 locs10 H10
  refine lv_aload_n hx hb dX0_init_53 rfl (lv_at hl0 0 rfl) ?_
  refine lv_bipush (v := 20) hx hb dX0_init_54 (by decide) ?_
  refine nwa (atype := .int) (N' := 20) (a0 := (20, .inl (fun _ => 0))) hx hb kw_1_92 hw rfl hK hP11 hD11 hS11 hA 0 rfl (fun c9 => nwa_int c9 20) (by decide) (by decide) (by decide) (Nat.le_of_ble_eq_true rfl) (Nat.le_of_ble_eq_true rfl) dX0_init_56 (fun q56 H12 locs12 hP12 hD12 hS12 => ?_)
  clear hP11 hD11 hS11 locs11 H11
  replace hP12 : va_P D vwCl ([(h, .inr (0, [.ref q7, .ref q15, .int 0, .int 0, .int 0, .int 0, .int 0, .ref q48, .null, .null, .null, .null, .null])), ia cy q7 6 (fun _ => 0), ia cy q15 20 (fun _ => 0), ia cy q48 6 (fun _ => 0), ia cy q56 20 (fun _ => 0)]) H12 := hP12
  replace hD12 : va_D (va_A _ sz) ([(h, .inr (0, [.ref q7, .ref q15, .int 0, .int 0, .int 0, .int 0, .int 0, .ref q48, .null, .null, .null, .null, .null])), ia cy q7 6 (fun _ => 0), ia cy q15 20 (fun _ => 0), ia cy q48 6 (fun _ => 0), ia cy q56 20 (fun _ => 0)]) := hD12
  refine ptF (D := D) (ci := 0) (v := .ref q56) (ty := tyX0 8) (C := RX0) (T := TX0) (N := 13) (ws' := [(h, .inr (0, [.ref q7, .ref q15, .int 0, .int 0, .int 0, .int 0, .int 0, .ref q48, .ref q56, .null, .null, .null, .null])), ia cy q7 6 (fun _ => 0), ia cy q15 20 (fun _ => 0), ia cy q48 6 (fun _ => 0), ia cy q56 20 (fun _ => 0)]) hx hb hw iX0 tyX0 tyX0_ok nmX0 hown hK hP12 hD12 hS12 0 rfl rfl 8 (by decide) kw_1_121 (fun _ h9 => h9) rfl hin rfl (by decide +kernel) rfl rfl (Nat.le_of_ble_eq_true rfl) rfl dX0_init_58 (fun H13 locs13 hP13 hD13 hS13 => ?_)
  clear hP12 hD12 hS12 locs12 H12
  refine lv_aload_n hx hb dX0_init_61 rfl (lv_at hl0 0 rfl) ?_
  refine lv_bipush (v := 20) hx hb dX0_init_62 (by decide) ?_
  refine nwa (atype := .int) (N' := 20) (a0 := (20, .inl (fun _ => 0))) hx hb kw_1_92 hw rfl hK hP13 hD13 hS13 hA 0 rfl (fun c9 => nwa_int c9 20) (by decide) (by decide) (by decide) (Nat.le_of_ble_eq_true rfl) (Nat.le_of_ble_eq_true rfl) dX0_init_64 (fun q64 H14 locs14 hP14 hD14 hS14 => ?_)
  clear hP13 hD13 hS13 locs13 H13
  replace hP14 : va_P D vwCl ([(h, .inr (0, [.ref q7, .ref q15, .int 0, .int 0, .int 0, .int 0, .int 0, .ref q48, .ref q56, .null, .null, .null, .null])), ia cy q7 6 (fun _ => 0), ia cy q15 20 (fun _ => 0), ia cy q48 6 (fun _ => 0), ia cy q56 20 (fun _ => 0), ia cy q64 20 (fun _ => 0)]) H14 := hP14
  replace hD14 : va_D (va_A _ sz) ([(h, .inr (0, [.ref q7, .ref q15, .int 0, .int 0, .int 0, .int 0, .int 0, .ref q48, .ref q56, .null, .null, .null, .null])), ia cy q7 6 (fun _ => 0), ia cy q15 20 (fun _ => 0), ia cy q48 6 (fun _ => 0), ia cy q56 20 (fun _ => 0), ia cy q64 20 (fun _ => 0)]) := hD14
  refine ptF (D := D) (ci := 0) (v := .ref q64) (ty := tyX0 9) (C := RX0) (T := TX0) (N := 13) (ws' := [(h, .inr (0, [.ref q7, .ref q15, .int 0, .int 0, .int 0, .int 0, .int 0, .ref q48, .ref q56, .ref q64, .null, .null, .null])), ia cy q7 6 (fun _ => 0), ia cy q15 20 (fun _ => 0), ia cy q48 6 (fun _ => 0), ia cy q56 20 (fun _ => 0), ia cy q64 20 (fun _ => 0)]) hx hb hw iX0 tyX0 tyX0_ok nmX0 hown hK hP14 hD14 hS14 0 rfl rfl 9 (by decide) kw_1_122 (fun _ h9 => h9) rfl hin rfl (by decide +kernel) rfl rfl (Nat.le_of_ble_eq_true rfl) rfl dX0_init_66 (fun H15 locs15 hP15 hD15 hS15 => ?_)
  clear hP14 hD14 hS14 locs14 H14
  refine lv_aload_n hx hb dX0_init_69 rfl (lv_at hl0 0 rfl) ?_
  refine lv_bipush (v := 6) hx hb dX0_init_70 (by decide) ?_
  refine nwa (atype := .int) (N' := 6) (a0 := (6, .inl (fun _ => 0))) hx hb kw_1_92 hw rfl hK hP15 hD15 hS15 hA 0 rfl (fun c9 => nwa_int c9 6) (by decide) (by decide) (by decide) (Nat.le_of_ble_eq_true rfl) (Nat.le_of_ble_eq_true rfl) dX0_init_72 (fun q72 H16 locs16 hP16 hD16 hS16 => ?_)
  clear hP15 hD15 hS15 locs15 H15
  replace hP16 : va_P D vwCl ([(h, .inr (0, [.ref q7, .ref q15, .int 0, .int 0, .int 0, .int 0, .int 0, .ref q48, .ref q56, .ref q64, .null, .null, .null])), ia cy q7 6 (fun _ => 0), ia cy q15 20 (fun _ => 0), ia cy q48 6 (fun _ => 0), ia cy q56 20 (fun _ => 0), ia cy q64 20 (fun _ => 0), ia cy q72 6 (fun _ => 0)]) H16 := hP16
  replace hD16 : va_D (va_A _ sz) ([(h, .inr (0, [.ref q7, .ref q15, .int 0, .int 0, .int 0, .int 0, .int 0, .ref q48, .ref q56, .ref q64, .null, .null, .null])), ia cy q7 6 (fun _ => 0), ia cy q15 20 (fun _ => 0), ia cy q48 6 (fun _ => 0), ia cy q56 20 (fun _ => 0), ia cy q64 20 (fun _ => 0), ia cy q72 6 (fun _ => 0)]) := hD16
  refine ptF (D := D) (ci := 0) (v := .ref q72) (ty := tyX0 10) (C := RX0) (T := TX0) (N := 13) (ws' := [(h, .inr (0, [.ref q7, .ref q15, .int 0, .int 0, .int 0, .int 0, .int 0, .ref q48, .ref q56, .ref q64, .ref q72, .null, .null])), ia cy q7 6 (fun _ => 0), ia cy q15 20 (fun _ => 0), ia cy q48 6 (fun _ => 0), ia cy q56 20 (fun _ => 0), ia cy q64 20 (fun _ => 0), ia cy q72 6 (fun _ => 0)]) hx hb hw iX0 tyX0 tyX0_ok nmX0 hown hK hP16 hD16 hS16 0 rfl rfl 10 (by decide) kw_1_123 (fun _ h9 => h9) rfl hin rfl (by decide +kernel) rfl rfl (Nat.le_of_ble_eq_true rfl) rfl dX0_init_74 (fun H17 locs17 hP17 hD17 hS17 => ?_)
  clear hP16 hD16 hS16 locs16 H16
  refine lv_aload_n hx hb dX0_init_77 rfl (lv_at hl0 0 rfl) ?_
  refine lv_bipush (v := 6) hx hb dX0_init_78 (by decide) ?_
  refine nwa (atype := .int) (N' := 6) (a0 := (6, .inl (fun _ => 0))) hx hb kw_1_92 hw rfl hK hP17 hD17 hS17 hA 0 rfl (fun c9 => nwa_int c9 6) (by decide) (by decide) (by decide) (Nat.le_of_ble_eq_true rfl) (Nat.le_of_ble_eq_true rfl) dX0_init_80 (fun q80 H18 locs18 hP18 hD18 hS18 => ?_)
  clear hP17 hD17 hS17 locs17 H17
  replace hP18 : va_P D vwCl ([(h, .inr (0, [.ref q7, .ref q15, .int 0, .int 0, .int 0, .int 0, .int 0, .ref q48, .ref q56, .ref q64, .ref q72, .null, .null])), ia cy q7 6 (fun _ => 0), ia cy q15 20 (fun _ => 0), ia cy q48 6 (fun _ => 0), ia cy q56 20 (fun _ => 0), ia cy q64 20 (fun _ => 0), ia cy q72 6 (fun _ => 0), ia cy q80 6 (fun _ => 0)]) H18 := hP18
  replace hD18 : va_D (va_A _ sz) ([(h, .inr (0, [.ref q7, .ref q15, .int 0, .int 0, .int 0, .int 0, .int 0, .ref q48, .ref q56, .ref q64, .ref q72, .null, .null])), ia cy q7 6 (fun _ => 0), ia cy q15 20 (fun _ => 0), ia cy q48 6 (fun _ => 0), ia cy q56 20 (fun _ => 0), ia cy q64 20 (fun _ => 0), ia cy q72 6 (fun _ => 0), ia cy q80 6 (fun _ => 0)]) := hD18
  refine ptF (D := D) (ci := 0) (v := .ref q80) (ty := tyX0 11) (C := RX0) (T := TX0) (N := 13) (ws' := [(h, .inr (0, [.ref q7, .ref q15, .int 0, .int 0, .int 0, .int 0, .int 0, .ref q48, .ref q56, .ref q64, .ref q72, .ref q80, .null])), ia cy q7 6 (fun _ => 0), ia cy q15 20 (fun _ => 0), ia cy q48 6 (fun _ => 0), ia cy q56 20 (fun _ => 0), ia cy q64 20 (fun _ => 0), ia cy q72 6 (fun _ => 0), ia cy q80 6 (fun _ => 0)]) hx hb hw iX0 tyX0 tyX0_ok nmX0 hown hK hP18 hD18 hS18 0 rfl rfl 11 (by decide) kw_1_124 (fun _ h9 => h9) rfl hin rfl (by decide +kernel) rfl rfl (Nat.le_of_ble_eq_true rfl) rfl dX0_init_82 (fun H19 locs19 hP19 hD19 hS19 => ?_)
  clear hP18 hD18 hS18 locs18 H18
  refine lv_aload_n hx hb dX0_init_85 rfl (lv_at hl0 0 rfl) ?_
  refine lv_bipush (v := 6) hx hb dX0_init_86 (by decide) ?_
  refine lv_bipush (v := 6) hx hb dX0_init_88 (by decide) ?_
  refine nwg hx hb hw hown kw_1_100 hG.1.2.2.2.2.2.2.2.2.2.2.2.2.2.2 kw_1_92 hK hP19 hD19 hS19 hA 0 4 rfl rfl rfl rfl (Nat.le_of_ble_eq_true rfl) (Nat.le_of_ble_eq_true rfl) dX0_init_90 (fun q90 r90 H20 locs20 hP20 hD20 hS20 => ?_)
  clear hP19 hD19 hS19 locs19 H19
  replace hP20 : va_P D vwCl ([(h, .inr (0, [.ref q7, .ref q15, .int 0, .int 0, .int 0, .int 0, .int 0, .ref q48, .ref q56, .ref q64, .ref q72, .ref q80, .null])), ia cy q7 6 (fun _ => 0), ia cy q15 20 (fun _ => 0), ia cy q48 6 (fun _ => 0), ia cy q56 20 (fun _ => 0), ia cy q64 20 (fun _ => 0), ia cy q72 6 (fun _ => 0), ia cy q80 6 (fun _ => 0), (q90, .inl (cy 4, 6, .inr (.inr (.inr (.inr (fun i => if i < 6 then some (r90 i) else none)))))), ia cy (r90 0) 6 (fun _ => 0), ia cy (r90 1) 6 (fun _ => 0), ia cy (r90 2) 6 (fun _ => 0), ia cy (r90 3) 6 (fun _ => 0), ia cy (r90 4) 6 (fun _ => 0), ia cy (r90 5) 6 (fun _ => 0)]) H20 := hP20
  replace hD20 : va_D (va_A _ sz) ([(h, .inr (0, [.ref q7, .ref q15, .int 0, .int 0, .int 0, .int 0, .int 0, .ref q48, .ref q56, .ref q64, .ref q72, .ref q80, .null])), ia cy q7 6 (fun _ => 0), ia cy q15 20 (fun _ => 0), ia cy q48 6 (fun _ => 0), ia cy q56 20 (fun _ => 0), ia cy q64 20 (fun _ => 0), ia cy q72 6 (fun _ => 0), ia cy q80 6 (fun _ => 0), (q90, .inl (cy 4, 6, .inr (.inr (.inr (.inr (fun i => if i < 6 then some (r90 i) else none)))))), ia cy (r90 0) 6 (fun _ => 0), ia cy (r90 1) 6 (fun _ => 0), ia cy (r90 2) 6 (fun _ => 0), ia cy (r90 3) 6 (fun _ => 0), ia cy (r90 4) 6 (fun _ => 0), ia cy (r90 5) 6 (fun _ => 0)]) := hD20
  refine ptF (D := D) (ci := 0) (v := .ref q90) (ty := tyX0 12) (C := RX0) (T := TX0) (N := 13) (ws' := [(h, .inr (0, [.ref q7, .ref q15, .int 0, .int 0, .int 0, .int 0, .int 0, .ref q48, .ref q56, .ref q64, .ref q72, .ref q80, .ref q90])), ia cy q7 6 (fun _ => 0), ia cy q15 20 (fun _ => 0), ia cy q48 6 (fun _ => 0), ia cy q56 20 (fun _ => 0), ia cy q64 20 (fun _ => 0), ia cy q72 6 (fun _ => 0), ia cy q80 6 (fun _ => 0), (q90, .inl (cy 4, 6, .inr (.inr (.inr (.inr (fun i => if i < 6 then some (r90 i) else none)))))), ia cy (r90 0) 6 (fun _ => 0), ia cy (r90 1) 6 (fun _ => 0), ia cy (r90 2) 6 (fun _ => 0), ia cy (r90 3) 6 (fun _ => 0), ia cy (r90 4) 6 (fun _ => 0), ia cy (r90 5) 6 (fun _ => 0)]) hx hb hw iX0 tyX0 tyX0_ok nmX0 hown hK hP20 hD20 hS20 0 rfl rfl 12 (by decide) kw_1_125 (fun _ h9 => h9) rfl hin rfl (by decide +kernel) rfl rfl (Nat.le_of_ble_eq_true rfl) rfl dX0_init_94 (fun H21 locs21 hP21 hD21 hS21 => ?_)
  clear hP20 hD20 hS20 locs20 H20
  have hq9 : ([(h, .inr (0, [.ref q7, .ref q15, .int 0, .int 0, .int 0, .int 0, .int 0, .ref q48, .ref q56, .ref q64, .ref q72, .ref q80, .ref q90])), ia cy q7 6 (fun _ => 0), ia cy q15 20 (fun _ => 0), ia cy q48 6 (fun _ => 0), ia cy q56 20 (fun _ => 0), ia cy q64 20 (fun _ => 0), ia cy q72 6 (fun _ => 0), ia cy q80 6 (fun _ => 0), (q90, .inl (cy 4, 6, .inr (.inr (.inr (.inr (fun i => if i < 6 then some (r90 i) else none)))))), ia cy (r90 0) 6 (fun _ => 0), ia cy (r90 1) 6 (fun _ => 0), ia cy (r90 2) 6 (fun _ => 0), ia cy (r90 3) 6 (fun _ => 0), ia cy (r90 4) 6 (fun _ => 0), ia cy (r90 5) 6 (fun _ => 0)]) = aS cy (fun k => ([h, q7, q15, q48, q56, q64, q72, q80, q90, r90 0, r90 1, r90 2, r90 3, r90 4, r90 5] : List Nat).getD k 0) (fun _ => 0) (fun _ => 0) (fun _ => 0) (fun _ => 0) (fun _ => 0) (fun _ => 0) (fun _ => 0) (fun _ _ => 0) 0 0 0 0 0 := by
      have e9 : (fun i => if i < 6 then some (r90 i) else none) = (fun i => if i < 6 then some ((fun k => ([h, q7, q15, q48, q56, q64, q72, q80, q90, r90 0, r90 1, r90 2, r90 3, r90 4, r90 5] : List Nat).getD k 0) (9 + i)) else none) := funext fun i => by
        by_cases h9 : i < 6
        · rw [if_pos h9, if_pos h9]; exact row6 (P := fun i => some (r90 i) = some ((fun k => ([h, q7, q15, q48, q56, q64, q72, q80, q90, r90 0, r90 1, r90 2, r90 3, r90 4, r90 5] : List Nat).getD k 0) (9 + i))) rfl rfl rfl rfl rfl rfl h9
        · rw [if_neg h9, if_neg h9]
      rw [e9]
      rfl
  replace hP21 := (congrArg (fun z9 => va_P D vwCl z9 _) hq9).mp hP21
  replace hD21 := (congrArg (fun z9 => va_D _ z9) hq9).mp hD21
  refine re_v (fun k => ([h, q7, q15, q48, q56, q64, q72, q80, q90, r90 0, r90 1, r90 2, r90 3, r90 4, r90 5] : List Nat).getD k 0) hx hb hr hlocks hP21 hD21 hS21 dX0_init_97 ?_
  exact (rfl)
