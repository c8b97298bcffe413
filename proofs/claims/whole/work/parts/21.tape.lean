theorem kc_X3_at : kV yX3_at cX3_at 2 (some .int) 1 := ⟨kw_2_172, kw_2_173, kw_1_6, kw_2_174, by decide, by decide, by decide +kernel⟩
set_option maxHeartbeats 4000000 in
set_option maxRecDepth 100000 in
theorem c_X3_at (l : Launch) (D : va_G) (cy : Nat → ClassId) (G : Nat → Nat) (sz : Nat) (w : Nat → Nat) (n : Nat) (T : Nat → Int32) (k : Nat) (hn : n ≤ 120) (hk : k < 1000) : Met l yX3_at (wm yX3_at cX3_at 2 (some .int)) { frames := 0, cells := 0, slots := 0, locals := 0 } (va_Pc [.ref (w 1), .int (nI k)] (pd D (TY cy) G ([pO cy w (nI n), ia cy (w 2) 120 T]) sz)) (va_Qi (fun r (_ : Unit) => r = bt T n k) (fun _ _ => True) (va_A [] sz)) 0 0 (va_A [] sz) := by
  refine mk_rd (by decide) RX3 rfl (Nat.le_of_ble_eq_true rfl) [(0, .ref (w 1)), (1, .int (nI k))] rfl ?_
  intro p e s m below meth c hx hb hml hown hr hlocks hw hsz hA hG hK H0 locs0 hP0 hS0 ls0 hl0
  refine lv_iload_n hx hb dX3_at_0 rfl (lv_at hl0 1 rfl) ?_
  refine lv_if_lt (tgt := 21) hx hb dX3_at_1 (by decide) (fun c => absurd c (nI_pos (by omega))) (fun _ => ?_)
  refine lv_iload_n hx hb dX3_at_4 rfl (lv_at hl0 1 rfl) ?_
  refine lv_aload_n hx hb dX3_at_5 rfl (lv_at hl0 0 rfl) ?_
  refine va_get (D := D) (ci := 3) (v := .int (nI n)) (C := RX3) (T := TX3) (N := 2) hx hb hw iX3 hown hK hP0 0 rfl rfl 1 (by decide) (hw _ kw_1_220) (fun _ h9 => h9) rfl dX3_at_6 ?_
  refine ln_ge (tgt := 21) k n rfl rfl (by omega) (by omega) hx hb dX3_at_9 (by decide) (fun c_9 => ?_) (fun c_9 => ?_)
  · refine lv_iconst (v := (-1)) hx hb dX3_at_21 (by decide) ?_
    exact rd_i hx hb hr hlocks hS0 dX3_at_22 (by clear hx hb hml hown hr hlocks hw hsz hA hG hK hP0 hS0 hl0; grind [bt])
  · refine lv_aload_n hx hb dX3_at_12 rfl (lv_at hl0 0 rfl) ?_
    refine va_get (D := D) (ci := 3) (v := .ref (w 2)) (C := RX3) (T := TX3) (N := 2) hx hb hw iX3 hown hK hP0 0 rfl rfl 0 (by decide) (hw _ kw_1_219) (fun _ h9 => h9) rfl dX3_at_13 ?_
    refine lv_iload_n hx hb dX3_at_16 rfl (lv_at hl0 1 rfl) ?_
    refine ald_i (f := T) hx hb hK hP0 1 0 rfl rfl k rfl (by first | omega | assumption) (by decide) dX3_at_17 ?_
    refine lv_goto (tgt := 22) hx hb dX3_at_18 (by decide) ?_
    exact rd_i hx hb hr hlocks hS0 dX3_at_22 (by clear hx hb hml hown hr hlocks hw hsz hA hG hK hP0 hS0 hl0; grind [bt])

theorem kc_X3_put : kV yX3_put cX3_put 2 none 1 := ⟨kw_2_145, kw_2_146, kw_1_6, kw_2_147, by decide, by decide, by decide +kernel⟩
set_option maxHeartbeats 4000000 in
set_option maxRecDepth 100000 in
theorem c_X3_put (l : Launch) (D : va_G) (cy : Nat → ClassId) (G : Nat → Nat) (sz : Nat) (w : Nat → Nat) (n : Nat) (T : Nat → Int32) (v : Int32) (hn : n < 120) : Met l yX3_put (wm yX3_put cX3_put 2 none) { frames := 0, cells := 0, slots := 0, locals := 0 } (va_Pc [.ref (w 1), .int v] (pr D (TY cy) G ([pO cy w (nI n), ia cy (w 2) 120 T]) sz)) (va_Qv (fun (u : Unit) => True) (fun (u : Unit) t => po D (va_A ([pO cy w (nI n), ia cy (w 2) 120 T]) sz) ([pO cy w (nI (n + 1)), ia cy (w 2) 120 (upd T n v)]) t) (va_A ([pO cy w (nI n), ia cy (w 2) 120 T]) sz)) 0 0 (va_A ([pO cy w (nI n), ia cy (w 2) 120 T]) sz) := by
  refine mk_rw (by decide) RX3 rfl (Nat.le_of_ble_eq_true rfl) [(0, .ref (w 1)), (1, .int v)] rfl ?_
  intro p e s m below meth c hx hb hml hown hr hlocks hin hw hsz hA hG hK H0 locs0 hP0 hD0 hS0 ls0 hl0
  clear hin
  refine lv_aload_n hx hb dX3_put_0 rfl (lv_at hl0 0 rfl) ?_
  refine va_get (D := D) (ci := 3) (v := .int (nI n)) (C := RX3) (T := TX3) (N := 2) hx hb hw iX3 hown hK hP0 0 rfl rfl 1 (by decide) (hw _ kw_1_220) (fun _ h9 => h9) rfl dX3_put_1 ?_
  refine lv_bipush (v := 120) hx hb dX3_put_4 (by decide) ?_
  refine ln_ge (tgt := 29) n 120 rfl rfl (by omega) (by omega) hx hb dX3_put_6 (by decide) (fun c_6 => absurd c_6 (by omega)) (fun c_6 => ?_)
  refine lv_aload_n hx hb dX3_put_9 rfl (lv_at hl0 0 rfl) ?_
  refine va_get (D := D) (ci := 3) (v := .ref (w 2)) (C := RX3) (T := TX3) (N := 2) hx hb hw iX3 hown hK hP0 0 rfl rfl 0 (by decide) (hw _ kw_1_219) (fun _ h9 => h9) rfl dX3_put_10 ?_
  refine lv_aload_n hx hb dX3_put_13 rfl (lv_at hl0 0 rfl) ?_
  refine va_get (D := D) (ci := 3) (v := .int (nI n)) (C := RX3) (T := TX3) (N := 2) hx hb hw iX3 hown hK hP0 0 rfl rfl 1 (by decide) (hw _ kw_1_220) (fun _ h9 => h9) rfl dX3_put_14 ?_
  refine lv_iload_n hx hb dX3_put_17 rfl (lv_at hl0 1 rfl) ?_
  refine ast_i (f := T) (ws' := [pO cy w (nI n), ia cy (w 2) 120 (upd T n v)]) hx hb hK hP0 hD0 hS0 1 0 rfl rfl n rfl (by first | omega | assumption) (by decide) rfl dX3_put_18 (fun H1 locs1 hP1 hD1 hS1 => ?_)
  clear hP0 hD0 hS0 locs0 H0
  refine lv_aload_n hx hb dX3_put_19 rfl (lv_at hl0 0 rfl) ?_
  refine lv_dup hx hb dX3_put_20 rfl ?_
  refine va_get (D := D) (ci := 3) (v := .int (nI n)) (C := RX3) (T := TX3) (N := 2) hx hb hw iX3 hown hK hP1 0 rfl rfl 1 (by decide) (hw _ kw_1_220) (fun _ h9 => h9) rfl dX3_put_21 ?_
  refine lv_iconst (v := 1) hx hb dX3_put_24 (by decide) ?_
  refine lv_iadd hx hb dX3_put_25 ?_
  refine tp (show ((nI n) + 1) = nI (n + 1) from nI_add _ _) ?_
  refine pt (D := D) (ci := 3) (v := .int (nI (n + 1))) (ty := .int) (C := RX3) (T := TX3) (N := 2) (ws' := [pO cy w (nI (n + 1)), ia cy (w 2) 120 (upd T n v)]) hx hb hw iX3 tyX3 tyX3_ok nmX3 hown hK hP1 hD1 hS1 0 rfl rfl 1 (by decide) kw_1_220 (fun _ h9 => h9) rfl (by decide +kernel) rfl rfl (Nat.le_of_ble_eq_true rfl) rfl dX3_put_26 (fun H2 locs2 hP2 hD2 hS2 => ?_)
  clear hP1 hD1 hS1 locs1 H1
  refine re_v () hx hb hr hlocks hP2 hD2 hS2 dX3_put_29 ?_
  exact (trivial)

theorem kc_X2_lay : kV yX2_lay cX2_lay 4 none 2 := ⟨kw_4_1, kw_4_2, kw_1_7, kw_4_3, by decide, by decide, by decide +kernel⟩
set_option maxHeartbeats 4000000 in
set_option maxRecDepth 100000 in
theorem c_X2_lay (l : Launch) (D : va_G) (cy : Nat → ClassId) (G : Nat → Nat) (sz : Nat) (o : Nat) (w : Nat) (bi : Int32) (si : Int32) (f : Nat → Int64) (x : Int32) (y : Int32) (hf : ∀ j, 40 ≤ j → f j = 0) : Met l yX2_lay (wm yX2_lay cX2_lay 4 none) { frames := 0, cells := 0, slots := 0, locals := 0 } (va_Pc [.ref o, .int x, .int y] (pr D (TY cy) G ([hO cy o w bi si, la cy w 40 f]) sz)) (va_Qv (fun (u : Unit) => True) (fun (u : Unit) t => po D (va_A ([hO cy o w bi si, la cy w 40 f]) sz) ([hO cy o w x y, la cy w 40 (fun _ => 0)]) t) (va_A ([hO cy o w bi si, la cy w 40 f]) sz)) 0 0 (va_A ([hO cy o w bi si, la cy w 40 f]) sz) := by
  refine mk_rw (by decide) RX2 rfl (Nat.le_of_ble_eq_true rfl) [(0, .ref o), (1, .int x), (2, .int y)] rfl ?_
  intro p e s m below meth c hx hb hml hown hr hlocks hin hw hsz hA hG hK H0 locs0 hP0 hD0 hS0 ls0 hl0
  clear hin
  refine lv_iconst (v := 0) hx hb dX2_lay_0 (by decide) ?_
  refine lv_istore_n (lv' := [(3, .int 0), (0, .ref o), (1, .int x), (2, .int y)]) hx hb dX2_lay_1 rfl hl0 (by decide) rfl (fun ls1 hl1 => ?_)
  clear hl0 ls0
  have hq9 : ([hO cy o w bi si, la cy w 40 f]) = ([hO cy o w bi si, la cy w 40 (zer 0 f)]) := congrArg (fun z9 => [hO cy o w bi si, la cy w 40 z9]) (show f = (zer 0 f) from zer_0 f)
  replace hP0 := (congrArg (fun z9 => va_P D vwCl z9 _) hq9).mp hP0
  replace hD0 := (congrArg (fun z9 => va_D _ z9) hq9).mp hD0
  clear hq9
  refine wlp (ι := Nat) (nL := 4) (fun x9 => (x9 ≤ 40)) (fun x9 => [hO cy o w bi si, la cy w 40 (zer x9 f)]) (fun x9 => [(3, .int (nI x9)), (0, .ref o), (1, .int x), (2, .int y)]) (fun x9 => []) (fun x9 => 40 - x9) 2 ?_ 0 (by first | omega | assumption | rfl | simp_all) rfl hP0 hD0 hS0 (lv_sub hl1 [0, 1, 2, 3] rfl)
  clear hP0 hD0 hS0 locs0 H0 hl1 ls1
  intro x9 hI ih_2 H1 locs1 ls2 hP1 hD1 hS1 hl2
  obtain ⟨i, rfl⟩ : ∃ z9, z9 = x9 := ⟨_, rfl⟩
  have hi := hI
  replace hi : i ≤ 40 := hi
  replace hP1 : va_P D vwCl ([hO cy o w bi si, la cy w 40 (zer i f)]) H1 := hP1
  replace hD1 : va_D (va_A _ sz) ([hO cy o w bi si, la cy w 40 (zer i f)]) := hD1
  replace hl2 : lv_has ls2 4 [(3, .int (nI i)), (0, .ref o), (1, .int x), (2, .int y)] := hl2
  show W p l e _ s m _ below meth c _ _ _ _ _ (F0 m 2 ls2 [])
  refine lv_iload_n hx hb dX2_lay_2 rfl (lv_at hl2 0 rfl) ?_
  refine lv_bipush (v := 40) hx hb dX2_lay_3 (by decide) ?_
  refine ln_ge (tgt := 21) i 40 rfl rfl (by omega) (by omega) hx hb dX2_lay_5 (by decide) (fun c_5 => ?_) (fun c_5 => ?_)
  · have hq9 : ([hO cy o w bi si, la cy w 40 (zer i f)]) = ([hO cy o w bi si, la cy w 40 (fun _ => 0)]) := congrArg (fun z9 => [hO cy o w bi si, la cy w 40 z9]) (show (zer i f) = (fun _ => 0) from zer_e c_5 hf)
    replace hP1 := (congrArg (fun z9 => va_P D vwCl z9 _) hq9).mp hP1
    replace hD1 := (congrArg (fun z9 => va_D _ z9) hq9).mp hD1
    clear hq9
    refine lv_aload_n hx hb dX2_lay_21 rfl (lv_at hl2 1 rfl) ?_
    refine lv_iload_n hx hb dX2_lay_22 rfl (lv_at hl2 2 rfl) ?_
    refine pt (D := D) (ci := 2) (v := .int x) (ty := .int) (C := RX2) (T := TX2) (N := 3) (ws' := [hO cy o w x si, la cy w 40 (fun _ => 0)]) hx hb hw iX2 tyX2 tyX2_ok nmX2 hown hK hP1 hD1 hS1 0 rfl rfl 1 (by decide) kw_2_15 (fun _ h9 => h9) rfl (by decide +kernel) rfl rfl (Nat.le_of_ble_eq_true rfl) rfl dX2_lay_23 (fun H2 locs2 hP2 hD2 hS2 => ?_)
    clear hP1 hD1 hS1 locs1 H1
    refine lv_aload_n hx hb dX2_lay_26 rfl (lv_at hl2 1 rfl) ?_
    refine lv_iload_n hx hb dX2_lay_27 rfl (lv_at hl2 3 rfl) ?_
    refine pt (D := D) (ci := 2) (v := .int y) (ty := .int) (C := RX2) (T := TX2) (N := 3) (ws' := [hO cy o w x y, la cy w 40 (fun _ => 0)]) hx hb hw iX2 tyX2 tyX2_ok nmX2 hown hK hP2 hD2 hS2 0 rfl rfl 2 (by decide) kw_2_17 (fun _ h9 => h9) rfl (by decide +kernel) rfl rfl (Nat.le_of_ble_eq_true rfl) rfl dX2_lay_28 (fun H3 locs3 hP3 hD3 hS3 => ?_)
    clear hP2 hD2 hS2 locs2 H2
    refine re_v () hx hb hr hlocks hP3 hD3 hS3 dX2_lay_31 ?_
    exact (trivial)
  · refine lv_aload_n hx hb dX2_lay_8 rfl (lv_at hl2 1 rfl) ?_
    refine va_get (D := D) (ci := 2) (v := .ref w) (C := RX2) (T := TX2) (N := 3) hx hb hw iX2 hown hK hP1 0 rfl rfl 0 (by decide) (hw _ kw_2_13) (fun _ h9 => h9) rfl dX2_lay_9 ?_
    refine lv_iload_n hx hb dX2_lay_12 rfl (lv_at hl2 0 rfl) ?_
    refine lv_lconst (v := 0) hx hb dX2_lay_13 (by decide) ?_
    refine ast_l (f := zer i f) (ws' := [hO cy o w bi si, la cy w 40 (vp_updL (zer i f) i 0)]) hx hb hK hP1 hD1 hS1 1 1 rfl rfl i rfl (by first | omega | assumption) (by decide) rfl dX2_lay_14 (fun H2 locs2 hP2 hD2 hS2 => ?_)
    clear hP1 hD1 hS1 locs1 H1
    refine lv_iinc (v := nI (i + 1)) (lv' := [(3, .int (nI (i + 1))), (0, .ref o), (1, .int x), (2, .int y)]) hx hb dX2_lay_15 hl2 (k := 0) rfl (nI_inc _) (by decide) rfl (fun ls3 hl3 => ?_)
    clear hl2 ls2
    refine lv_goto (tgt := 2) hx hb dX2_lay_18 (by decide) ?_
    have hq9 : ([hO cy o w bi si, la cy w 40 (vp_updL (zer i f) i 0)]) = ([hO cy o w bi si, la cy w 40 (zer (i + 1) f)]) := congrArg (fun z9 => [hO cy o w bi si, la cy w 40 z9]) (show (vp_updL (zer i f) i 0) = (zer (i + 1) f) from zer_s f i)
    replace hP2 := (congrArg (fun z9 => va_P D vwCl z9 _) hq9).mp hP2
    replace hD2 := (congrArg (fun z9 => va_D _ z9) hq9).mp hD2
    clear hq9
    exact ih_2 (i + 1) (by first | omega | assumption | rfl | simp_all) (by (try dsimp only); omega) H2 locs2 ls3 hP2 hD2 hS2 (lv_sub hl3 [0, 1, 2, 3] rfl)

theorem kc_X2_put : kV yX2_put cX2_put 4 none 2 := ⟨kw_3_133, kw_3_134, kw_1_7, kw_3_135, by decide, by decide, by decide +kernel⟩
set_option maxHeartbeats 4000000 in
set_option maxRecDepth 100000 in
theorem c_X2_put (l : Launch) (D : va_G) (cy : Nat → ClassId) (G : Nat → Nat) (sz : Nat) (o : Nat) (w : Nat) (bi : Int32) (si : Int32) (f : Nat → Int64) (n : Nat) (j : Nat) (v : Int64) (es : si = nI n) (hj : j < n) (hn : n ≤ 40) : Met l yX2_put (wm yX2_put cX2_put 4 none) { frames := 0, cells := 0, slots := 0, locals := 0 } (va_Pc [.ref o, .int (nI j), .long v] (pr D (TY cy) G ([hO cy o w bi si, la cy w 40 f]) sz)) (va_Qv (fun (u : Unit) => True) (fun (u : Unit) t => po D (va_A ([hO cy o w bi si, la cy w 40 f]) sz) ([hO cy o w bi si, la cy w 40 (vp_updL f j (nrw bi v))]) t) (va_A ([hO cy o w bi si, la cy w 40 f]) sz)) 0 0 (va_A ([hO cy o w bi si, la cy w 40 f]) sz) := by
  refine mk_rw (by decide) RX2 rfl (Nat.le_of_ble_eq_true rfl) [(0, .ref o), (1, .int (nI j)), (2, .long v)] rfl ?_
  intro p e s m below meth c hx hb hml hown hr hlocks hin hw hsz hA hG hK H0 locs0 hP0 hD0 hS0 ls0 hl0
  clear hin
  refine lv_iload_n hx hb dX2_put_0 rfl (lv_at hl0 1 rfl) ?_
  refine lv_if_lt (tgt := 12) hx hb dX2_put_1 (by decide) (fun c => absurd c (nI_pos (by omega))) (fun _ => ?_)
  refine lv_iload_n hx hb dX2_put_4 rfl (lv_at hl0 1 rfl) ?_
  refine lv_aload_n hx hb dX2_put_5 rfl (lv_at hl0 0 rfl) ?_
  refine va_get (D := D) (ci := 2) (v := .int si) (C := RX2) (T := TX2) (N := 3) hx hb hw iX2 hown hK hP0 0 rfl rfl 2 (by decide) (hw _ kw_2_17) (fun _ h9 => h9) rfl dX2_put_6 ?_
  refine tp (show (si) = nI n from es) ?_
  refine ln_lt (tgt := 13) j n rfl rfl (by omega) (by omega) hx hb dX2_put_9 (by decide) (fun c_9 => ?_) (fun c_9 => absurd hj (by omega))
  refine lv_aload_n hx hb dX2_put_13 rfl (lv_at hl0 0 rfl) ?_
  refine va_get (D := D) (ci := 2) (v := .int bi) (C := RX2) (T := TX2) (N := 3) hx hb hw iX2 hown hK hP0 0 rfl rfl 1 (by decide) (hw _ kw_2_15) (fun _ h9 => h9) rfl dX2_put_14 ?_
  by_cases c_17_8 : bi = 8
  · refine tp c_17_8 ?_
    refine lv_lookup (off := 27) (tgt := 44) hx hb dX2_put_17 (by decide) (by decide) (by decide) ?_
    refine lv_aload_n hx hb dX2_put_44 rfl (lv_at hl0 0 rfl) ?_
    refine va_get (D := D) (ci := 2) (v := .ref w) (C := RX2) (T := TX2) (N := 3) hx hb hw iX2 hown hK hP0 0 rfl rfl 0 (by decide) (hw _ kw_2_13) (fun _ h9 => h9) rfl dX2_put_45 ?_
    refine lv_iload_n hx hb dX2_put_48 rfl (lv_at hl0 1 rfl) ?_
    refine lv_lload_n hx hb dX2_put_49 rfl (lv_at hl0 2 rfl) ?_
    refine lv_l2i hx hb dX2_put_50 rfl ?_
    refine lv_i2b hx hb dX2_put_51 rfl ?_
    refine lv_i2l hx hb dX2_put_52 rfl ?_
    refine tpl (show (v.toInt32.toInt8.toInt32.toInt64) = nrw bi v from by simp [nrw, c_9, c_17_8]) ?_
    refine ast_l (f := f) (ws' := [hO cy o w bi si, la cy w 40 (vp_updL f j (nrw bi v))]) hx hb hK hP0 hD0 hS0 1 1 rfl rfl j rfl (by first | omega | assumption) (by decide) rfl dX2_put_53 (fun H1 locs1 hP1 hD1 hS1 => ?_)
    clear hP0 hD0 hS0 locs0 H0
    refine lv_goto (tgt := 77) hx hb dX2_put_54 (by decide) ?_
    refine re_v () hx hb hr hlocks hP1 hD1 hS1 dX2_put_77 ?_
    exact (trivial)
  by_cases c_17_16 : bi = 16
  · refine tp c_17_16 ?_
    refine lv_lookup (off := 40) (tgt := 57) hx hb dX2_put_17 (by decide) (by decide) (by decide) ?_
    refine lv_aload_n hx hb dX2_put_57 rfl (lv_at hl0 0 rfl) ?_
    refine va_get (D := D) (ci := 2) (v := .ref w) (C := RX2) (T := TX2) (N := 3) hx hb hw iX2 hown hK hP0 0 rfl rfl 0 (by decide) (hw _ kw_2_13) (fun _ h9 => h9) rfl dX2_put_58 ?_
    refine lv_iload_n hx hb dX2_put_61 rfl (lv_at hl0 1 rfl) ?_
    refine lv_lload_n hx hb dX2_put_62 rfl (lv_at hl0 2 rfl) ?_
    refine lv_l2i hx hb dX2_put_63 rfl ?_
    refine lv_i2s hx hb dX2_put_64 rfl ?_
    refine lv_i2l hx hb dX2_put_65 rfl ?_
    refine tpl (show (v.toInt32.toInt16.toInt32.toInt64) = nrw bi v from by simp [nrw, c_9, c_17_8, c_17_16]) ?_
    refine ast_l (f := f) (ws' := [hO cy o w bi si, la cy w 40 (vp_updL f j (nrw bi v))]) hx hb hK hP0 hD0 hS0 1 1 rfl rfl j rfl (by first | omega | assumption) (by decide) rfl dX2_put_66 (fun H1 locs1 hP1 hD1 hS1 => ?_)
    clear hP0 hD0 hS0 locs0 H0
    refine lv_goto (tgt := 77) hx hb dX2_put_67 (by decide) ?_
    refine re_v () hx hb hr hlocks hP1 hD1 hS1 dX2_put_77 ?_
    exact (trivial)
  refine lv_lookup (off := 53) (tgt := 70) hx hb dX2_put_17 (by decide) (by simp only [Array.toList]; rw [lv_osw c_17_8 (by decide), lv_osw c_17_16 (by decide)]; rfl) (by decide) ?_
  refine lv_aload_n hx hb dX2_put_70 rfl (lv_at hl0 0 rfl) ?_
  refine va_get (D := D) (ci := 2) (v := .ref w) (C := RX2) (T := TX2) (N := 3) hx hb hw iX2 hown hK hP0 0 rfl rfl 0 (by decide) (hw _ kw_2_13) (fun _ h9 => h9) rfl dX2_put_71 ?_
  refine lv_iload_n hx hb dX2_put_74 rfl (lv_at hl0 1 rfl) ?_
  refine lv_lload_n hx hb dX2_put_75 rfl (lv_at hl0 2 rfl) ?_
  refine tpl (show (v) = nrw bi v from by simp [nrw, c_9, c_17_8, c_17_16]) ?_
  refine ast_l (f := f) (ws' := [hO cy o w bi si, la cy w 40 (vp_updL f j (nrw bi v))]) hx hb hK hP0 hD0 hS0 1 1 rfl rfl j rfl (by first | omega | assumption) (by decide) rfl dX2_put_76 (fun H1 locs1 hP1 hD1 hS1 => ?_)
  clear hP0 hD0 hS0 locs0 H0
  refine re_v () hx hb hr hlocks hP1 hD1 hS1 dX2_put_77 ?_
  exact (trivial)

theorem kc_X2_hasRow : kV yX2_hasRow cX2_hasRow 3 (some .boolean) 2 := ⟨kw_4_13, kw_4_14, kw_1_7, kw_4_15, by decide, by decide, by decide +kernel⟩
set_option maxHeartbeats 4000000 in
set_option maxRecDepth 100000 in
theorem c_X2_hasRow (l : Launch) (D : va_G) (cy : Nat → ClassId) (G : Nat → Nat) (sz : Nat) (o : Nat) (w : Nat) (bi : Int32) (si : Int32) (f : Nat → Int64) (x : Int32) (y : Int32)  : Met l yX2_hasRow (wm yX2_hasRow cX2_hasRow 3 (some .boolean)) { frames := 0, cells := 0, slots := 0, locals := 0 } (va_Pc [.ref o, .int x, .int y] (pd D (TY cy) G ([hO cy o w bi si, la cy w 40 f]) sz)) (va_Qi (fun r (_ : Unit) => r = b2i (0 ≤ x ∧ 0 ≤ y ∧ y ≤ si ∧ x ≤ si - y)) (fun _ _ => True) (va_A [] sz)) 0 0 (va_A [] sz) := by
  refine mk_rd (by decide) RX2 rfl (Nat.le_of_ble_eq_true rfl) [(0, .ref o), (1, .int x), (2, .int y)] rfl ?_
  intro p e s m below meth c hx hb hml hown hr hlocks hw hsz hA hG hK H0 locs0 hP0 hS0 ls0 hl0
  refine lv_iload_n hx hb dX2_hasRow_0 rfl (lv_at hl0 1 rfl) ?_
  refine lv_if_lt (tgt := 30) hx hb dX2_hasRow_1 (by decide) (fun c_1 => ?_) (fun c_1 => ?_)
  · refine lv_iconst (v := 0) hx hb dX2_hasRow_30 (by decide) ?_
    exact rd_z hx hb hr hlocks hS0 dX2_hasRow_31 rfl (by clear hx hb hml hown hr hlocks hw hsz hA hG hK hP0 hS0 hl0; grind [b2i])
  · refine lv_iload_n hx hb dX2_hasRow_4 rfl (lv_at hl0 2 rfl) ?_
    refine lv_if_lt (tgt := 30) hx hb dX2_hasRow_5 (by decide) (fun c_5 => ?_) (fun c_5 => ?_)
    · refine lv_iconst (v := 0) hx hb dX2_hasRow_30 (by decide) ?_
      exact rd_z hx hb hr hlocks hS0 dX2_hasRow_31 rfl (by clear hx hb hml hown hr hlocks hw hsz hA hG hK hP0 hS0 hl0; grind [b2i])
    · refine lv_iload_n hx hb dX2_hasRow_8 rfl (lv_at hl0 2 rfl) ?_
      refine lv_aload_n hx hb dX2_hasRow_9 rfl (lv_at hl0 0 rfl) ?_
      refine va_get (D := D) (ci := 2) (v := .int si) (C := RX2) (T := TX2) (N := 3) hx hb hw iX2 hown hK hP0 0 rfl rfl 2 (by decide) (hw _ kw_2_17) (fun _ h9 => h9) rfl dX2_hasRow_10 ?_
      refine lv_icmp_gt (tgt := 30) hx hb dX2_hasRow_13 (by decide) (fun c_13 => ?_) (fun c_13 => ?_)
      · refine lv_iconst (v := 0) hx hb dX2_hasRow_30 (by decide) ?_
        exact rd_z hx hb hr hlocks hS0 dX2_hasRow_31 rfl (by clear hx hb hml hown hr hlocks hw hsz hA hG hK hP0 hS0 hl0; grind [b2i])
      · refine lv_iload_n hx hb dX2_hasRow_16 rfl (lv_at hl0 1 rfl) ?_
        refine lv_aload_n hx hb dX2_hasRow_17 rfl (lv_at hl0 0 rfl) ?_
        refine va_get (D := D) (ci := 2) (v := .int si) (C := RX2) (T := TX2) (N := 3) hx hb hw iX2 hown hK hP0 0 rfl rfl 2 (by decide) (hw _ kw_2_17) (fun _ h9 => h9) rfl dX2_hasRow_18 ?_
        refine lv_iload_n hx hb dX2_hasRow_21 rfl (lv_at hl0 2 rfl) ?_
        refine lv_isub hx hb dX2_hasRow_22 ?_
        refine lv_icmp_gt (tgt := 30) hx hb dX2_hasRow_23 (by decide) (fun c_23 => ?_) (fun c_23 => ?_)
        · refine lv_iconst (v := 0) hx hb dX2_hasRow_30 (by decide) ?_
          exact rd_z hx hb hr hlocks hS0 dX2_hasRow_31 rfl (by clear hx hb hml hown hr hlocks hw hsz hA hG hK hP0 hS0 hl0; grind [b2i])
        · refine lv_iconst (v := 1) hx hb dX2_hasRow_26 (by decide) ?_
          refine lv_goto (tgt := 31) hx hb dX2_hasRow_27 (by decide) ?_
          exact rd_z hx hb hr hlocks hS0 dX2_hasRow_31 rfl (by clear hx hb hml hown hr hlocks hw hsz hA hG hK hP0 hS0 hl0; grind [b2i])

theorem kc_X2_init : kI yX2_init cX2_init 1 0 := ⟨kw_2_10, kw_1_7, kw_2_11, rfl, by decide, by decide, by decide +kernel⟩
set_option maxHeartbeats 4000000 in
set_option maxRecDepth 100000 in
theorem c_X2_init (l : Launch) (D : va_G) (cy : Nat → ClassId) (G : Nat → Nat) (sz : Nat) (h : Nat)  : Met l yX2_init (wm yX2_init cX2_init 1 none) { frames := 1, cells := 1, slots := 40, locals := 20 } (va_Pc [.ref h] (pr D (TY cy) G ([(h, .inr (2, [.null, .int 0, .int 0]))]) sz)) (va_Qv (fun (u : Nat) => True) (fun (u : Nat) t => po D (va_A ([(h, .inr (2, [.null, .int 0, .int 0]))]) sz) ([hO cy h u 0 0, la cy u 40 (fun _ => 0)]) t) (va_A ([(h, .inr (2, [.null, .int 0, .int 0]))]) sz)) 1 40 (va_A ([(h, .inr (2, [.null, .int 0, .int 0]))]) sz) := by
  refine mk_rw (by decide) RX2 rfl (Nat.le_of_ble_eq_true rfl) [(0, .ref h)] rfl ?_
  intro p e s m below meth c hx hb hml hown hr hlocks hin hw hsz hA hG hK H0 locs0 hP0 hD0 hS0 ls0 hl0
  have hin : meth.name = "<init>" := hin
  refine lv_aload_n hx hb dX2_init_0 rfl (lv_at hl0 0 rfl) ?_
  refine W.objInit hx hb hown (hw _ kw_2_12) (hw _ kw_1_22) (hw _ kw_1_23) rfl (by rw [hml]; exact hl0.1) rfl dX2_init_1 (Nat.le_of_ble_eq_true rfl) (Nat.le_of_ble_eq_true rfl) ?_
  refine W.eq (g2 := F0 m 4 ls0 []) rfl ?_
  refine lv_aload_n hx hb dX2_init_4 rfl (lv_at hl0 0 rfl) ?_
  refine lv_bipush (v := 40) hx hb dX2_init_5 (by decide) ?_
  refine nwa (atype := .long) (N' := 40) (a0 := (40, .inr (.inl (fun _ => 0)))) hx hb kw_2_26 hw rfl hK hP0 hD0 hS0 hA 1 rfl (fun c9 => nwa_long c9 40) (by decide) (by decide) (by decide) (Nat.le_of_ble_eq_true rfl) (Nat.le_of_ble_eq_true rfl) dX2_init_7 (fun q7 H1 locs1 hP1 hD1 hS1 => ?_)
  clear hP0 hD0 hS0 locs0 H0
  replace hP1 : va_P D vwCl ([(h, .inr (2, [.null, .int 0, .int 0])), la cy q7 40 (fun _ => 0)]) H1 := hP1
  replace hD1 : va_D (va_A _ sz) ([(h, .inr (2, [.null, .int 0, .int 0])), la cy q7 40 (fun _ => 0)]) := hD1
  refine ptF (D := D) (ci := 2) (v := .ref q7) (ty := tyX2 0) (C := RX2) (T := TX2) (N := 3) (ws' := [(h, .inr (2, [.ref q7, .int 0, .int 0])), la cy q7 40 (fun _ => 0)]) hx hb hw iX2 tyX2 tyX2_ok nmX2 hown hK hP1 hD1 hS1 0 rfl rfl 0 (by decide) kw_2_13 (fun _ h9 => h9) rfl hin rfl (by decide +kernel) rfl rfl (Nat.le_of_ble_eq_true rfl) rfl dX2_init_9 (fun H2 locs2 hP2 hD2 hS2 => ?_)
  clear hP1 hD1 hS1 locs1 H1
  refine lv_aload_n hx hb dX2_init_12 rfl (lv_at hl0 0 rfl) ?_
  refine lv_iconst (v := 0) hx hb dX2_init_13 (by decide) ?_
  refine pt (D := D) (ci := 2) (v := .int 0) (ty := .int) (C := RX2) (T := TX2) (N := 3) (ws' := [(h, .inr (2, [.ref q7, .int 0, .int 0])), la cy q7 40 (fun _ => 0)]) hx hb hw iX2 tyX2 tyX2_ok nmX2 hown hK hP2 hD2 hS2 0 rfl rfl 1 (by decide) kw_2_15 (fun _ h9 => h9) rfl (by decide +kernel) rfl rfl (Nat.le_of_ble_eq_true rfl) rfl dX2_init_14 (fun H3 locs3 hP3 hD3 hS3 => ?_)
  clear hP2 hD2 hS2 locs2 H2
  refine lv_aload_n hx hb dX2_init_17 rfl (lv_at hl0 0 rfl) ?_
  refine lv_iconst (v := 0) hx hb dX2_init_18 (by decide) ?_
  refine pt (D := D) (ci := 2) (v := .int 0) (ty := .int) (C := RX2) (T := TX2) (N := 3) (ws' := [(h, .inr (2, [.ref q7, .int 0, .int 0])), la cy q7 40 (fun _ => 0)]) hx hb hw iX2 tyX2 tyX2_ok nmX2 hown hK hP3 hD3 hS3 0 rfl rfl 2 (by decide) kw_2_17 (fun _ h9 => h9) rfl (by decide +kernel) rfl rfl (Nat.le_of_ble_eq_true rfl) rfl dX2_init_19 (fun H4 locs4 hP4 hD4 hS4 => ?_)
  clear hP3 hD3 hS3 locs3 H3
  have hq9 : ([(h, .inr (2, [.ref q7, .int 0, .int 0])), la cy q7 40 (fun _ => 0)]) = [hO cy h q7 0 0, la cy q7 40 (fun _ => 0)] := rfl
  replace hP4 := (congrArg (fun z9 => va_P D vwCl z9 _) hq9).mp hP4
  replace hD4 := (congrArg (fun z9 => va_D _ z9) hq9).mp hD4
  refine re_v q7 hx hb hr hlocks hP4 hD4 hS4 dX2_init_22 ?_
  exact (trivial)

theorem kc_X3_init : kI yX3_init cX3_init 1 0 := ⟨kw_1_216, kw_1_6, kw_1_217, rfl, by decide, by decide, by decide +kernel⟩
set_option maxHeartbeats 4000000 in
set_option maxRecDepth 100000 in
theorem c_X3_init (l : Launch) (D : va_G) (cy : Nat → ClassId) (G : Nat → Nat) (sz : Nat) (h : Nat)  : Met l yX3_init (wm yX3_init cX3_init 1 none) { frames := 1, cells := 1, slots := 120, locals := 20 } (va_Pc [.ref h] (pr D (TY cy) G ([(h, .inr (3, [.null, .int 0]))]) sz)) (va_Qv (fun (u : (Nat → Nat)) => u 1 = h) (fun (u : (Nat → Nat)) t => po D (va_A ([(h, .inr (3, [.null, .int 0]))]) sz) ([pO cy u (nI 0), ia cy (u 2) 120 (fun _ => 0)]) t) (va_A ([(h, .inr (3, [.null, .int 0]))]) sz)) 1 120 (va_A ([(h, .inr (3, [.null, .int 0]))]) sz) := by
  refine mk_rw (by decide) RX3 rfl (Nat.le_of_ble_eq_true rfl) [(0, .ref h)] rfl ?_
  intro p e s m below meth c hx hb hml hown hr hlocks hin hw hsz hA hG hK H0 locs0 hP0 hD0 hS0 ls0 hl0
  have hin : meth.name = "<init>" := hin
  refine lv_aload_n hx hb dX3_init_0 rfl (lv_at hl0 0 rfl) ?_
  refine W.objInit hx hb hown (hw _ kw_1_218) (hw _ kw_1_22) (hw _ kw_1_23) rfl (by rw [hml]; exact hl0.1) rfl dX3_init_1 (Nat.le_of_ble_eq_true rfl) (Nat.le_of_ble_eq_true rfl) ?_
  refine W.eq (g2 := F0 m 4 ls0 []) rfl ?_
  refine lv_aload_n hx hb dX3_init_4 rfl (lv_at hl0 0 rfl) ?_
  refine lv_bipush (v := 120) hx hb dX3_init_5 (by decide) ?_
  refine nwa (atype := .int) (N' := 120) (a0 := (120, .inl (fun _ => 0))) hx hb kw_1_92 hw rfl hK hP0 hD0 hS0 hA 0 rfl (fun c9 => nwa_int c9 120) (by decide) (by decide) (by decide) (Nat.le_of_ble_eq_true rfl) (Nat.le_of_ble_eq_true rfl) dX3_init_7 (fun q7 H1 locs1 hP1 hD1 hS1 => ?_)
  clear hP0 hD0 hS0 locs0 H0
  replace hP1 : va_P D vwCl ([(h, .inr (3, [.null, .int 0])), ia cy q7 120 (fun _ => 0)]) H1 := hP1
  replace hD1 : va_D (va_A _ sz) ([(h, .inr (3, [.null, .int 0])), ia cy q7 120 (fun _ => 0)]) := hD1
  refine ptF (D := D) (ci := 3) (v := .ref q7) (ty := tyX3 0) (C := RX3) (T := TX3) (N := 2) (ws' := [(h, .inr (3, [.ref q7, .int 0])), ia cy q7 120 (fun _ => 0)]) hx hb hw iX3 tyX3 tyX3_ok nmX3 hown hK hP1 hD1 hS1 0 rfl rfl 0 (by decide) kw_1_219 (fun _ h9 => h9) rfl hin rfl (by decide +kernel) rfl rfl (Nat.le_of_ble_eq_true rfl) rfl dX3_init_9 (fun H2 locs2 hP2 hD2 hS2 => ?_)
  clear hP1 hD1 hS1 locs1 H1
  refine lv_aload_n hx hb dX3_init_12 rfl (lv_at hl0 0 rfl) ?_
  refine lv_iconst (v := 0) hx hb dX3_init_13 (by decide) ?_
  refine pt (D := D) (ci := 3) (v := .int 0) (ty := .int) (C := RX3) (T := TX3) (N := 2) (ws' := [(h, .inr (3, [.ref q7, .int 0])), ia cy q7 120 (fun _ => 0)]) hx hb hw iX3 tyX3 tyX3_ok nmX3 hown hK hP2 hD2 hS2 0 rfl rfl 1 (by decide) kw_1_220 (fun _ h9 => h9) rfl (by decide +kernel) rfl rfl (Nat.le_of_ble_eq_true rfl) rfl dX3_init_14 (fun H3 locs3 hP3 hD3 hS3 => ?_)
  clear hP2 hD2 hS2 locs2 H2
  have hq9 : ([(h, .inr (3, [.ref q7, .int 0])), ia cy q7 120 (fun _ => 0)]) = [pO cy (fun k => ([0, h, q7] : List Nat).getD k 0) (nI 0), ia cy ((fun k => ([0, h, q7] : List Nat).getD k 0) 2) 120 (fun _ => 0)] := rfl
  replace hP3 := (congrArg (fun z9 => va_P D vwCl z9 _) hq9).mp hP3
  replace hD3 := (congrArg (fun z9 => va_D _ z9) hq9).mp hD3
  refine re_v (fun k => ([0, h, q7] : List Nat).getD k 0) hx hb hr hlocks hP3 hD3 hS3 dX3_init_17 ?_
  exact (rfl)
