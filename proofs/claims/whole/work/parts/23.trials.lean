theorem kc_X6_leanOf : kT yX6_leanOf cX6_leanOf 3 (some .int) 1 := ⟨kw_3_93, kw_1_1, kw_3_94, by decide, by decide, by decide +kernel⟩
set_option maxHeartbeats 4000000 in
set_option maxRecDepth 100000 in
theorem c_X6_leanOf (l : Launch) (D : va_G) (cy : Nat → ClassId) (G : Nat → Nat) (sz : Nat) (f : Int32)  : Met l yX6_leanOf (wm yX6_leanOf cX6_leanOf 3 (some .int)) { frames := 1, cells := 0, slots := 0, locals := 21 } (va_Pc [.int f] (pd D (TY cy) G ([]) sz)) (va_Qi (fun r (_ : Unit) => r = lean f) (fun _ _ => True) (va_A [] sz)) 0 0 (va_A [] sz) := by
  refine mk_rd (by decide) RX6 rfl (Nat.le_of_ble_eq_true rfl) [(0, .int f)] rfl ?_
  intro p e s m below meth c hx hb hml hown hr hlocks hw hsz hA hG hK H0 locs0 hP0 hS0 ls0 hl0
  refine lv_iload_n hx hb dX6_leanOf_0 rfl (lv_at hl0 0 rfl) ?_
  refine va_mabs hx hb (by rw [hml]; exact hl0.1.symm) hown (hw _ kw_3_95) (hw _ kw_3_96) (hw _ kw_1_10) (hw _ kwm_abs) (Nat.le_of_ble_eq_true rfl) (Nat.le_of_ble_eq_true rfl) (Nat.le_of_ble_eq_true rfl) (Nat.le_of_ble_eq_true rfl) dX6_leanOf_1 ?_
  refine lv_istore_n (lv' := [(1, .int (if 0 ≤ f then f else 0 - f)), (0, .int f)]) hx hb dX6_leanOf_4 rfl hl0 (by decide) rfl (fun ls1 hl1 => ?_)
  clear hl0 ls0
  refine lv_iload_n hx hb dX6_leanOf_5 rfl (lv_at hl1 0 rfl) ?_
  refine lv_iconst (v := 5) hx hb dX6_leanOf_6 (by decide) ?_
  refine lv_icmp_ge (tgt := 12) hx hb dX6_leanOf_7 (by decide) (fun c_7 => ?_) (fun c_7 => ?_)
  · refine lv_iload_n hx hb dX6_leanOf_12 rfl (lv_at hl1 0 rfl) ?_
    refine lv_bipush (v := 20) hx hb dX6_leanOf_13 (by decide) ?_
    refine lv_idiv hx hb dX6_leanOf_15 (by decide) ?_
    refine lv_iconst (v := 1) hx hb dX6_leanOf_16 (by decide) ?_
    refine lv_iadd hx hb dX6_leanOf_17 ?_
    refine lv_bipush (v := 9) hx hb dX6_leanOf_18 (by decide) ?_
    refine va_mmin hx hb (by rw [hml]; exact hl1.1.symm) hown (hw _ kw_3_98) (hw _ kw_2_179) (hw _ kw_1_10) (hw _ kwm_min) (Nat.le_of_ble_eq_true rfl) (Nat.le_of_ble_eq_true rfl) (Nat.le_of_ble_eq_true rfl) (Nat.le_of_ble_eq_true rfl) dX6_leanOf_20 ?_
    refine lv_istore_n (lv' := [(2, .int (if 9 < (((if 0 ≤ f then f else 0 - f) / 20) + 1) then 9 else (((if 0 ≤ f then f else 0 - f) / 20) + 1))), (1, .int (if 0 ≤ f then f else 0 - f)), (0, .int f)]) hx hb dX6_leanOf_23 rfl hl1 (by decide) rfl (fun ls2 hl2 => ?_)
    clear hl1 ls1
    refine lv_iload_n hx hb dX6_leanOf_24 rfl (lv_at hl2 2 rfl) ?_
    refine lv_if_ge (tgt := 33) hx hb dX6_leanOf_25 (by decide) (fun c_25 => ?_) (fun c_25 => ?_)
    · refine lv_iload_n hx hb dX6_leanOf_33 rfl (lv_at hl2 0 rfl) ?_
      exact rd_i hx hb hr hlocks hS0 dX6_leanOf_34 (by simp only [lean]; clear hx hb hml hown hr hlocks hw hsz hA hG hK hP0 hS0 hl2; grind [absI])
    · refine lv_iload_n hx hb dX6_leanOf_28 rfl (lv_at hl2 0 rfl) ?_
      refine lv_ineg hx hb dX6_leanOf_29 ?_
      refine lv_goto (tgt := 34) hx hb dX6_leanOf_30 (by decide) ?_
      exact rd_i hx hb hr hlocks hS0 dX6_leanOf_34 (by simp only [lean]; clear hx hb hml hown hr hlocks hw hsz hA hG hK hP0 hS0 hl2; grind [absI])
  · refine lv_iconst (v := 0) hx hb dX6_leanOf_10 (by decide) ?_
    exact rd_i hx hb hr hlocks hS0 dX6_leanOf_11 (by simp only [lean]; clear hx hb hml hown hr hlocks hw hsz hA hG hK hP0 hS0 hl1; grind [absI])

theorem kc_X5_settleWithout : kV yX5_settleWithout cX5_settleWithout 3 none 2 := ⟨kw_3_221, kw_3_222, kw_1_4, kw_3_223, by decide, by decide, by decide +kernel⟩
set_option maxHeartbeats 4000000 in
set_option maxRecDepth 100000 in
theorem c_X5_settleWithout (l : Launch) (D : va_G) (cy : Nat → ClassId) (G : Nat → Nat) (sz : Nat) (w : Nat → Nat) (b : Nat → Nat) (x : Nat → Nat) (wc : Int32) (lw : Int32) (gw : Int32) (ss : Int32) (sl : Int32) (sc : Int32) (sp : Int32) (P : Nat → Int32) (F : Nat → Int32) (N : Nat → Int32) (B : Nat → Int32) (O : Nat → Int32) (Sd : Nat → Int32) (Dv : Nat → Int32) (L : Nat → Nat → Int32) (rc : Int32) (re : Int32) (fr : Int32) (lo : Int32) (sm : Int32) (X : Nat → Int32) (a : Nat → Nat) (S : Nat → Int32) (j : Nat) (hX : can X) (wf : wf S) (hj : j < 20) : Met l yX5_settleWithout (wm yX5_settleWithout cX5_settleWithout 3 none) { frames := 5, cells := 0, slots := 0, locals := 109 } (va_Pc [.ref (w 0), .ref (a 0), .int (nI j)] (pr D (TY cy) G ([tO cy w b x wc lw gw ss sl sc sp] ++ (aS cy b P F N B O Sd Dv L rc re fr lo sm ++ (pS cy x X ++ (pS cy a S)))) sz)) (va_Qv (fun (u : (Nat → Int32) × (Nat → Int32) × (Nat → Int32) × (Nat → Int32) × (Nat → Int32) × (Nat → Int32) × (Nat → Nat → Int32)) => ∀ g, g < gcN S → u.1 g = flow (upd S (16 + 8 * j) 1) (PR (upd S (16 + 8 * j) 1)) g) (fun (u : (Nat → Int32) × (Nat → Int32) × (Nat → Int32) × (Nat → Int32) × (Nat → Int32) × (Nat → Int32) × (Nat → Nat → Int32)) t => po D (va_A ([tO cy w b x wc lw gw ss sl sc sp] ++ (aS cy b P F N B O Sd Dv L rc re fr lo sm ++ (pS cy x X ++ (pS cy a S)))) sz) ([tO cy w b x wc lw gw ss sl sc sp] ++ (aS cy b (PR (upd S (16 + 8 * j) 1)) u.1 u.2.1 u.2.2.1 u.2.2.2.1 u.2.2.2.2.1 u.2.2.2.2.2.1 u.2.2.2.2.2.2 (nI (RC (upd S (16 + 8 * j) 1))) (b2i (RC (upd S (16 + 8 * j) 1) = 60)) (fresh (upd S (16 + 8 * j) 1)) (lost (upd S (16 + 8 * j) 1)) (b2i (smokes (upd S (16 + 8 * j) 1) = true)) ++ (pS cy x (upd S (16 + 8 * j) 1) ++ (pS cy a S)))) t) (va_A ([tO cy w b x wc lw gw ss sl sc sp] ++ (aS cy b P F N B O Sd Dv L rc re fr lo sm ++ (pS cy x X ++ (pS cy a S)))) sz)) 0 0 (va_A ([tO cy w b x wc lw gw ss sl sc sp] ++ (aS cy b P F N B O Sd Dv L rc re fr lo sm ++ (pS cy x X ++ (pS cy a S)))) sz) := by
  refine mk_rw (by decide) RX5 rfl (Nat.le_of_ble_eq_true rfl) [(0, .ref (w 0)), (1, .ref (a 0)), (2, .int (nI j))] rfl ?_
  intro p e s m below meth c hx hb hml hown hr hlocks hin hw hsz hA hG hK H0 locs0 hP0 hD0 hS0 ls0 hl0
  clear hin
  refine lv_aload_n hx hb dX5_settleWithout_0 rfl (lv_at hl0 0 rfl) ?_
  refine va_get (D := D) (ci := 5) (v := .ref (x 0)) (C := RX5) (T := TX5) (N := 11) hx hb hw iX5 hown hK hP0 0 rfl rfl 10 (by decide) (hw _ kw_1_183) (fun _ h9 => h9) rfl dX5_settleWithout_1 ?_
  refine lv_aload_n hx hb dX5_settleWithout_4 rfl (lv_at hl0 1 rfl) ?_
  refine cV_v (wc := pS cy x X ++ (pS cy a S)) (wr := [tO cy w b x wc lw gw ss sl sc sp] ++ (aS cy b P F N B O Sd Dv L rc re fr lo sm)) (rest := []) hx hb hml hown hw hG hK hP0 hD0 hS0 hA hl0 kc_X1_takeFrom kw_3_144 [.ref (a 0)] (c_X1_takeFrom l D cy G H0.size x X a S hX (wf_can wf)) [16, 17, 18, 19, 20, 21, 22, 23, 24, 25, 26, 27, 28, 29, 30, 31, 32, 33, 34, 35] [0, 1, 2, 3, 4, 5, 6, 7, 8, 9, 10, 11, 12, 13, 14, 15] rfl rfl rfl rfl rfl 0 rfl rfl rfl rfl rfl (Nat.le_of_ble_eq_true rfl) ⟨Nat.le_of_ble_eq_true rfl, Nat.le_of_ble_eq_true rfl⟩ dX5_settleWithout_5 ⟨Nat.le_of_ble_eq_true rfl, Nat.le_of_ble_eq_true rfl⟩ (fun u9 H1 locs1 hu9 hP1 hD1 hS1 => ?_)
  clear hP0 hD0 hS0 locs0 H0
  replace hP1 : va_P D vwCl ([tO cy w b x wc lw gw ss sl sc sp] ++ (aS cy b P F N B O Sd Dv L rc re fr lo sm ++ (pS cy x S ++ (pS cy a S)))) H1 := hP1
  replace hD1 : va_D (va_A _ sz) ([tO cy w b x wc lw gw ss sl sc sp] ++ (aS cy b P F N B O Sd Dv L rc re fr lo sm ++ (pS cy x S ++ (pS cy a S)))) := hD1
  refine lv_aload_n hx hb dX5_settleWithout_8 rfl (lv_at hl0 0 rfl) ?_
  refine va_get (D := D) (ci := 5) (v := .ref (x 0)) (C := RX5) (T := TX5) (N := 11) hx hb hw iX5 hown hK hP1 0 rfl rfl 10 (by decide) (hw _ kw_1_183) (fun _ h9 => h9) rfl dX5_settleWithout_9 ?_
  refine va_get (D := D) (ci := 1) (v := .ref (x 8)) (C := RX1) (T := TX1) (N := 12) hx hb hw iX1 hown hK hP1 16 rfl rfl 9 (by decide) (hw _ kw_1_58) (fun _ h9 => h9) rfl dX5_settleWithout_12 ?_
  refine lv_iload_n hx hb dX5_settleWithout_15 rfl (lv_at hl0 2 rfl) ?_
  refine lv_iconst (v := 1) hx hb dX5_settleWithout_16 (by decide) ?_
  refine ast_z (f := fun g => S (16 + 8 * g)) (ws' := [tO cy w b x wc lw gw ss sl sc sp] ++ (aS cy b P F N B O Sd Dv L rc re fr lo sm ++ (pS cy x (upd S (16 + 8 * j) 1) ++ (pS cy a S)))) hx hb hK hP1 hD1 hS1 24 2 rfl rfl j rfl (by first | omega | assumption) (by decide) (Or.inr rfl) (congrArg (fun z => [tO cy w b x wc lw gw ss sl sc sp] ++ (aS cy b P F N B O Sd Dv L rc re fr lo sm ++ (z ++ (pS cy a S)))) (pS_a7 cy x S j 1)) dX5_settleWithout_17 (fun H2 locs2 hP2 hD2 hS2 => ?_)
  clear hP1 hD1 hS1 locs1 H1
  refine lv_aload_n hx hb dX5_settleWithout_18 rfl (lv_at hl0 0 rfl) ?_
  refine va_get (D := D) (ci := 5) (v := .ref (b 0)) (C := RX5) (T := TX5) (N := 11) hx hb hw iX5 hown hK hP2 0 rfl rfl 0 (by decide) (hw _ kw_1_163) (fun _ h9 => h9) rfl dX5_settleWithout_19 ?_
  refine lv_aload_n hx hb dX5_settleWithout_22 rfl (lv_at hl0 0 rfl) ?_
  refine va_get (D := D) (ci := 5) (v := .ref (x 0)) (C := RX5) (T := TX5) (N := 11) hx hb hw iX5 hown hK hP2 0 rfl rfl 10 (by decide) (hw _ kw_1_183) (fun _ h9 => h9) rfl dX5_settleWithout_23 ?_
  refine cV_v (wc := aS cy b P F N B O Sd Dv L rc re fr lo sm ++ (pS cy x (upd S (16 + 8 * j) 1))) (wr := [tO cy w b x wc lw gw ss sl sc sp] ++ (pS cy a S)) (rest := []) hx hb hml hown hw hG hK hP2 hD2 hS2 hA hl0 kc_X0_settle kw_3_145 [.ref (x 0)] (c_X0_settle l D cy G H2.size b P F N B O Sd Dv L rc re fr lo sm x (upd S (16 + 8 * j) 1) ((wf_sh wf hj (Or.inr rfl)).1)) [1, 2, 3, 4, 5, 6, 7, 8, 9, 10, 11, 12, 13, 14, 15, 16, 17, 18, 19, 20, 21, 22, 23, 24, 25] [0, 26, 27, 28, 29, 30, 31, 32, 33, 34, 35] rfl rfl rfl rfl rfl 0 rfl rfl rfl rfl rfl (Nat.le_of_ble_eq_true rfl) ⟨Nat.le_of_ble_eq_true rfl, Nat.le_of_ble_eq_true rfl⟩ dX5_settleWithout_26 ⟨Nat.le_of_ble_eq_true rfl, Nat.le_of_ble_eq_true rfl⟩ (fun u9 H3 locs3 hu9 hP3 hD3 hS3 => ?_)
  clear hP2 hD2 hS2 locs2 H2
  obtain ⟨F1_26, N1_26, B1_26, O1_26, Sd1_26, Dv1_26, L1_26⟩ := u9
  have hF_26 := hu9
  replace hF_26 : ∀ g, g < gcN (upd S (16 + 8 * j) 1) → F1_26 g = flow (upd S (16 + 8 * j) 1) (PR (upd S (16 + 8 * j) 1)) g := hF_26
  replace hP3 : va_P D vwCl ([tO cy w b x wc lw gw ss sl sc sp] ++ (pS cy a S ++ (aS cy b (PR (upd S (16 + 8 * j) 1)) F1_26 N1_26 B1_26 O1_26 Sd1_26 Dv1_26 L1_26 (nI (RC (upd S (16 + 8 * j) 1))) (b2i (RC (upd S (16 + 8 * j) 1) = 60)) (fresh (upd S (16 + 8 * j) 1)) (lost (upd S (16 + 8 * j) 1)) (b2i (smokes (upd S (16 + 8 * j) 1) = true)) ++ (pS cy x (upd S (16 + 8 * j) 1))))) H3 := hP3
  replace hD3 : va_D (va_A _ sz) ([tO cy w b x wc lw gw ss sl sc sp] ++ (pS cy a S ++ (aS cy b (PR (upd S (16 + 8 * j) 1)) F1_26 N1_26 B1_26 O1_26 Sd1_26 Dv1_26 L1_26 (nI (RC (upd S (16 + 8 * j) 1))) (b2i (RC (upd S (16 + 8 * j) 1) = 60)) (fresh (upd S (16 + 8 * j) 1)) (lost (upd S (16 + 8 * j) 1)) (b2i (smokes (upd S (16 + 8 * j) 1) = true)) ++ (pS cy x (upd S (16 + 8 * j) 1))))) := hD3
  replace hP3 := hP3.sub (ws' := [tO cy w b x wc lw gw ss sl sc sp] ++ (aS cy b (PR (upd S (16 + 8 * j) 1)) F1_26 N1_26 B1_26 O1_26 Sd1_26 Dv1_26 L1_26 (nI (RC (upd S (16 + 8 * j) 1))) (b2i (RC (upd S (16 + 8 * j) 1) = 60)) (fresh (upd S (16 + 8 * j) 1)) (lost (upd S (16 + 8 * j) 1)) (b2i (smokes (upd S (16 + 8 * j) 1) = true)) ++ (pS cy x (upd S (16 + 8 * j) 1) ++ (pS cy a S)))) [0, 11, 12, 13, 14, 15, 16, 17, 18, 19, 20, 21, 22, 23, 24, 25, 26, 27, 28, 29, 30, 31, 32, 33, 34, 35, 1, 2, 3, 4, 5, 6, 7, 8, 9, 10] rfl
  replace hD3 := hD3.sub (ws' := [tO cy w b x wc lw gw ss sl sc sp] ++ (aS cy b (PR (upd S (16 + 8 * j) 1)) F1_26 N1_26 B1_26 O1_26 Sd1_26 Dv1_26 L1_26 (nI (RC (upd S (16 + 8 * j) 1))) (b2i (RC (upd S (16 + 8 * j) 1) = 60)) (fresh (upd S (16 + 8 * j) 1)) (lost (upd S (16 + 8 * j) 1)) (b2i (smokes (upd S (16 + 8 * j) 1) = true)) ++ (pS cy x (upd S (16 + 8 * j) 1) ++ (pS cy a S)))) [0, 11, 12, 13, 14, 15, 16, 17, 18, 19, 20, 21, 22, 23, 24, 25, 26, 27, 28, 29, 30, 31, 32, 33, 34, 35, 1, 2, 3, 4, 5, 6, 7, 8, 9, 10] (by decide) rfl
  refine re_v (F1_26, N1_26, B1_26, O1_26, Sd1_26, Dv1_26, L1_26) hx hb hr hlocks hP3 hD3 hS3 dX5_settleWithout_29 ?_
  exact (fun g hg => hF_26 g (by rw [(wf_sh wf hj (Or.inr rfl)).2.2.1]; exact hg))

theorem kc_X5_findWidths : kV yX5_findWidths cX5_findWidths 5 none 3 := ⟨kw_3_141, kw_3_142, kw_1_4, kw_3_143, by decide, by decide, by decide +kernel⟩
set_option maxHeartbeats 4000000 in
set_option maxRecDepth 100000 in
theorem c_X5_findWidths (l : Launch) (D : va_G) (cy : Nat → ClassId) (G : Nat → Nat) (sz : Nat) (w : Nat → Nat) (b : Nat → Nat) (x : Nat → Nat) (wc : Int32) (lw : Int32) (gw : Int32) (ss : Int32) (sl : Int32) (sc : Int32) (sp : Int32) (P : Nat → Int32) (F : Nat → Int32) (N : Nat → Int32) (B : Nat → Int32) (O : Nat → Int32) (Sd : Nat → Int32) (Dv : Nat → Int32) (L : Nat → Nat → Int32) (rc : Int32) (re : Int32) (fr : Int32) (lo : Int32) (sm : Int32) (X : Nat → Int32) (a : Nat → Nat) (S : Nat → Int32) (j : Nat) (q : Int32) (hX : can X) (wf : wf S) (hj : j < gcN S) : Met l yX5_findWidths (wm yX5_findWidths cX5_findWidths 5 none) { frames := 5, cells := 0, slots := 0, locals := 109 } (va_Pc [.ref (w 0), .ref (a 0), .int (nI j), .int q] (pr D (TY cy) G ([tO cy w b x wc lw gw ss sl sc sp] ++ (aS cy b P F N B O Sd Dv L rc re fr lo sm ++ (pS cy x X ++ (pS cy a S)))) sz)) (va_Qv (fun (u : (Nat → Int32) × (Nat → Int32) × (Nat → Int32) × (Nat → Int32) × (Nat → Int32) × (Nat → Int32) × (Nat → Int32) × (Nat → Nat → Int32) × Int32 × Int32 × Int32 × Int32 × Int32 × (Nat → Int32) × Int32 × Int32) => (can u.2.2.2.2.2.2.2.2.2.2.2.2.2.1) ∧ (cntN (okW S j q) 100 ≠ 0 → u.2.2.2.2.2.2.2.2.2.2.2.2.2.2.1 = nI (lowN (okW S j q) 100) ∧ u.2.2.2.2.2.2.2.2.2.2.2.2.2.2.2 = nI (hiN (okW S j q) 100))) (fun (u : (Nat → Int32) × (Nat → Int32) × (Nat → Int32) × (Nat → Int32) × (Nat → Int32) × (Nat → Int32) × (Nat → Int32) × (Nat → Nat → Int32) × Int32 × Int32 × Int32 × Int32 × Int32 × (Nat → Int32) × Int32 × Int32) t => po D (va_A ([tO cy w b x wc lw gw ss sl sc sp] ++ (aS cy b P F N B O Sd Dv L rc re fr lo sm ++ (pS cy x X ++ (pS cy a S)))) sz) ([tO cy w b x (nI (cntN (okW S j q) 100)) u.2.2.2.2.2.2.2.2.2.2.2.2.2.2.1 u.2.2.2.2.2.2.2.2.2.2.2.2.2.2.2 ss sl sc sp] ++ (aS cy b u.1 u.2.1 u.2.2.1 u.2.2.2.1 u.2.2.2.2.1 u.2.2.2.2.2.1 u.2.2.2.2.2.2.1 u.2.2.2.2.2.2.2.1 u.2.2.2.2.2.2.2.2.1 u.2.2.2.2.2.2.2.2.2.1 u.2.2.2.2.2.2.2.2.2.2.1 u.2.2.2.2.2.2.2.2.2.2.2.1 u.2.2.2.2.2.2.2.2.2.2.2.2.1 ++ (pS cy x u.2.2.2.2.2.2.2.2.2.2.2.2.2.1 ++ (pS cy a S)))) t) (va_A ([tO cy w b x wc lw gw ss sl sc sp] ++ (aS cy b P F N B O Sd Dv L rc re fr lo sm ++ (pS cy x X ++ (pS cy a S)))) sz)) 0 0 (va_A ([tO cy w b x wc lw gw ss sl sc sp] ++ (aS cy b P F N B O Sd Dv L rc re fr lo sm ++ (pS cy x X ++ (pS cy a S)))) sz) := by
  refine mk_rw (by decide) RX5 rfl (Nat.le_of_ble_eq_true rfl) [(0, .ref (w 0)), (1, .ref (a 0)), (2, .int (nI j)), (3, .int q)] rfl ?_
  intro p e s m below meth c hx hb hml hown hr hlocks hin hw hsz hA hG hK H0 locs0 hP0 hD0 hS0 ls0 hl0
  clear hin
  have hg20 := wf_g20 wf
  have hr6 := wf_r6 wf
  have hj20 : j < 20 := by omega
  refine lv_aload_n hx hb dX5_findWidths_0 rfl (lv_at hl0 0 rfl) ?_
  refine va_get (D := D) (ci := 5) (v := .ref (x 0)) (C := RX5) (T := TX5) (N := 11) hx hb hw iX5 hown hK hP0 0 rfl rfl 10 (by decide) (hw _ kw_1_183) (fun _ h9 => h9) rfl dX5_findWidths_1 ?_
  refine lv_aload_n hx hb dX5_findWidths_4 rfl (lv_at hl0 1 rfl) ?_
  refine cV_v (wc := pS cy x X ++ (pS cy a S)) (wr := [tO cy w b x wc lw gw ss sl sc sp] ++ (aS cy b P F N B O Sd Dv L rc re fr lo sm)) (rest := []) hx hb hml hown hw hG hK hP0 hD0 hS0 hA hl0 kc_X1_takeFrom kw_3_144 [.ref (a 0)] (c_X1_takeFrom l D cy G H0.size x X a S hX (wf_can wf)) [16, 17, 18, 19, 20, 21, 22, 23, 24, 25, 26, 27, 28, 29, 30, 31, 32, 33, 34, 35] [0, 1, 2, 3, 4, 5, 6, 7, 8, 9, 10, 11, 12, 13, 14, 15] rfl rfl rfl rfl rfl 0 rfl rfl rfl rfl rfl (Nat.le_of_ble_eq_true rfl) ⟨Nat.le_of_ble_eq_true rfl, Nat.le_of_ble_eq_true rfl⟩ dX5_findWidths_5 ⟨Nat.le_of_ble_eq_true rfl, Nat.le_of_ble_eq_true rfl⟩ (fun u9 H1 locs1 hu9 hP1 hD1 hS1 => ?_)
  clear hP0 hD0 hS0 locs0 H0
  replace hP1 : va_P D vwCl ([tO cy w b x wc lw gw ss sl sc sp] ++ (aS cy b P F N B O Sd Dv L rc re fr lo sm ++ (pS cy x S ++ (pS cy a S)))) H1 := hP1
  replace hD1 : va_D (va_A _ sz) ([tO cy w b x wc lw gw ss sl sc sp] ++ (aS cy b P F N B O Sd Dv L rc re fr lo sm ++ (pS cy x S ++ (pS cy a S)))) := hD1
  refine lv_aload_n hx hb dX5_findWidths_8 rfl (lv_at hl0 0 rfl) ?_
  refine lv_iconst (v := 0) hx hb dX5_findWidths_9 (by decide) ?_
  refine pt (D := D) (ci := 5) (v := .int 0) (ty := .int) (C := RX5) (T := TX5) (N := 11) (ws' := [tO cy w b x 0 lw gw ss sl sc sp] ++ (aS cy b P F N B O Sd Dv L rc re fr lo sm ++ (pS cy x S ++ (pS cy a S)))) hx hb hw iX5 tyX5 tyX5_ok nmX5 hown hK hP1 hD1 hS1 0 rfl rfl 1 (by decide) kw_1_165 (fun _ h9 => h9) rfl (by decide +kernel) rfl rfl (Nat.le_of_ble_eq_true rfl) rfl dX5_findWidths_10 (fun H2 locs2 hP2 hD2 hS2 => ?_)
  clear hP1 hD1 hS1 locs1 H1
  refine lv_iconst (v := 0) hx hb dX5_findWidths_13 (by decide) ?_
  refine lv_istore (lv' := [(4, .int 0), (0, .ref (w 0)), (1, .ref (a 0)), (2, .int (nI j)), (3, .int q)]) hx hb dX5_findWidths_14 hl0 (by decide) rfl (fun ls1 hl1 => ?_)
  clear hl0 ls0
  refine wlp (ι := Nat × (Nat → Int32) × (Nat → Int32) × (Nat → Int32) × (Nat → Int32) × (Nat → Int32) × (Nat → Int32) × (Nat → Int32) × (Nat → Nat → Int32) × Int32 × Int32 × Int32 × Int32 × Int32 × (Nat → Int32) × Int32 × Int32) (nL := 5) (fun x9 => (x9.1 ≤ 100) ∧ (can x9.2.2.2.2.2.2.2.2.2.2.2.2.2.2.1) ∧ (∀ v : Int32, upd x9.2.2.2.2.2.2.2.2.2.2.2.2.2.2.1 (12 + 8 * j) v = upd S (12 + 8 * j) v) ∧ (cntN (okW S j q) x9.1 ≠ 0 → x9.2.2.2.2.2.2.2.2.2.2.2.2.2.2.2.1 = nI (lowN (okW S j q) x9.1) ∧ x9.2.2.2.2.2.2.2.2.2.2.2.2.2.2.2.2 = nI (hiN (okW S j q) x9.1))) (fun x9 => [tO cy w b x (nI (cntN (okW S j q) x9.1)) x9.2.2.2.2.2.2.2.2.2.2.2.2.2.2.2.1 x9.2.2.2.2.2.2.2.2.2.2.2.2.2.2.2.2 ss sl sc sp] ++ (aS cy b x9.2.1 x9.2.2.1 x9.2.2.2.1 x9.2.2.2.2.1 x9.2.2.2.2.2.1 x9.2.2.2.2.2.2.1 x9.2.2.2.2.2.2.2.1 x9.2.2.2.2.2.2.2.2.1 x9.2.2.2.2.2.2.2.2.2.1 x9.2.2.2.2.2.2.2.2.2.2.1 x9.2.2.2.2.2.2.2.2.2.2.2.1 x9.2.2.2.2.2.2.2.2.2.2.2.2.1 x9.2.2.2.2.2.2.2.2.2.2.2.2.2.1 ++ (pS cy x x9.2.2.2.2.2.2.2.2.2.2.2.2.2.2.1 ++ (pS cy a S)))) (fun x9 => [(4, .int (nI x9.1)), (0, .ref (w 0)), (1, .ref (a 0)), (2, .int (nI j)), (3, .int q)]) (fun x9 => []) (fun x9 => 100 - x9.1) 16 ?_ (0, P, F, N, B, O, Sd, Dv, L, rc, re, fr, lo, sm, S, lw, gw) (⟨by first | omega | assumption | rfl | simp_all, wf_can wf, fun _ => rfl, fun h9 => absurd rfl h9⟩) rfl hP2 hD2 hS2 (lv_sub hl1 [0, 1, 2, 3, 4] rfl)
  clear hP2 hD2 hS2 locs2 H2 hl1 ls1
  intro x9 hI ih_16 H3 locs3 ls2 hP3 hD3 hS3 hl2
  obtain ⟨i, P1, F1, N1, B1, O1, Sd1, Dv1, L1, rc1, re1, fr1, lo1, sm1, X1, lw1, gw1⟩ := x9
  obtain ⟨hi, hX1, hU, hW⟩ := hI
  replace hi : i ≤ 100 := hi
  replace hX1 : can X1 := hX1
  replace hU : ∀ v : Int32, upd X1 (12 + 8 * j) v = upd S (12 + 8 * j) v := hU
  replace hW : cntN (okW S j q) i ≠ 0 → lw1 = nI (lowN (okW S j q) i) ∧ gw1 = nI (hiN (okW S j q) i) := hW
  replace hP3 : va_P D vwCl ([tO cy w b x (nI (cntN (okW S j q) i)) lw1 gw1 ss sl sc sp] ++ (aS cy b P1 F1 N1 B1 O1 Sd1 Dv1 L1 rc1 re1 fr1 lo1 sm1 ++ (pS cy x X1 ++ (pS cy a S)))) H3 := hP3
  replace hD3 : va_D (va_A _ sz) ([tO cy w b x (nI (cntN (okW S j q) i)) lw1 gw1 ss sl sc sp] ++ (aS cy b P1 F1 N1 B1 O1 Sd1 Dv1 L1 rc1 re1 fr1 lo1 sm1 ++ (pS cy x X1 ++ (pS cy a S)))) := hD3
  replace hl2 : lv_has ls2 5 [(4, .int (nI i)), (0, .ref (w 0)), (1, .ref (a 0)), (2, .int (nI j)), (3, .int q)] := hl2
  show W p l e _ s m _ below meth c _ _ _ _ _ (F0 m 16 ls2 [])
  refine lv_iload hx hb dX5_findWidths_16 (lv_at hl2 0 rfl) ?_
  refine lv_bipush (v := 99) hx hb dX5_findWidths_18 (by decide) ?_
  refine ln_gt (tgt := 103) i 99 rfl rfl (by omega) (by omega) hx hb dX5_findWidths_20 (by decide) (fun c_20 => ?_) (fun c_20 => ?_)
  · obtain rfl : i = 100 := (by omega)
    refine re_v (P1, F1, N1, B1, O1, Sd1, Dv1, L1, rc1, re1, fr1, lo1, sm1, X1, lw1, gw1) hx hb hr hlocks hP3 hD3 hS3 dX5_findWidths_103 ?_
    exact (⟨hX1, hW⟩)
  · refine lv_aload_n hx hb dX5_findWidths_23 rfl (lv_at hl2 1 rfl) ?_
    refine va_get (D := D) (ci := 5) (v := .ref (x 0)) (C := RX5) (T := TX5) (N := 11) hx hb hw iX5 hown hK hP3 0 rfl rfl 10 (by decide) (hw _ kw_1_183) (fun _ h9 => h9) rfl dX5_findWidths_24 ?_
    refine va_get (D := D) (ci := 1) (v := .ref (x 4)) (C := RX1) (T := TX1) (N := 12) hx hb hw iX1 hown hK hP3 16 rfl rfl 5 (by decide) (hw _ kw_1_48) (fun _ h9 => h9) rfl dX5_findWidths_27 ?_
    refine lv_iload_n hx hb dX5_findWidths_30 rfl (lv_at hl2 3 rfl) ?_
    refine lv_iload hx hb dX5_findWidths_31 (lv_at hl2 0 rfl) ?_
    refine ast_i (f := fun g => X1 (12 + 8 * g)) (ws' := [tO cy w b x (nI (cntN (okW S j q) i)) lw1 gw1 ss sl sc sp] ++ (aS cy b P1 F1 N1 B1 O1 Sd1 Dv1 L1 rc1 re1 fr1 lo1 sm1 ++ (pS cy x (upd X1 (12 + 8 * j) (nI i)) ++ (pS cy a S)))) hx hb hK hP3 hD3 hS3 20 0 rfl rfl j rfl (by first | omega | assumption) (by decide) (congrArg (fun z => [tO cy w b x (nI (cntN (okW S j q) i)) lw1 gw1 ss sl sc sp] ++ (aS cy b P1 F1 N1 B1 O1 Sd1 Dv1 L1 rc1 re1 fr1 lo1 sm1 ++ (z ++ (pS cy a S)))) (pS_a3 cy x X1 j (nI i))) dX5_findWidths_33 (fun H4 locs4 hP4 hD4 hS4 => ?_)
    clear hP3 hD3 hS3 locs3 H3
    have hq9 : ([tO cy w b x (nI (cntN (okW S j q) i)) lw1 gw1 ss sl sc sp] ++ (aS cy b P1 F1 N1 B1 O1 Sd1 Dv1 L1 rc1 re1 fr1 lo1 sm1 ++ (pS cy x (upd X1 (12 + 8 * j) (nI i)) ++ (pS cy a S)))) = ([tO cy w b x (nI (cntN (okW S j q) i)) lw1 gw1 ss sl sc sp] ++ (aS cy b P1 F1 N1 B1 O1 Sd1 Dv1 L1 rc1 re1 fr1 lo1 sm1 ++ (pS cy x (upd S (12 + 8 * j) (nI i)) ++ (pS cy a S)))) := congrArg (fun z9 => [tO cy w b x (nI (cntN (okW S j q) i)) lw1 gw1 ss sl sc sp] ++ (aS cy b P1 F1 N1 B1 O1 Sd1 Dv1 L1 rc1 re1 fr1 lo1 sm1 ++ (pS cy x z9 ++ (pS cy a S)))) (show (upd X1 (12 + 8 * j) (nI i)) = (upd S (12 + 8 * j) (nI i)) from hU (nI i))
    replace hP4 := (congrArg (fun z9 => va_P D vwCl z9 _) hq9).mp hP4
    replace hD4 := (congrArg (fun z9 => va_D _ z9) hq9).mp hD4
    clear hq9
    have hcn := cntN_le (okW S j q) i
    refine lv_aload_n hx hb dX5_findWidths_34 rfl (lv_at hl2 1 rfl) ?_
    refine va_get (D := D) (ci := 5) (v := .ref (b 0)) (C := RX5) (T := TX5) (N := 11) hx hb hw iX5 hown hK hP4 0 rfl rfl 0 (by decide) (hw _ kw_1_163) (fun _ h9 => h9) rfl dX5_findWidths_35 ?_
    refine lv_aload_n hx hb dX5_findWidths_38 rfl (lv_at hl2 1 rfl) ?_
    refine va_get (D := D) (ci := 5) (v := .ref (x 0)) (C := RX5) (T := TX5) (N := 11) hx hb hw iX5 hown hK hP4 0 rfl rfl 10 (by decide) (hw _ kw_1_183) (fun _ h9 => h9) rfl dX5_findWidths_39 ?_
    refine cV_v (wc := aS cy b P1 F1 N1 B1 O1 Sd1 Dv1 L1 rc1 re1 fr1 lo1 sm1 ++ (pS cy x (upd S (12 + 8 * j) (nI i)))) (wr := [tO cy w b x (nI (cntN (okW S j q) i)) lw1 gw1 ss sl sc sp] ++ (pS cy a S)) (rest := []) hx hb hml hown hw hG hK hP4 hD4 hS4 hA hl2 kc_X0_settle kw_3_145 [.ref (x 0)] (c_X0_settle l D cy G H4.size b P1 F1 N1 B1 O1 Sd1 Dv1 L1 rc1 re1 fr1 lo1 sm1 x (upd S (12 + 8 * j) (nI i)) ((wf_wd wf hj20 (nI i)).1)) [1, 2, 3, 4, 5, 6, 7, 8, 9, 10, 11, 12, 13, 14, 15, 16, 17, 18, 19, 20, 21, 22, 23, 24, 25] [0, 26, 27, 28, 29, 30, 31, 32, 33, 34, 35] rfl rfl rfl rfl rfl 0 rfl rfl rfl rfl rfl (Nat.le_of_ble_eq_true rfl) ⟨Nat.le_of_ble_eq_true rfl, Nat.le_of_ble_eq_true rfl⟩ dX5_findWidths_42 ⟨Nat.le_of_ble_eq_true rfl, Nat.le_of_ble_eq_true rfl⟩ (fun u9 H5 locs5 hu9 hP5 hD5 hS5 => ?_)
    clear hP4 hD4 hS4 locs4 H4
    obtain ⟨F1_42, N1_42, B1_42, O1_42, Sd1_42, Dv1_42, L1_42⟩ := u9
    have hF_42 := hu9
    replace hF_42 : ∀ g, g < gcN (upd S (12 + 8 * j) (nI i)) → F1_42 g = flow (upd S (12 + 8 * j) (nI i)) (PR (upd S (12 + 8 * j) (nI i))) g := hF_42
    replace hP5 : va_P D vwCl ([tO cy w b x (nI (cntN (okW S j q) i)) lw1 gw1 ss sl sc sp] ++ (pS cy a S ++ (aS cy b (PR (upd S (12 + 8 * j) (nI i))) F1_42 N1_42 B1_42 O1_42 Sd1_42 Dv1_42 L1_42 (nI (RC (upd S (12 + 8 * j) (nI i)))) (b2i (RC (upd S (12 + 8 * j) (nI i)) = 60)) (fresh (upd S (12 + 8 * j) (nI i))) (lost (upd S (12 + 8 * j) (nI i))) (b2i (smokes (upd S (12 + 8 * j) (nI i)) = true)) ++ (pS cy x (upd S (12 + 8 * j) (nI i)))))) H5 := hP5
    replace hD5 : va_D (va_A _ sz) ([tO cy w b x (nI (cntN (okW S j q) i)) lw1 gw1 ss sl sc sp] ++ (pS cy a S ++ (aS cy b (PR (upd S (12 + 8 * j) (nI i))) F1_42 N1_42 B1_42 O1_42 Sd1_42 Dv1_42 L1_42 (nI (RC (upd S (12 + 8 * j) (nI i)))) (b2i (RC (upd S (12 + 8 * j) (nI i)) = 60)) (fresh (upd S (12 + 8 * j) (nI i))) (lost (upd S (12 + 8 * j) (nI i))) (b2i (smokes (upd S (12 + 8 * j) (nI i)) = true)) ++ (pS cy x (upd S (12 + 8 * j) (nI i)))))) := hD5
    replace hP5 := hP5.sub (ws' := [tO cy w b x (nI (cntN (okW S j q) i)) lw1 gw1 ss sl sc sp] ++ (aS cy b (PR (upd S (12 + 8 * j) (nI i))) F1_42 N1_42 B1_42 O1_42 Sd1_42 Dv1_42 L1_42 (nI (RC (upd S (12 + 8 * j) (nI i)))) (b2i (RC (upd S (12 + 8 * j) (nI i)) = 60)) (fresh (upd S (12 + 8 * j) (nI i))) (lost (upd S (12 + 8 * j) (nI i))) (b2i (smokes (upd S (12 + 8 * j) (nI i)) = true)) ++ (pS cy x (upd S (12 + 8 * j) (nI i)) ++ (pS cy a S)))) [0, 11, 12, 13, 14, 15, 16, 17, 18, 19, 20, 21, 22, 23, 24, 25, 26, 27, 28, 29, 30, 31, 32, 33, 34, 35, 1, 2, 3, 4, 5, 6, 7, 8, 9, 10] rfl
    replace hD5 := hD5.sub (ws' := [tO cy w b x (nI (cntN (okW S j q) i)) lw1 gw1 ss sl sc sp] ++ (aS cy b (PR (upd S (12 + 8 * j) (nI i))) F1_42 N1_42 B1_42 O1_42 Sd1_42 Dv1_42 L1_42 (nI (RC (upd S (12 + 8 * j) (nI i)))) (b2i (RC (upd S (12 + 8 * j) (nI i)) = 60)) (fresh (upd S (12 + 8 * j) (nI i))) (lost (upd S (12 + 8 * j) (nI i))) (b2i (smokes (upd S (12 + 8 * j) (nI i)) = true)) ++ (pS cy x (upd S (12 + 8 * j) (nI i)) ++ (pS cy a S)))) [0, 11, 12, 13, 14, 15, 16, 17, 18, 19, 20, 21, 22, 23, 24, 25, 26, 27, 28, 29, 30, 31, 32, 33, 34, 35, 1, 2, 3, 4, 5, 6, 7, 8, 9, 10] (by decide) rfl
    refine lv_aload_n hx hb dX5_findWidths_45 rfl (lv_at hl2 1 rfl) ?_
    refine va_get (D := D) (ci := 5) (v := .ref (b 0)) (C := RX5) (T := TX5) (N := 11) hx hb hw iX5 hown hK hP5 0 rfl rfl 0 (by decide) (hw _ kw_1_163) (fun _ h9 => h9) rfl dX5_findWidths_46 ?_
    refine va_get (D := D) (ci := 0) (v := .ref (b 2)) (C := RX0) (T := TX0) (N := 13) hx hb hw iX0 hown hK hP5 1 rfl rfl 1 (by decide) (hw _ kw_1_105) (fun _ h9 => h9) rfl dX5_findWidths_49 ?_
    refine lv_iload_n hx hb dX5_findWidths_52 rfl (lv_at hl2 3 rfl) ?_
    refine ald_i (f := F1_42) hx hb hK hP5 3 0 rfl rfl j rfl (by first | omega | assumption) (by decide) dX5_findWidths_53 ?_
    refine tp (show (F1_42 j) = flow (upd S (12 + 8 * j) (nI i)) (PR (upd S (12 + 8 * j) (nI i))) j from hF_42 j (by rw [(wf_wd wf hj20 (nI i)).2.2.1]; exact hj)) ?_
    refine rN_i (wc := []) (rest := []) hx hb hml hown hw hG hK hP5 hS5 hA hl2 kc_X6_leanOf hG.1.2.2.2.2.2.2.2.2.2.1 [.int (flow (upd S (12 + 8 * j) (nI i)) (PR (upd S (12 + 8 * j) (nI i))) j)] (c_X6_leanOf l D cy G H5.size (flow (upd S (12 + 8 * j) (nI i)) (PR (upd S (12 + 8 * j) (nI i))) j)) [] rfl rfl rfl (Nat.le_of_ble_eq_true rfl) ⟨Nat.le_of_ble_eq_true rfl, Nat.le_of_ble_eq_true rfl⟩ dX5_findWidths_54 ⟨Nat.le_of_ble_eq_true rfl, Nat.le_of_ble_eq_true rfl⟩ (fun r_54 H6 locs6 hr_54 hP6 hS6 => ?_)
    have hD6 := hD5
    clear hP5 hD5 hS5 locs5 H5
    subst hr_54
    refine lv_iload_n hx hb dX5_findWidths_57 rfl (lv_at hl2 4 rfl) ?_
    refine lv_icmp_ne (tgt := 97) hx hb dX5_findWidths_58 (by decide) (fun c_58 => ?_) (fun c_58 => ?_)
    · have hok : okW S j q i = false := by unfold okW; simp [c_58]
      have hq9 : ([tO cy w b x (nI (cntN (okW S j q) i)) lw1 gw1 ss sl sc sp] ++ (aS cy b (PR (upd S (12 + 8 * j) (nI i))) F1_42 N1_42 B1_42 O1_42 Sd1_42 Dv1_42 L1_42 (nI (RC (upd S (12 + 8 * j) (nI i)))) (b2i (RC (upd S (12 + 8 * j) (nI i)) = 60)) (fresh (upd S (12 + 8 * j) (nI i))) (lost (upd S (12 + 8 * j) (nI i))) (b2i (smokes (upd S (12 + 8 * j) (nI i)) = true)) ++ (pS cy x (upd S (12 + 8 * j) (nI i)) ++ (pS cy a S)))) = ([tO cy w b x (nI (cntN (okW S j q) (i + 1))) lw1 gw1 ss sl sc sp] ++ (aS cy b (PR (upd S (12 + 8 * j) (nI i))) F1_42 N1_42 B1_42 O1_42 Sd1_42 Dv1_42 L1_42 (nI (RC (upd S (12 + 8 * j) (nI i)))) (b2i (RC (upd S (12 + 8 * j) (nI i)) = 60)) (fresh (upd S (12 + 8 * j) (nI i))) (lost (upd S (12 + 8 * j) (nI i))) (b2i (smokes (upd S (12 + 8 * j) (nI i)) = true)) ++ (pS cy x (upd S (12 + 8 * j) (nI i)) ++ (pS cy a S)))) := congrArg (fun z9 => [tO cy w b x z9 lw1 gw1 ss sl sc sp] ++ (aS cy b (PR (upd S (12 + 8 * j) (nI i))) F1_42 N1_42 B1_42 O1_42 Sd1_42 Dv1_42 L1_42 (nI (RC (upd S (12 + 8 * j) (nI i)))) (b2i (RC (upd S (12 + 8 * j) (nI i)) = 60)) (fresh (upd S (12 + 8 * j) (nI i))) (lost (upd S (12 + 8 * j) (nI i))) (b2i (smokes (upd S (12 + 8 * j) (nI i)) = true)) ++ (pS cy x (upd S (12 + 8 * j) (nI i)) ++ (pS cy a S)))) (show (nI (cntN (okW S j q) i)) = (nI (cntN (okW S j q) (i + 1))) from by simp [cntN, hok])
      replace hP6 := (congrArg (fun z9 => va_P D vwCl z9 _) hq9).mp hP6
      replace hD6 := (congrArg (fun z9 => va_D _ z9) hq9).mp hD6
      clear hq9
      have hW9 : cntN (okW S j q) (i + 1) ≠ 0 → lw1 = nI (lowN (okW S j q) (i + 1)) ∧ gw1 = nI (hiN (okW S j q) (i + 1)) := wid_f hok hW
      refine lv_iinc (v := nI (i + 1)) (lv' := [(4, .int (nI (i + 1))), (0, .ref (w 0)), (1, .ref (a 0)), (2, .int (nI j)), (3, .int q)]) hx hb dX5_findWidths_97 hl2 (k := 0) rfl (nI_inc _) (by decide) rfl (fun ls3 hl3 => ?_)
      clear hl2 ls2
      refine lv_goto (tgt := 16) hx hb dX5_findWidths_100 (by decide) ?_
      exact ih_16 (i + 1, PR (upd S (12 + 8 * j) (nI i)), F1_42, N1_42, B1_42, O1_42, Sd1_42, Dv1_42, L1_42, nI (RC (upd S (12 + 8 * j) (nI i))), b2i (RC (upd S (12 + 8 * j) (nI i)) = 60), fresh (upd S (12 + 8 * j) (nI i)), lost (upd S (12 + 8 * j) (nI i)), b2i (smokes (upd S (12 + 8 * j) (nI i)) = true), upd S (12 + 8 * j) (nI i), lw1, gw1) (⟨by first | omega | assumption | rfl | simp_all, (can_upd (wf_can wf) (by omega) (Or.inl (by omega))), fun v => upd_upd S _ _ v, hW9⟩) (by (try dsimp only); omega) H6 locs6 ls3 hP6 hD6 hS6 (lv_sub hl3 [0, 1, 2, 3, 4] rfl)
    · refine lv_aload_n hx hb dX5_findWidths_61 rfl (lv_at hl2 1 rfl) ?_
      refine lv_aload_n hx hb dX5_findWidths_62 rfl (lv_at hl2 1 rfl) ?_
      refine va_get (D := D) (ci := 5) (v := .int (nI (cntN (okW S j q) i))) (C := RX5) (T := TX5) (N := 11) hx hb hw iX5 hown hK hP6 0 rfl rfl 1 (by decide) (hw _ kw_1_165) (fun _ h9 => h9) rfl dX5_findWidths_63 ?_
      refine lv_if_ne (tgt := 74) hx hb dX5_findWidths_66 (by decide) (fun c_66 => ?_) (fun c_66 => ?_)
      · refine lv_aload_n hx hb dX5_findWidths_74 rfl (lv_at hl2 1 rfl) ?_
        refine va_get (D := D) (ci := 5) (v := .int lw1) (C := RX5) (T := TX5) (N := 11) hx hb hw iX5 hown hK hP6 0 rfl rfl 2 (by decide) (hw _ kw_1_167) (fun _ h9 => h9) rfl dX5_findWidths_75 ?_
        refine pt (D := D) (ci := 5) (v := .int lw1) (ty := .int) (C := RX5) (T := TX5) (N := 11) (ws' := [tO cy w b x (nI (cntN (okW S j q) i)) lw1 gw1 ss sl sc sp] ++ (aS cy b (PR (upd S (12 + 8 * j) (nI i))) F1_42 N1_42 B1_42 O1_42 Sd1_42 Dv1_42 L1_42 (nI (RC (upd S (12 + 8 * j) (nI i)))) (b2i (RC (upd S (12 + 8 * j) (nI i)) = 60)) (fresh (upd S (12 + 8 * j) (nI i))) (lost (upd S (12 + 8 * j) (nI i))) (b2i (smokes (upd S (12 + 8 * j) (nI i)) = true)) ++ (pS cy x (upd S (12 + 8 * j) (nI i)) ++ (pS cy a S)))) hx hb hw iX5 tyX5 tyX5_ok nmX5 hown hK hP6 hD6 hS6 0 rfl rfl 2 (by decide) kw_1_167 (fun _ h9 => h9) rfl (by decide +kernel) rfl rfl (Nat.le_of_ble_eq_true rfl) rfl dX5_findWidths_78 (fun H7 locs7 hP7 hD7 hS7 => ?_)
        clear hP6 hD6 hS6 locs6 H6
        refine lv_aload_n hx hb dX5_findWidths_81 rfl (lv_at hl2 1 rfl) ?_
        refine lv_iload hx hb dX5_findWidths_82 (lv_at hl2 0 rfl) ?_
        refine pt (D := D) (ci := 5) (v := .int (nI i)) (ty := .int) (C := RX5) (T := TX5) (N := 11) (ws' := [tO cy w b x (nI (cntN (okW S j q) i)) lw1 (nI i) ss sl sc sp] ++ (aS cy b (PR (upd S (12 + 8 * j) (nI i))) F1_42 N1_42 B1_42 O1_42 Sd1_42 Dv1_42 L1_42 (nI (RC (upd S (12 + 8 * j) (nI i)))) (b2i (RC (upd S (12 + 8 * j) (nI i)) = 60)) (fresh (upd S (12 + 8 * j) (nI i))) (lost (upd S (12 + 8 * j) (nI i))) (b2i (smokes (upd S (12 + 8 * j) (nI i)) = true)) ++ (pS cy x (upd S (12 + 8 * j) (nI i)) ++ (pS cy a S)))) hx hb hw iX5 tyX5 tyX5_ok nmX5 hown hK hP7 hD7 hS7 0 rfl rfl 3 (by decide) kw_1_169 (fun _ h9 => h9) rfl (by decide +kernel) rfl rfl (Nat.le_of_ble_eq_true rfl) rfl dX5_findWidths_84 (fun H8 locs8 hP8 hD8 hS8 => ?_)
        clear hP7 hD7 hS7 locs7 H7
        refine lv_aload_n hx hb dX5_findWidths_87 rfl (lv_at hl2 1 rfl) ?_
        refine lv_dup hx hb dX5_findWidths_88 rfl ?_
        refine va_get (D := D) (ci := 5) (v := .int (nI (cntN (okW S j q) i))) (C := RX5) (T := TX5) (N := 11) hx hb hw iX5 hown hK hP8 0 rfl rfl 1 (by decide) (hw _ kw_1_165) (fun _ h9 => h9) rfl dX5_findWidths_89 ?_
        refine lv_iconst (v := 1) hx hb dX5_findWidths_92 (by decide) ?_
        refine lv_iadd hx hb dX5_findWidths_93 ?_
        refine tp (show ((nI (cntN (okW S j q) i)) + 1) = nI (cntN (okW S j q) i + 1) from nI_add _ _) ?_
        refine pt (D := D) (ci := 5) (v := .int (nI (cntN (okW S j q) i + 1))) (ty := .int) (C := RX5) (T := TX5) (N := 11) (ws' := [tO cy w b x (nI (cntN (okW S j q) i + 1)) lw1 (nI i) ss sl sc sp] ++ (aS cy b (PR (upd S (12 + 8 * j) (nI i))) F1_42 N1_42 B1_42 O1_42 Sd1_42 Dv1_42 L1_42 (nI (RC (upd S (12 + 8 * j) (nI i)))) (b2i (RC (upd S (12 + 8 * j) (nI i)) = 60)) (fresh (upd S (12 + 8 * j) (nI i))) (lost (upd S (12 + 8 * j) (nI i))) (b2i (smokes (upd S (12 + 8 * j) (nI i)) = true)) ++ (pS cy x (upd S (12 + 8 * j) (nI i)) ++ (pS cy a S)))) hx hb hw iX5 tyX5 tyX5_ok nmX5 hown hK hP8 hD8 hS8 0 rfl rfl 1 (by decide) kw_1_165 (fun _ h9 => h9) rfl (by decide +kernel) rfl rfl (Nat.le_of_ble_eq_true rfl) rfl dX5_findWidths_94 (fun H9 locs9 hP9 hD9 hS9 => ?_)
        clear hP8 hD8 hS8 locs8 H8
        have hok : okW S j q i = true := by unfold okW; simp [c_58]
        have hq9 : ([tO cy w b x (nI (cntN (okW S j q) i + 1)) lw1 (nI i) ss sl sc sp] ++ (aS cy b (PR (upd S (12 + 8 * j) (nI i))) F1_42 N1_42 B1_42 O1_42 Sd1_42 Dv1_42 L1_42 (nI (RC (upd S (12 + 8 * j) (nI i)))) (b2i (RC (upd S (12 + 8 * j) (nI i)) = 60)) (fresh (upd S (12 + 8 * j) (nI i))) (lost (upd S (12 + 8 * j) (nI i))) (b2i (smokes (upd S (12 + 8 * j) (nI i)) = true)) ++ (pS cy x (upd S (12 + 8 * j) (nI i)) ++ (pS cy a S)))) = ([tO cy w b x (nI (cntN (okW S j q) (i + 1))) lw1 (nI i) ss sl sc sp] ++ (aS cy b (PR (upd S (12 + 8 * j) (nI i))) F1_42 N1_42 B1_42 O1_42 Sd1_42 Dv1_42 L1_42 (nI (RC (upd S (12 + 8 * j) (nI i)))) (b2i (RC (upd S (12 + 8 * j) (nI i)) = 60)) (fresh (upd S (12 + 8 * j) (nI i))) (lost (upd S (12 + 8 * j) (nI i))) (b2i (smokes (upd S (12 + 8 * j) (nI i)) = true)) ++ (pS cy x (upd S (12 + 8 * j) (nI i)) ++ (pS cy a S)))) := congrArg (fun z9 => [tO cy w b x z9 lw1 (nI i) ss sl sc sp] ++ (aS cy b (PR (upd S (12 + 8 * j) (nI i))) F1_42 N1_42 B1_42 O1_42 Sd1_42 Dv1_42 L1_42 (nI (RC (upd S (12 + 8 * j) (nI i)))) (b2i (RC (upd S (12 + 8 * j) (nI i)) = 60)) (fresh (upd S (12 + 8 * j) (nI i))) (lost (upd S (12 + 8 * j) (nI i))) (b2i (smokes (upd S (12 + 8 * j) (nI i)) = true)) ++ (pS cy x (upd S (12 + 8 * j) (nI i)) ++ (pS cy a S)))) (show (nI (cntN (okW S j q) i + 1)) = (nI (cntN (okW S j q) (i + 1))) from by simp [cntN, hok])
        replace hP9 := (congrArg (fun z9 => va_P D vwCl z9 _) hq9).mp hP9
        replace hD9 := (congrArg (fun z9 => va_D _ z9) hq9).mp hD9
        clear hq9
        have hW9 : cntN (okW S j q) (i + 1) ≠ 0 → lw1 = nI (lowN (okW S j q) (i + 1)) ∧ nI i = nI (hiN (okW S j q) (i + 1)) := wid_t hok (wid_c1 (by omega) c_66) hW
        refine lv_iinc (v := nI (i + 1)) (lv' := [(4, .int (nI (i + 1))), (0, .ref (w 0)), (1, .ref (a 0)), (2, .int (nI j)), (3, .int q)]) hx hb dX5_findWidths_97 hl2 (k := 0) rfl (nI_inc _) (by decide) rfl (fun ls3 hl3 => ?_)
        clear hl2 ls2
        refine lv_goto (tgt := 16) hx hb dX5_findWidths_100 (by decide) ?_
        exact ih_16 (i + 1, PR (upd S (12 + 8 * j) (nI i)), F1_42, N1_42, B1_42, O1_42, Sd1_42, Dv1_42, L1_42, nI (RC (upd S (12 + 8 * j) (nI i))), b2i (RC (upd S (12 + 8 * j) (nI i)) = 60), fresh (upd S (12 + 8 * j) (nI i)), lost (upd S (12 + 8 * j) (nI i)), b2i (smokes (upd S (12 + 8 * j) (nI i)) = true), upd S (12 + 8 * j) (nI i), lw1, nI i) (⟨by first | omega | assumption | rfl | simp_all, (can_upd (wf_can wf) (by omega) (Or.inl (by omega))), fun v => upd_upd S _ _ v, hW9⟩) (by (try dsimp only); omega) H9 locs9 ls3 hP9 hD9 hS9 (lv_sub hl3 [0, 1, 2, 3, 4] rfl)
      · refine lv_iload hx hb dX5_findWidths_69 (lv_at hl2 0 rfl) ?_
        refine lv_goto (tgt := 78) hx hb dX5_findWidths_71 (by decide) ?_
        refine pt (D := D) (ci := 5) (v := .int (nI i)) (ty := .int) (C := RX5) (T := TX5) (N := 11) (ws' := [tO cy w b x (nI (cntN (okW S j q) i)) (nI i) gw1 ss sl sc sp] ++ (aS cy b (PR (upd S (12 + 8 * j) (nI i))) F1_42 N1_42 B1_42 O1_42 Sd1_42 Dv1_42 L1_42 (nI (RC (upd S (12 + 8 * j) (nI i)))) (b2i (RC (upd S (12 + 8 * j) (nI i)) = 60)) (fresh (upd S (12 + 8 * j) (nI i))) (lost (upd S (12 + 8 * j) (nI i))) (b2i (smokes (upd S (12 + 8 * j) (nI i)) = true)) ++ (pS cy x (upd S (12 + 8 * j) (nI i)) ++ (pS cy a S)))) hx hb hw iX5 tyX5 tyX5_ok nmX5 hown hK hP6 hD6 hS6 0 rfl rfl 2 (by decide) kw_1_167 (fun _ h9 => h9) rfl (by decide +kernel) rfl rfl (Nat.le_of_ble_eq_true rfl) rfl dX5_findWidths_78 (fun H7 locs7 hP7 hD7 hS7 => ?_)
        clear hP6 hD6 hS6 locs6 H6
        refine lv_aload_n hx hb dX5_findWidths_81 rfl (lv_at hl2 1 rfl) ?_
        refine lv_iload hx hb dX5_findWidths_82 (lv_at hl2 0 rfl) ?_
        refine pt (D := D) (ci := 5) (v := .int (nI i)) (ty := .int) (C := RX5) (T := TX5) (N := 11) (ws' := [tO cy w b x (nI (cntN (okW S j q) i)) (nI i) (nI i) ss sl sc sp] ++ (aS cy b (PR (upd S (12 + 8 * j) (nI i))) F1_42 N1_42 B1_42 O1_42 Sd1_42 Dv1_42 L1_42 (nI (RC (upd S (12 + 8 * j) (nI i)))) (b2i (RC (upd S (12 + 8 * j) (nI i)) = 60)) (fresh (upd S (12 + 8 * j) (nI i))) (lost (upd S (12 + 8 * j) (nI i))) (b2i (smokes (upd S (12 + 8 * j) (nI i)) = true)) ++ (pS cy x (upd S (12 + 8 * j) (nI i)) ++ (pS cy a S)))) hx hb hw iX5 tyX5 tyX5_ok nmX5 hown hK hP7 hD7 hS7 0 rfl rfl 3 (by decide) kw_1_169 (fun _ h9 => h9) rfl (by decide +kernel) rfl rfl (Nat.le_of_ble_eq_true rfl) rfl dX5_findWidths_84 (fun H8 locs8 hP8 hD8 hS8 => ?_)
        clear hP7 hD7 hS7 locs7 H7
        refine lv_aload_n hx hb dX5_findWidths_87 rfl (lv_at hl2 1 rfl) ?_
        refine lv_dup hx hb dX5_findWidths_88 rfl ?_
        refine va_get (D := D) (ci := 5) (v := .int (nI (cntN (okW S j q) i))) (C := RX5) (T := TX5) (N := 11) hx hb hw iX5 hown hK hP8 0 rfl rfl 1 (by decide) (hw _ kw_1_165) (fun _ h9 => h9) rfl dX5_findWidths_89 ?_
        refine lv_iconst (v := 1) hx hb dX5_findWidths_92 (by decide) ?_
        refine lv_iadd hx hb dX5_findWidths_93 ?_
        refine tp (show ((nI (cntN (okW S j q) i)) + 1) = nI (cntN (okW S j q) i + 1) from nI_add _ _) ?_
        refine pt (D := D) (ci := 5) (v := .int (nI (cntN (okW S j q) i + 1))) (ty := .int) (C := RX5) (T := TX5) (N := 11) (ws' := [tO cy w b x (nI (cntN (okW S j q) i + 1)) (nI i) (nI i) ss sl sc sp] ++ (aS cy b (PR (upd S (12 + 8 * j) (nI i))) F1_42 N1_42 B1_42 O1_42 Sd1_42 Dv1_42 L1_42 (nI (RC (upd S (12 + 8 * j) (nI i)))) (b2i (RC (upd S (12 + 8 * j) (nI i)) = 60)) (fresh (upd S (12 + 8 * j) (nI i))) (lost (upd S (12 + 8 * j) (nI i))) (b2i (smokes (upd S (12 + 8 * j) (nI i)) = true)) ++ (pS cy x (upd S (12 + 8 * j) (nI i)) ++ (pS cy a S)))) hx hb hw iX5 tyX5 tyX5_ok nmX5 hown hK hP8 hD8 hS8 0 rfl rfl 1 (by decide) kw_1_165 (fun _ h9 => h9) rfl (by decide +kernel) rfl rfl (Nat.le_of_ble_eq_true rfl) rfl dX5_findWidths_94 (fun H9 locs9 hP9 hD9 hS9 => ?_)
        clear hP8 hD8 hS8 locs8 H8
        have hok : okW S j q i = true := by unfold okW; simp [c_58]
        have hq9 : ([tO cy w b x (nI (cntN (okW S j q) i + 1)) (nI i) (nI i) ss sl sc sp] ++ (aS cy b (PR (upd S (12 + 8 * j) (nI i))) F1_42 N1_42 B1_42 O1_42 Sd1_42 Dv1_42 L1_42 (nI (RC (upd S (12 + 8 * j) (nI i)))) (b2i (RC (upd S (12 + 8 * j) (nI i)) = 60)) (fresh (upd S (12 + 8 * j) (nI i))) (lost (upd S (12 + 8 * j) (nI i))) (b2i (smokes (upd S (12 + 8 * j) (nI i)) = true)) ++ (pS cy x (upd S (12 + 8 * j) (nI i)) ++ (pS cy a S)))) = ([tO cy w b x (nI (cntN (okW S j q) (i + 1))) (nI i) (nI i) ss sl sc sp] ++ (aS cy b (PR (upd S (12 + 8 * j) (nI i))) F1_42 N1_42 B1_42 O1_42 Sd1_42 Dv1_42 L1_42 (nI (RC (upd S (12 + 8 * j) (nI i)))) (b2i (RC (upd S (12 + 8 * j) (nI i)) = 60)) (fresh (upd S (12 + 8 * j) (nI i))) (lost (upd S (12 + 8 * j) (nI i))) (b2i (smokes (upd S (12 + 8 * j) (nI i)) = true)) ++ (pS cy x (upd S (12 + 8 * j) (nI i)) ++ (pS cy a S)))) := congrArg (fun z9 => [tO cy w b x z9 (nI i) (nI i) ss sl sc sp] ++ (aS cy b (PR (upd S (12 + 8 * j) (nI i))) F1_42 N1_42 B1_42 O1_42 Sd1_42 Dv1_42 L1_42 (nI (RC (upd S (12 + 8 * j) (nI i)))) (b2i (RC (upd S (12 + 8 * j) (nI i)) = 60)) (fresh (upd S (12 + 8 * j) (nI i))) (lost (upd S (12 + 8 * j) (nI i))) (b2i (smokes (upd S (12 + 8 * j) (nI i)) = true)) ++ (pS cy x (upd S (12 + 8 * j) (nI i)) ++ (pS cy a S)))) (show (nI (cntN (okW S j q) i + 1)) = (nI (cntN (okW S j q) (i + 1))) from by simp [cntN, hok])
        replace hP9 := (congrArg (fun z9 => va_P D vwCl z9 _) hq9).mp hP9
        replace hD9 := (congrArg (fun z9 => va_D _ z9) hq9).mp hD9
        clear hq9
        have hW9 : cntN (okW S j q) (i + 1) ≠ 0 → nI i = nI (lowN (okW S j q) (i + 1)) ∧ nI i = nI (hiN (okW S j q) (i + 1)) := wid_z hok (wid_c0 (by omega) c_66)
        refine lv_iinc (v := nI (i + 1)) (lv' := [(4, .int (nI (i + 1))), (0, .ref (w 0)), (1, .ref (a 0)), (2, .int (nI j)), (3, .int q)]) hx hb dX5_findWidths_97 hl2 (k := 0) rfl (nI_inc _) (by decide) rfl (fun ls3 hl3 => ?_)
        clear hl2 ls2
        refine lv_goto (tgt := 16) hx hb dX5_findWidths_100 (by decide) ?_
        exact ih_16 (i + 1, PR (upd S (12 + 8 * j) (nI i)), F1_42, N1_42, B1_42, O1_42, Sd1_42, Dv1_42, L1_42, nI (RC (upd S (12 + 8 * j) (nI i))), b2i (RC (upd S (12 + 8 * j) (nI i)) = 60), fresh (upd S (12 + 8 * j) (nI i)), lost (upd S (12 + 8 * j) (nI i)), b2i (smokes (upd S (12 + 8 * j) (nI i)) = true), upd S (12 + 8 * j) (nI i), nI i, nI i) (⟨by first | omega | assumption | rfl | simp_all, (can_upd (wf_can wf) (by omega) (Or.inl (by omega))), fun v => upd_upd S _ _ v, hW9⟩) (by (try dsimp only); omega) H9 locs9 ls3 hP9 hD9 hS9 (lv_sub hl3 [0, 1, 2, 3, 4] rfl)

theorem kc_X5_findLine : kV yX5_findLine cX5_findLine 3 (some .int) 1 := ⟨kw_3_212, kw_3_213, kw_1_4, kw_3_214, by decide, by decide, by decide +kernel⟩
set_option maxHeartbeats 4000000 in
set_option maxRecDepth 100000 in
theorem c_X5_findLine (l : Launch) (D : va_G) (cy : Nat → ClassId) (G : Nat → Nat) (sz : Nat) (w : Nat → Nat) (b : Nat → Nat) (x : Nat → Nat) (wc : Int32) (lw : Int32) (gw : Int32) (ss : Int32) (sl : Int32) (sc : Int32) (sp : Int32) (P : Nat → Int32) (F : Nat → Int32) (N : Nat → Int32) (B : Nat → Int32) (O : Nat → Int32) (Sd : Nat → Int32) (Dv : Nat → Int32) (L : Nat → Nat → Int32) (rc : Int32) (re : Int32) (fr : Int32) (lo : Int32) (sm : Int32) (X : Nat → Int32) (a : Nat → Nat) (S : Nat → Int32) (hX : can X) (wf : wf S) : Met l yX5_findLine (wm yX5_findLine cX5_findLine 3 (some .int)) { frames := 5, cells := 0, slots := 0, locals := 109 } (va_Pc [.ref (w 0), .ref (a 0)] (pr D (TY cy) G ([tO cy w b x wc lw gw ss sl sc sp] ++ (aS cy b P F N B O Sd Dv L rc re fr lo sm ++ (pS cy x X ++ (pS cy a S)))) sz)) (va_Qi (fun (r : Int32) (u : (Nat → Int32) × (Nat → Int32) × (Nat → Int32) × (Nat → Int32) × (Nat → Int32) × (Nat → Int32) × (Nat → Int32) × (Nat → Nat → Int32) × Int32 × Int32 × Int32 × Int32 × Int32 × (Nat → Int32)) => (r = lineR S) ∧ (can u.2.2.2.2.2.2.2.2.2.2.2.2.2)) (fun (u : (Nat → Int32) × (Nat → Int32) × (Nat → Int32) × (Nat → Int32) × (Nat → Int32) × (Nat → Int32) × (Nat → Int32) × (Nat → Nat → Int32) × Int32 × Int32 × Int32 × Int32 × Int32 × (Nat → Int32)) t => po D (va_A ([tO cy w b x wc lw gw ss sl sc sp] ++ (aS cy b P F N B O Sd Dv L rc re fr lo sm ++ (pS cy x X ++ (pS cy a S)))) sz) ([tO cy w b x wc lw gw ss sl sc sp] ++ (aS cy b u.1 u.2.1 u.2.2.1 u.2.2.2.1 u.2.2.2.2.1 u.2.2.2.2.2.1 u.2.2.2.2.2.2.1 u.2.2.2.2.2.2.2.1 u.2.2.2.2.2.2.2.2.1 u.2.2.2.2.2.2.2.2.2.1 u.2.2.2.2.2.2.2.2.2.2.1 u.2.2.2.2.2.2.2.2.2.2.2.1 u.2.2.2.2.2.2.2.2.2.2.2.2.1 ++ (pS cy x u.2.2.2.2.2.2.2.2.2.2.2.2.2 ++ (pS cy a S)))) t) (va_A ([tO cy w b x wc lw gw ss sl sc sp] ++ (aS cy b P F N B O Sd Dv L rc re fr lo sm ++ (pS cy x X ++ (pS cy a S)))) sz)) 0 0 (va_A ([tO cy w b x wc lw gw ss sl sc sp] ++ (aS cy b P F N B O Sd Dv L rc re fr lo sm ++ (pS cy x X ++ (pS cy a S)))) sz) := by
  refine mk_rw (by decide) RX5 rfl (Nat.le_of_ble_eq_true rfl) [(0, .ref (w 0)), (1, .ref (a 0))] rfl ?_
  intro p e s m below meth c hx hb hml hown hr hlocks hin hw hsz hA hG hK H0 locs0 hP0 hD0 hS0 ls0 hl0
  clear hin
  have hg20 := wf_g20 wf
  have hr6 := wf_r6 wf
  refine lv_aload_n hx hb dX5_findLine_0 rfl (lv_at hl0 0 rfl) ?_
  refine va_get (D := D) (ci := 5) (v := .ref (x 0)) (C := RX5) (T := TX5) (N := 11) hx hb hw iX5 hown hK hP0 0 rfl rfl 10 (by decide) (hw _ kw_1_183) (fun _ h9 => h9) rfl dX5_findLine_1 ?_
  refine lv_aload_n hx hb dX5_findLine_4 rfl (lv_at hl0 1 rfl) ?_
  refine cV_v (wc := pS cy x X ++ (pS cy a S)) (wr := [tO cy w b x wc lw gw ss sl sc sp] ++ (aS cy b P F N B O Sd Dv L rc re fr lo sm)) (rest := []) hx hb hml hown hw hG hK hP0 hD0 hS0 hA hl0 kc_X1_takeFrom kw_3_144 [.ref (a 0)] (c_X1_takeFrom l D cy G H0.size x X a S hX (wf_can wf)) [16, 17, 18, 19, 20, 21, 22, 23, 24, 25, 26, 27, 28, 29, 30, 31, 32, 33, 34, 35] [0, 1, 2, 3, 4, 5, 6, 7, 8, 9, 10, 11, 12, 13, 14, 15] rfl rfl rfl rfl rfl 0 rfl rfl rfl rfl rfl (Nat.le_of_ble_eq_true rfl) ⟨Nat.le_of_ble_eq_true rfl, Nat.le_of_ble_eq_true rfl⟩ dX5_findLine_5 ⟨Nat.le_of_ble_eq_true rfl, Nat.le_of_ble_eq_true rfl⟩ (fun u9 H1 locs1 hu9 hP1 hD1 hS1 => ?_)
  clear hP0 hD0 hS0 locs0 H0
  replace hP1 : va_P D vwCl ([tO cy w b x wc lw gw ss sl sc sp] ++ (aS cy b P F N B O Sd Dv L rc re fr lo sm ++ (pS cy x S ++ (pS cy a S)))) H1 := hP1
  replace hD1 : va_D (va_A _ sz) ([tO cy w b x wc lw gw ss sl sc sp] ++ (aS cy b P F N B O Sd Dv L rc re fr lo sm ++ (pS cy x S ++ (pS cy a S)))) := hD1
  refine lv_iconst (v := 0) hx hb dX5_findLine_8 (by decide) ?_
  refine lv_istore_n (lv' := [(2, .int 0), (0, .ref (w 0)), (1, .ref (a 0))]) hx hb dX5_findLine_9 rfl hl0 (by decide) rfl (fun ls1 hl1 => ?_)
  clear hl0 ls0
  refine wlp (ι := Nat × (Nat → Int32) × (Nat → Int32) × (Nat → Int32) × (Nat → Int32) × (Nat → Int32) × (Nat → Int32) × (Nat → Int32) × (Nat → Nat → Int32) × Int32 × Int32 × Int32 × Int32 × Int32 × (Nat → Int32)) (nL := 3) (fun x9 => (x9.1 ≤ 100) ∧ (can x9.2.2.2.2.2.2.2.2.2.2.2.2.2.2) ∧ (∀ v : Int32, upd x9.2.2.2.2.2.2.2.2.2.2.2.2.2.2 3 v = upd S 3 v) ∧ (∀ j, j < x9.1 → smokes (upd S 3 (nI j)) = false)) (fun x9 => [tO cy w b x wc lw gw ss sl sc sp] ++ (aS cy b x9.2.1 x9.2.2.1 x9.2.2.2.1 x9.2.2.2.2.1 x9.2.2.2.2.2.1 x9.2.2.2.2.2.2.1 x9.2.2.2.2.2.2.2.1 x9.2.2.2.2.2.2.2.2.1 x9.2.2.2.2.2.2.2.2.2.1 x9.2.2.2.2.2.2.2.2.2.2.1 x9.2.2.2.2.2.2.2.2.2.2.2.1 x9.2.2.2.2.2.2.2.2.2.2.2.2.1 x9.2.2.2.2.2.2.2.2.2.2.2.2.2.1 ++ (pS cy x x9.2.2.2.2.2.2.2.2.2.2.2.2.2.2 ++ (pS cy a S)))) (fun x9 => [(2, .int (nI x9.1)), (0, .ref (w 0)), (1, .ref (a 0))]) (fun x9 => []) (fun x9 => 100 - x9.1) 10 ?_ (0, P, F, N, B, O, Sd, Dv, L, rc, re, fr, lo, sm, S) (⟨by first | omega | assumption | rfl | simp_all, wf_can wf, fun _ => rfl, fun j hj => absurd hj (Nat.not_lt_zero j)⟩) rfl hP1 hD1 hS1 (lv_sub hl1 [0, 1, 2] rfl)
  clear hP1 hD1 hS1 locs1 H1 hl1 ls1
  intro x9 hI ih_10 H2 locs2 ls2 hP2 hD2 hS2 hl2
  obtain ⟨i, P1, F1, N1, B1, O1, Sd1, Dv1, L1, rc1, re1, fr1, lo1, sm1, X1⟩ := x9
  obtain ⟨hi, hX1, hU, hs⟩ := hI
  replace hi : i ≤ 100 := hi
  replace hX1 : can X1 := hX1
  replace hU : ∀ v : Int32, upd X1 3 v = upd S 3 v := hU
  replace hs : ∀ j, j < i → smokes (upd S 3 (nI j)) = false := hs
  replace hP2 : va_P D vwCl ([tO cy w b x wc lw gw ss sl sc sp] ++ (aS cy b P1 F1 N1 B1 O1 Sd1 Dv1 L1 rc1 re1 fr1 lo1 sm1 ++ (pS cy x X1 ++ (pS cy a S)))) H2 := hP2
  replace hD2 : va_D (va_A _ sz) ([tO cy w b x wc lw gw ss sl sc sp] ++ (aS cy b P1 F1 N1 B1 O1 Sd1 Dv1 L1 rc1 re1 fr1 lo1 sm1 ++ (pS cy x X1 ++ (pS cy a S)))) := hD2
  replace hl2 : lv_has ls2 3 [(2, .int (nI i)), (0, .ref (w 0)), (1, .ref (a 0))] := hl2
  show W p l e _ s m _ below meth c _ _ _ _ _ (F0 m 10 ls2 [])
  refine lv_iload_n hx hb dX5_findLine_10 rfl (lv_at hl2 0 rfl) ?_
  refine va_getsN hx hb hG.2.1.2.2.2.2.1 hS2 hown (va_Nw.use rfl hG.1.2.2.2.2.2.2.2.2.2.2.2.2.1) (fun _ h9 => h9) dX5_findLine_11 ?_
  refine lv_iconst (v := 1) hx hb dX5_findLine_14 (by decide) ?_
  refine tld_i (f := tbM) hx hb hG.2.1.2.2.2.2.2 hS2 1 rfl (by first | omega | assumption) (by decide) dX5_findLine_15 ?_
  refine tp (show (tbM 1) = 99 from rfl) ?_
  refine ln_gt (tgt := 58) i 99 rfl rfl (by omega) (by omega) hx hb dX5_findLine_16 (by decide) (fun c_16 => ?_) (fun c_16 => ?_)
  · refine lv_iconst (v := (-1)) hx hb dX5_findLine_58 (by decide) ?_
    refine re_i (P1, F1, N1, B1, O1, Sd1, Dv1, L1, rc1, re1, fr1, lo1, sm1, X1) hx hb hr hlocks hP2 hD2 hS2 dX5_findLine_59 ?_
    exact (⟨lineR_no (fun q9 h9 => hs q9 (by omega)), hX1⟩)
  · refine lv_aload_n hx hb dX5_findLine_19 rfl (lv_at hl2 1 rfl) ?_
    refine va_get (D := D) (ci := 5) (v := .ref (x 0)) (C := RX5) (T := TX5) (N := 11) hx hb hw iX5 hown hK hP2 0 rfl rfl 10 (by decide) (hw _ kw_1_183) (fun _ h9 => h9) rfl dX5_findLine_20 ?_
    refine va_get (D := D) (ci := 1) (v := .ref (x 9)) (C := RX1) (T := TX1) (N := 12) hx hb hw iX1 hown hK hP2 16 rfl rfl 10 (by decide) (hw _ kw_1_64) (fun _ h9 => h9) rfl dX5_findLine_23 ?_
    refine lv_iconst (v := 1) hx hb dX5_findLine_26 (by decide) ?_
    refine lv_iload_n hx hb dX5_findLine_27 rfl (lv_at hl2 0 rfl) ?_
    refine ast_i (f := fun k => if k < 6 then X1 (2 + k) else 0) (ws' := [tO cy w b x wc lw gw ss sl sc sp] ++ (aS cy b P1 F1 N1 B1 O1 Sd1 Dv1 L1 rc1 re1 fr1 lo1 sm1 ++ (pS cy x (upd X1 (2 + 1) (nI i)) ++ (pS cy a S)))) hx hb hK hP2 hD2 hS2 25 0 rfl rfl 1 rfl (by first | omega | assumption) (by decide) (congrArg (fun z => [tO cy w b x wc lw gw ss sl sc sp] ++ (aS cy b P1 F1 N1 B1 O1 Sd1 Dv1 L1 rc1 re1 fr1 lo1 sm1 ++ (z ++ (pS cy a S)))) (pS_nt cy x X1 1 (nI i) (by first | decide | omega))) dX5_findLine_28 (fun H3 locs3 hP3 hD3 hS3 => ?_)
    clear hP2 hD2 hS2 locs2 H2
    have hq9 : ([tO cy w b x wc lw gw ss sl sc sp] ++ (aS cy b P1 F1 N1 B1 O1 Sd1 Dv1 L1 rc1 re1 fr1 lo1 sm1 ++ (pS cy x (upd X1 (2 + 1) (nI i)) ++ (pS cy a S)))) = ([tO cy w b x wc lw gw ss sl sc sp] ++ (aS cy b P1 F1 N1 B1 O1 Sd1 Dv1 L1 rc1 re1 fr1 lo1 sm1 ++ (pS cy x (upd S 3 (nI i)) ++ (pS cy a S)))) := congrArg (fun z9 => [tO cy w b x wc lw gw ss sl sc sp] ++ (aS cy b P1 F1 N1 B1 O1 Sd1 Dv1 L1 rc1 re1 fr1 lo1 sm1 ++ (pS cy x z9 ++ (pS cy a S)))) (show (upd X1 (2 + 1) (nI i)) = (upd S 3 (nI i)) from hU (nI i))
    replace hP3 := (congrArg (fun z9 => va_P D vwCl z9 _) hq9).mp hP3
    replace hD3 := (congrArg (fun z9 => va_D _ z9) hq9).mp hD3
    clear hq9
    refine lv_aload_n hx hb dX5_findLine_29 rfl (lv_at hl2 1 rfl) ?_
    refine va_get (D := D) (ci := 5) (v := .ref (b 0)) (C := RX5) (T := TX5) (N := 11) hx hb hw iX5 hown hK hP3 0 rfl rfl 0 (by decide) (hw _ kw_1_163) (fun _ h9 => h9) rfl dX5_findLine_30 ?_
    refine lv_aload_n hx hb dX5_findLine_33 rfl (lv_at hl2 1 rfl) ?_
    refine va_get (D := D) (ci := 5) (v := .ref (x 0)) (C := RX5) (T := TX5) (N := 11) hx hb hw iX5 hown hK hP3 0 rfl rfl 10 (by decide) (hw _ kw_1_183) (fun _ h9 => h9) rfl dX5_findLine_34 ?_
    refine cV_v (wc := aS cy b P1 F1 N1 B1 O1 Sd1 Dv1 L1 rc1 re1 fr1 lo1 sm1 ++ (pS cy x (upd S 3 (nI i)))) (wr := [tO cy w b x wc lw gw ss sl sc sp] ++ (pS cy a S)) (rest := []) hx hb hml hown hw hG hK hP3 hD3 hS3 hA hl2 kc_X0_settle kw_3_145 [.ref (x 0)] (c_X0_settle l D cy G H3.size b P1 F1 N1 B1 O1 Sd1 Dv1 L1 rc1 re1 fr1 lo1 sm1 x (upd S 3 (nI i)) ((wf_nt wf (by decide) (by decide) (by decide) (nI i)).1)) [1, 2, 3, 4, 5, 6, 7, 8, 9, 10, 11, 12, 13, 14, 15, 16, 17, 18, 19, 20, 21, 22, 23, 24, 25] [0, 26, 27, 28, 29, 30, 31, 32, 33, 34, 35] rfl rfl rfl rfl rfl 0 rfl rfl rfl rfl rfl (Nat.le_of_ble_eq_true rfl) ⟨Nat.le_of_ble_eq_true rfl, Nat.le_of_ble_eq_true rfl⟩ dX5_findLine_37 ⟨Nat.le_of_ble_eq_true rfl, Nat.le_of_ble_eq_true rfl⟩ (fun u9 H4 locs4 hu9 hP4 hD4 hS4 => ?_)
    clear hP3 hD3 hS3 locs3 H3
    obtain ⟨F1_37, N1_37, B1_37, O1_37, Sd1_37, Dv1_37, L1_37⟩ := u9
    have hF_37 := hu9
    replace hF_37 : ∀ g, g < gcN (upd S 3 (nI i)) → F1_37 g = flow (upd S 3 (nI i)) (PR (upd S 3 (nI i))) g := hF_37
    replace hP4 : va_P D vwCl ([tO cy w b x wc lw gw ss sl sc sp] ++ (pS cy a S ++ (aS cy b (PR (upd S 3 (nI i))) F1_37 N1_37 B1_37 O1_37 Sd1_37 Dv1_37 L1_37 (nI (RC (upd S 3 (nI i)))) (b2i (RC (upd S 3 (nI i)) = 60)) (fresh (upd S 3 (nI i))) (lost (upd S 3 (nI i))) (b2i (smokes (upd S 3 (nI i)) = true)) ++ (pS cy x (upd S 3 (nI i)))))) H4 := hP4
    replace hD4 : va_D (va_A _ sz) ([tO cy w b x wc lw gw ss sl sc sp] ++ (pS cy a S ++ (aS cy b (PR (upd S 3 (nI i))) F1_37 N1_37 B1_37 O1_37 Sd1_37 Dv1_37 L1_37 (nI (RC (upd S 3 (nI i)))) (b2i (RC (upd S 3 (nI i)) = 60)) (fresh (upd S 3 (nI i))) (lost (upd S 3 (nI i))) (b2i (smokes (upd S 3 (nI i)) = true)) ++ (pS cy x (upd S 3 (nI i)))))) := hD4
    replace hP4 := hP4.sub (ws' := [tO cy w b x wc lw gw ss sl sc sp] ++ (aS cy b (PR (upd S 3 (nI i))) F1_37 N1_37 B1_37 O1_37 Sd1_37 Dv1_37 L1_37 (nI (RC (upd S 3 (nI i)))) (b2i (RC (upd S 3 (nI i)) = 60)) (fresh (upd S 3 (nI i))) (lost (upd S 3 (nI i))) (b2i (smokes (upd S 3 (nI i)) = true)) ++ (pS cy x (upd S 3 (nI i)) ++ (pS cy a S)))) [0, 11, 12, 13, 14, 15, 16, 17, 18, 19, 20, 21, 22, 23, 24, 25, 26, 27, 28, 29, 30, 31, 32, 33, 34, 35, 1, 2, 3, 4, 5, 6, 7, 8, 9, 10] rfl
    replace hD4 := hD4.sub (ws' := [tO cy w b x wc lw gw ss sl sc sp] ++ (aS cy b (PR (upd S 3 (nI i))) F1_37 N1_37 B1_37 O1_37 Sd1_37 Dv1_37 L1_37 (nI (RC (upd S 3 (nI i)))) (b2i (RC (upd S 3 (nI i)) = 60)) (fresh (upd S 3 (nI i))) (lost (upd S 3 (nI i))) (b2i (smokes (upd S 3 (nI i)) = true)) ++ (pS cy x (upd S 3 (nI i)) ++ (pS cy a S)))) [0, 11, 12, 13, 14, 15, 16, 17, 18, 19, 20, 21, 22, 23, 24, 25, 26, 27, 28, 29, 30, 31, 32, 33, 34, 35, 1, 2, 3, 4, 5, 6, 7, 8, 9, 10] (by decide) rfl
    refine lv_aload_n hx hb dX5_findLine_40 rfl (lv_at hl2 1 rfl) ?_
    refine va_get (D := D) (ci := 5) (v := .ref (b 0)) (C := RX5) (T := TX5) (N := 11) hx hb hw iX5 hown hK hP4 0 rfl rfl 0 (by decide) (hw _ kw_1_163) (fun _ h9 => h9) rfl dX5_findLine_41 ?_
    refine va_get (D := D) (ci := 0) (v := .int (b2i (smokes (upd S 3 (nI i)) = true))) (C := RX0) (T := TX0) (N := 13) hx hb hw iX0 hown hK hP4 1 rfl rfl 6 (by decide) (hw _ kw_1_118) (fun _ h9 => h9) rfl dX5_findLine_44 ?_
    refine lb_eq (tgt := 52) hx hb dX5_findLine_47 (by decide) (fun c_47 => ?_) (fun c_47 => ?_)
    · refine lv_iinc (v := nI (i + 1)) (lv' := [(2, .int (nI (i + 1))), (0, .ref (w 0)), (1, .ref (a 0))]) hx hb dX5_findLine_52 hl2 (k := 0) rfl (nI_inc _) (by decide) rfl (fun ls3 hl3 => ?_)
      clear hl2 ls2
      refine lv_goto (tgt := 10) hx hb dX5_findLine_55 (by decide) ?_
      exact ih_10 (i + 1, PR (upd S 3 (nI i)), F1_37, N1_37, B1_37, O1_37, Sd1_37, Dv1_37, L1_37, nI (RC (upd S 3 (nI i))), b2i (RC (upd S 3 (nI i)) = 60), fresh (upd S 3 (nI i)), lost (upd S 3 (nI i)), b2i (smokes (upd S 3 (nI i)) = true), upd S 3 (nI i)) (⟨by first | omega | assumption | rfl | simp_all, (can_upd (wf_can wf) (by omega) (Or.inl (by omega))), fun v => upd_upd S _ _ v, fun j hj => by
          by_cases e9 : j = i
          · subst e9; exact Bool.eq_false_iff.mpr c_47
          · exact hs j (by omega)⟩) (by (try dsimp only); omega) H4 locs4 ls3 hP4 hD4 hS4 (lv_sub hl3 [0, 1, 2] rfl)
    · refine lv_iload_n hx hb dX5_findLine_50 rfl (lv_at hl2 0 rfl) ?_
      refine re_i (PR (upd S 3 (nI i)), F1_37, N1_37, B1_37, O1_37, Sd1_37, Dv1_37, L1_37, nI (RC (upd S 3 (nI i))), b2i (RC (upd S 3 (nI i)) = 60), fresh (upd S 3 (nI i)), lost (upd S 3 (nI i)), b2i (smokes (upd S 3 (nI i)) = true), upd S 3 (nI i)) hx hb hr hlocks hP4 hD4 hS4 dX5_findLine_51 ?_
      exact (⟨lineR_at (by omega) hs c_47, can_upd (wf_can wf) (by omega) (Or.inl (by omega))⟩)

theorem kc_X5_findWorst : kV yX5_findWorst cX5_findWorst 5 (some .int) 1 := ⟨kw_3_233, kw_3_234, kw_1_4, kw_3_235, by decide, by decide, by decide +kernel⟩
set_option maxHeartbeats 4000000 in
set_option maxRecDepth 100000 in
theorem c_X5_findWorst (l : Launch) (D : va_G) (cy : Nat → ClassId) (G : Nat → Nat) (sz : Nat) (w : Nat → Nat) (b : Nat → Nat) (x : Nat → Nat) (wc : Int32) (lw : Int32) (gw : Int32) (ss : Int32) (sl : Int32) (sc : Int32) (sp : Int32) (P : Nat → Int32) (F : Nat → Int32) (N : Nat → Int32) (B : Nat → Int32) (O : Nat → Int32) (Sd : Nat → Int32) (Dv : Nat → Int32) (L : Nat → Nat → Int32) (rc : Int32) (re : Int32) (fr : Int32) (lo : Int32) (sm : Int32) (X : Nat → Int32) (a : Nat → Nat) (S : Nat → Int32) (hX : can X) (wf : wf S) : Met l yX5_findWorst (wm yX5_findWorst cX5_findWorst 5 (some .int)) { frames := 5, cells := 0, slots := 0, locals := 109 } (va_Pc [.ref (w 0), .ref (a 0)] (pr D (TY cy) G ([tO cy w b x wc lw gw ss sl sc sp] ++ (aS cy b P F N B O Sd Dv L rc re fr lo sm ++ (pS cy x X ++ (pS cy a S)))) sz)) (va_Qi (fun (r : Int32) (u : (Nat → Int32) × (Nat → Int32) × (Nat → Int32) × (Nat → Int32) × (Nat → Int32) × (Nat → Int32) × (Nat → Int32) × (Nat → Nat → Int32) × Int32 × Int32 × Int32 × Int32 × Int32 × (Nat → Int32)) => (r = wrB S 4) ∧ (can u.2.2.2.2.2.2.2.2.2.2.2.2.2)) (fun (u : (Nat → Int32) × (Nat → Int32) × (Nat → Int32) × (Nat → Int32) × (Nat → Int32) × (Nat → Int32) × (Nat → Int32) × (Nat → Nat → Int32) × Int32 × Int32 × Int32 × Int32 × Int32 × (Nat → Int32)) t => po D (va_A ([tO cy w b x wc lw gw ss sl sc sp] ++ (aS cy b P F N B O Sd Dv L rc re fr lo sm ++ (pS cy x X ++ (pS cy a S)))) sz) ([tO cy w b x wc lw gw ss sl sc sp] ++ (aS cy b u.1 u.2.1 u.2.2.1 u.2.2.2.1 u.2.2.2.2.1 u.2.2.2.2.2.1 u.2.2.2.2.2.2.1 u.2.2.2.2.2.2.2.1 u.2.2.2.2.2.2.2.2.1 u.2.2.2.2.2.2.2.2.2.1 u.2.2.2.2.2.2.2.2.2.2.1 u.2.2.2.2.2.2.2.2.2.2.2.1 u.2.2.2.2.2.2.2.2.2.2.2.2.1 ++ (pS cy x u.2.2.2.2.2.2.2.2.2.2.2.2.2 ++ (pS cy a S)))) t) (va_A ([tO cy w b x wc lw gw ss sl sc sp] ++ (aS cy b P F N B O Sd Dv L rc re fr lo sm ++ (pS cy x X ++ (pS cy a S)))) sz)) 0 0 (va_A ([tO cy w b x wc lw gw ss sl sc sp] ++ (aS cy b P F N B O Sd Dv L rc re fr lo sm ++ (pS cy x X ++ (pS cy a S)))) sz) := by
  refine mk_rw (by decide) RX5 rfl (Nat.le_of_ble_eq_true rfl) [(0, .ref (w 0)), (1, .ref (a 0))] rfl ?_
  intro p e s m below meth c hx hb hml hown hr hlocks hin hw hsz hA hG hK H0 locs0 hP0 hD0 hS0 ls0 hl0
  clear hin
  have hg20 := wf_g20 wf
  have hr6 := wf_r6 wf
  refine lv_aload_n hx hb dX5_findWorst_0 rfl (lv_at hl0 0 rfl) ?_
  refine va_get (D := D) (ci := 5) (v := .ref (x 0)) (C := RX5) (T := TX5) (N := 11) hx hb hw iX5 hown hK hP0 0 rfl rfl 10 (by decide) (hw _ kw_1_183) (fun _ h9 => h9) rfl dX5_findWorst_1 ?_
  refine lv_aload_n hx hb dX5_findWorst_4 rfl (lv_at hl0 1 rfl) ?_
  refine cV_v (wc := pS cy x X ++ (pS cy a S)) (wr := [tO cy w b x wc lw gw ss sl sc sp] ++ (aS cy b P F N B O Sd Dv L rc re fr lo sm)) (rest := []) hx hb hml hown hw hG hK hP0 hD0 hS0 hA hl0 kc_X1_takeFrom kw_3_144 [.ref (a 0)] (c_X1_takeFrom l D cy G H0.size x X a S hX (wf_can wf)) [16, 17, 18, 19, 20, 21, 22, 23, 24, 25, 26, 27, 28, 29, 30, 31, 32, 33, 34, 35] [0, 1, 2, 3, 4, 5, 6, 7, 8, 9, 10, 11, 12, 13, 14, 15] rfl rfl rfl rfl rfl 0 rfl rfl rfl rfl rfl (Nat.le_of_ble_eq_true rfl) ⟨Nat.le_of_ble_eq_true rfl, Nat.le_of_ble_eq_true rfl⟩ dX5_findWorst_5 ⟨Nat.le_of_ble_eq_true rfl, Nat.le_of_ble_eq_true rfl⟩ (fun u9 H1 locs1 hu9 hP1 hD1 hS1 => ?_)
  clear hP0 hD0 hS0 locs0 H0
  replace hP1 : va_P D vwCl ([tO cy w b x wc lw gw ss sl sc sp] ++ (aS cy b P F N B O Sd Dv L rc re fr lo sm ++ (pS cy x S ++ (pS cy a S)))) H1 := hP1
  replace hD1 : va_D (va_A _ sz) ([tO cy w b x wc lw gw ss sl sc sp] ++ (aS cy b P F N B O Sd Dv L rc re fr lo sm ++ (pS cy x S ++ (pS cy a S)))) := hD1
  refine lv_iconst (v := 0) hx hb dX5_findWorst_8 (by decide) ?_
  refine lv_istore_n (lv' := [(2, .int 0), (0, .ref (w 0)), (1, .ref (a 0))]) hx hb dX5_findWorst_9 rfl hl0 (by decide) rfl (fun ls1 hl1 => ?_)
  clear hl0 ls0
  refine lv_iconst (v := (-1)) hx hb dX5_findWorst_10 (by decide) ?_
  refine lv_istore_n (lv' := [(3, .int (-1)), (2, .int 0), (0, .ref (w 0)), (1, .ref (a 0))]) hx hb dX5_findWorst_11 rfl hl1 (by decide) rfl (fun ls2 hl2 => ?_)
  clear hl1 ls1
  refine lv_iconst (v := 0) hx hb dX5_findWorst_12 (by decide) ?_
  refine lv_istore (lv' := [(4, .int 0), (3, .int (-1)), (2, .int 0), (0, .ref (w 0)), (1, .ref (a 0))]) hx hb dX5_findWorst_13 hl2 (by decide) rfl (fun ls3 hl3 => ?_)
  clear hl2 ls2
  refine wlp (ι := Nat × (Nat → Int32) × (Nat → Int32) × (Nat → Int32) × (Nat → Int32) × (Nat → Int32) × (Nat → Int32) × (Nat → Int32) × (Nat → Nat → Int32) × Int32 × Int32 × Int32 × Int32 × Int32 × (Nat → Int32)) (nL := 5) (fun x9 => (x9.1 ≤ 4) ∧ (can x9.2.2.2.2.2.2.2.2.2.2.2.2.2.2) ∧ (∀ v : Int32, upd x9.2.2.2.2.2.2.2.2.2.2.2.2.2.2 4 v = upd S 4 v)) (fun x9 => [tO cy w b x wc lw gw ss sl sc sp] ++ (aS cy b x9.2.1 x9.2.2.1 x9.2.2.2.1 x9.2.2.2.2.1 x9.2.2.2.2.2.1 x9.2.2.2.2.2.2.1 x9.2.2.2.2.2.2.2.1 x9.2.2.2.2.2.2.2.2.1 x9.2.2.2.2.2.2.2.2.2.1 x9.2.2.2.2.2.2.2.2.2.2.1 x9.2.2.2.2.2.2.2.2.2.2.2.1 x9.2.2.2.2.2.2.2.2.2.2.2.2.1 x9.2.2.2.2.2.2.2.2.2.2.2.2.2.1 ++ (pS cy x x9.2.2.2.2.2.2.2.2.2.2.2.2.2.2 ++ (pS cy a S)))) (fun x9 => [(4, .int (nI x9.1)), (3, .int (wrM S x9.1)), (2, .int (wrB S x9.1)), (0, .ref (w 0)), (1, .ref (a 0))]) (fun x9 => []) (fun x9 => 4 - x9.1) 15 ?_ (0, P, F, N, B, O, Sd, Dv, L, rc, re, fr, lo, sm, S) (⟨by first | omega | assumption | rfl | simp_all, wf_can wf, fun _ => rfl⟩) rfl hP1 hD1 hS1 (lv_sub hl3 [0, 1, 2, 3, 4] rfl)
  clear hP1 hD1 hS1 locs1 H1 hl3 ls3
  intro x9 hI ih_15 H2 locs2 ls4 hP2 hD2 hS2 hl4
  obtain ⟨i, P1, F1, N1, B1, O1, Sd1, Dv1, L1, rc1, re1, fr1, lo1, sm1, X1⟩ := x9
  obtain ⟨hi, hX1, hU⟩ := hI
  replace hi : i ≤ 4 := hi
  replace hX1 : can X1 := hX1
  replace hU : ∀ v : Int32, upd X1 4 v = upd S 4 v := hU
  replace hP2 : va_P D vwCl ([tO cy w b x wc lw gw ss sl sc sp] ++ (aS cy b P1 F1 N1 B1 O1 Sd1 Dv1 L1 rc1 re1 fr1 lo1 sm1 ++ (pS cy x X1 ++ (pS cy a S)))) H2 := hP2
  replace hD2 : va_D (va_A _ sz) ([tO cy w b x wc lw gw ss sl sc sp] ++ (aS cy b P1 F1 N1 B1 O1 Sd1 Dv1 L1 rc1 re1 fr1 lo1 sm1 ++ (pS cy x X1 ++ (pS cy a S)))) := hD2
  replace hl4 : lv_has ls4 5 [(4, .int (nI i)), (3, .int (wrM S i)), (2, .int (wrB S i)), (0, .ref (w 0)), (1, .ref (a 0))] := hl4
  show W p l e _ s m _ below meth c _ _ _ _ _ (F0 m 15 ls4 [])
  refine lv_iload hx hb dX5_findWorst_15 (lv_at hl4 0 rfl) ?_
  refine lv_iconst (v := 4) hx hb dX5_findWorst_17 (by decide) ?_
  refine ln_ge (tgt := 71) i 4 rfl rfl (by omega) (by omega) hx hb dX5_findWorst_18 (by decide) (fun c_18 => ?_) (fun c_18 => ?_)
  · obtain rfl : i = 4 := (by omega)
    refine lv_iload_n hx hb dX5_findWorst_71 rfl (lv_at hl4 2 rfl) ?_
    refine re_i (P1, F1, N1, B1, O1, Sd1, Dv1, L1, rc1, re1, fr1, lo1, sm1, X1) hx hb hr hlocks hP2 hD2 hS2 dX5_findWorst_72 ?_
    exact (⟨rfl, hX1⟩)
  · refine lv_aload_n hx hb dX5_findWorst_21 rfl (lv_at hl4 3 rfl) ?_
    refine va_get (D := D) (ci := 5) (v := .ref (x 0)) (C := RX5) (T := TX5) (N := 11) hx hb hw iX5 hown hK hP2 0 rfl rfl 10 (by decide) (hw _ kw_1_183) (fun _ h9 => h9) rfl dX5_findWorst_22 ?_
    refine va_get (D := D) (ci := 1) (v := .ref (x 9)) (C := RX1) (T := TX1) (N := 12) hx hb hw iX1 hown hK hP2 16 rfl rfl 10 (by decide) (hw _ kw_1_64) (fun _ h9 => h9) rfl dX5_findWorst_25 ?_
    refine lv_iconst (v := 2) hx hb dX5_findWorst_28 (by decide) ?_
    refine lv_iload hx hb dX5_findWorst_29 (lv_at hl4 0 rfl) ?_
    refine ast_i (f := fun k => if k < 6 then X1 (2 + k) else 0) (ws' := [tO cy w b x wc lw gw ss sl sc sp] ++ (aS cy b P1 F1 N1 B1 O1 Sd1 Dv1 L1 rc1 re1 fr1 lo1 sm1 ++ (pS cy x (upd X1 (2 + 2) (nI i)) ++ (pS cy a S)))) hx hb hK hP2 hD2 hS2 25 0 rfl rfl 2 rfl (by first | omega | assumption) (by decide) (congrArg (fun z => [tO cy w b x wc lw gw ss sl sc sp] ++ (aS cy b P1 F1 N1 B1 O1 Sd1 Dv1 L1 rc1 re1 fr1 lo1 sm1 ++ (z ++ (pS cy a S)))) (pS_nt cy x X1 2 (nI i) (by first | decide | omega))) dX5_findWorst_31 (fun H3 locs3 hP3 hD3 hS3 => ?_)
    clear hP2 hD2 hS2 locs2 H2
    have hq9 : ([tO cy w b x wc lw gw ss sl sc sp] ++ (aS cy b P1 F1 N1 B1 O1 Sd1 Dv1 L1 rc1 re1 fr1 lo1 sm1 ++ (pS cy x (upd X1 (2 + 2) (nI i)) ++ (pS cy a S)))) = ([tO cy w b x wc lw gw ss sl sc sp] ++ (aS cy b P1 F1 N1 B1 O1 Sd1 Dv1 L1 rc1 re1 fr1 lo1 sm1 ++ (pS cy x (upd S 4 (nI i)) ++ (pS cy a S)))) := congrArg (fun z9 => [tO cy w b x wc lw gw ss sl sc sp] ++ (aS cy b P1 F1 N1 B1 O1 Sd1 Dv1 L1 rc1 re1 fr1 lo1 sm1 ++ (pS cy x z9 ++ (pS cy a S)))) (show (upd X1 (2 + 2) (nI i)) = (upd S 4 (nI i)) from hU (nI i))
    replace hP3 := (congrArg (fun z9 => va_P D vwCl z9 _) hq9).mp hP3
    replace hD3 := (congrArg (fun z9 => va_D _ z9) hq9).mp hD3
    clear hq9
    refine lv_aload_n hx hb dX5_findWorst_32 rfl (lv_at hl4 3 rfl) ?_
    refine va_get (D := D) (ci := 5) (v := .ref (b 0)) (C := RX5) (T := TX5) (N := 11) hx hb hw iX5 hown hK hP3 0 rfl rfl 0 (by decide) (hw _ kw_1_163) (fun _ h9 => h9) rfl dX5_findWorst_33 ?_
    refine lv_aload_n hx hb dX5_findWorst_36 rfl (lv_at hl4 3 rfl) ?_
    refine va_get (D := D) (ci := 5) (v := .ref (x 0)) (C := RX5) (T := TX5) (N := 11) hx hb hw iX5 hown hK hP3 0 rfl rfl 10 (by decide) (hw _ kw_1_183) (fun _ h9 => h9) rfl dX5_findWorst_37 ?_
    refine cV_v (wc := aS cy b P1 F1 N1 B1 O1 Sd1 Dv1 L1 rc1 re1 fr1 lo1 sm1 ++ (pS cy x (upd S 4 (nI i)))) (wr := [tO cy w b x wc lw gw ss sl sc sp] ++ (pS cy a S)) (rest := []) hx hb hml hown hw hG hK hP3 hD3 hS3 hA hl4 kc_X0_settle kw_3_145 [.ref (x 0)] (c_X0_settle l D cy G H3.size b P1 F1 N1 B1 O1 Sd1 Dv1 L1 rc1 re1 fr1 lo1 sm1 x (upd S 4 (nI i)) ((wf_from wf (x := nI i) ⟨nI_pos' (by omega), (nI_ltI (by omega) (by decide)).mpr c_18⟩).1)) [1, 2, 3, 4, 5, 6, 7, 8, 9, 10, 11, 12, 13, 14, 15, 16, 17, 18, 19, 20, 21, 22, 23, 24, 25] [0, 26, 27, 28, 29, 30, 31, 32, 33, 34, 35] rfl rfl rfl rfl rfl 0 rfl rfl rfl rfl rfl (Nat.le_of_ble_eq_true rfl) ⟨Nat.le_of_ble_eq_true rfl, Nat.le_of_ble_eq_true rfl⟩ dX5_findWorst_40 ⟨Nat.le_of_ble_eq_true rfl, Nat.le_of_ble_eq_true rfl⟩ (fun u9 H4 locs4 hu9 hP4 hD4 hS4 => ?_)
    clear hP3 hD3 hS3 locs3 H3
    obtain ⟨F1_40, N1_40, B1_40, O1_40, Sd1_40, Dv1_40, L1_40⟩ := u9
    have hF_40 := hu9
    replace hF_40 : ∀ g, g < gcN (upd S 4 (nI i)) → F1_40 g = flow (upd S 4 (nI i)) (PR (upd S 4 (nI i))) g := hF_40
    replace hP4 : va_P D vwCl ([tO cy w b x wc lw gw ss sl sc sp] ++ (pS cy a S ++ (aS cy b (PR (upd S 4 (nI i))) F1_40 N1_40 B1_40 O1_40 Sd1_40 Dv1_40 L1_40 (nI (RC (upd S 4 (nI i)))) (b2i (RC (upd S 4 (nI i)) = 60)) (fresh (upd S 4 (nI i))) (lost (upd S 4 (nI i))) (b2i (smokes (upd S 4 (nI i)) = true)) ++ (pS cy x (upd S 4 (nI i)))))) H4 := hP4
    replace hD4 : va_D (va_A _ sz) ([tO cy w b x wc lw gw ss sl sc sp] ++ (pS cy a S ++ (aS cy b (PR (upd S 4 (nI i))) F1_40 N1_40 B1_40 O1_40 Sd1_40 Dv1_40 L1_40 (nI (RC (upd S 4 (nI i)))) (b2i (RC (upd S 4 (nI i)) = 60)) (fresh (upd S 4 (nI i))) (lost (upd S 4 (nI i))) (b2i (smokes (upd S 4 (nI i)) = true)) ++ (pS cy x (upd S 4 (nI i)))))) := hD4
    replace hP4 := hP4.sub (ws' := [tO cy w b x wc lw gw ss sl sc sp] ++ (aS cy b (PR (upd S 4 (nI i))) F1_40 N1_40 B1_40 O1_40 Sd1_40 Dv1_40 L1_40 (nI (RC (upd S 4 (nI i)))) (b2i (RC (upd S 4 (nI i)) = 60)) (fresh (upd S 4 (nI i))) (lost (upd S 4 (nI i))) (b2i (smokes (upd S 4 (nI i)) = true)) ++ (pS cy x (upd S 4 (nI i)) ++ (pS cy a S)))) [0, 11, 12, 13, 14, 15, 16, 17, 18, 19, 20, 21, 22, 23, 24, 25, 26, 27, 28, 29, 30, 31, 32, 33, 34, 35, 1, 2, 3, 4, 5, 6, 7, 8, 9, 10] rfl
    replace hD4 := hD4.sub (ws' := [tO cy w b x wc lw gw ss sl sc sp] ++ (aS cy b (PR (upd S 4 (nI i))) F1_40 N1_40 B1_40 O1_40 Sd1_40 Dv1_40 L1_40 (nI (RC (upd S 4 (nI i)))) (b2i (RC (upd S 4 (nI i)) = 60)) (fresh (upd S 4 (nI i))) (lost (upd S 4 (nI i))) (b2i (smokes (upd S 4 (nI i)) = true)) ++ (pS cy x (upd S 4 (nI i)) ++ (pS cy a S)))) [0, 11, 12, 13, 14, 15, 16, 17, 18, 19, 20, 21, 22, 23, 24, 25, 26, 27, 28, 29, 30, 31, 32, 33, 34, 35, 1, 2, 3, 4, 5, 6, 7, 8, 9, 10] (by decide) rfl
    refine lv_aload_n hx hb dX5_findWorst_43 rfl (lv_at hl4 3 rfl) ?_
    refine va_get (D := D) (ci := 5) (v := .ref (b 0)) (C := RX5) (T := TX5) (N := 11) hx hb hw iX5 hown hK hP4 0 rfl rfl 0 (by decide) (hw _ kw_1_163) (fun _ h9 => h9) rfl dX5_findWorst_44 ?_
    refine va_get (D := D) (ci := 0) (v := .int (lost (upd S 4 (nI i)))) (C := RX0) (T := TX0) (N := 13) hx hb hw iX0 hown hK hP4 1 rfl rfl 5 (by decide) (hw _ kw_1_115) (fun _ h9 => h9) rfl dX5_findWorst_47 ?_
    refine lv_iload_n hx hb dX5_findWorst_50 rfl (lv_at hl4 1 rfl) ?_
    refine lv_icmp_le (tgt := 65) hx hb dX5_findWorst_51 (by decide) (fun c_51 => ?_) (fun c_51 => ?_)
    · have hq9 : wrB S (i + 1) = wrB S i := by clear hx hb hml hown hr hlocks hw hsz hA hG hK hP4 hD4 hS4 hl4 ih_15; grind [wrB]
      replace hl4 : lv_has ls4 5 [(4, .int (nI i)), (3, .int (wrM S i)), (2, .int (wrB S (i + 1))), (0, .ref (w 0)), (1, .ref (a 0))] := (congrArg (fun z9 => lv_has ls4 5 [(4, .int (nI i)), (3, .int (wrM S i)), (2, .int z9), (0, .ref (w 0)), (1, .ref (a 0))]) hq9).mpr hl4
      clear hq9
      have hq9 : wrM S (i + 1) = wrM S i := by clear hx hb hml hown hr hlocks hw hsz hA hG hK hP4 hD4 hS4 hl4 ih_15; grind [wrM]
      replace hl4 : lv_has ls4 5 [(4, .int (nI i)), (3, .int (wrM S (i + 1))), (2, .int (wrB S (i + 1))), (0, .ref (w 0)), (1, .ref (a 0))] := (congrArg (fun z9 => lv_has ls4 5 [(4, .int (nI i)), (3, .int z9), (2, .int (wrB S (i + 1))), (0, .ref (w 0)), (1, .ref (a 0))]) hq9).mpr hl4
      clear hq9
      refine lv_iinc (v := nI (i + 1)) (lv' := [(4, .int (nI (i + 1))), (3, .int (wrM S (i + 1))), (2, .int (wrB S (i + 1))), (0, .ref (w 0)), (1, .ref (a 0))]) hx hb dX5_findWorst_65 hl4 (k := 0) rfl (nI_inc _) (by decide) rfl (fun ls5 hl5 => ?_)
      clear hl4 ls4
      refine lv_goto (tgt := 15) hx hb dX5_findWorst_68 (by decide) ?_
      exact ih_15 (i + 1, PR (upd S 4 (nI i)), F1_40, N1_40, B1_40, O1_40, Sd1_40, Dv1_40, L1_40, nI (RC (upd S 4 (nI i))), b2i (RC (upd S 4 (nI i)) = 60), fresh (upd S 4 (nI i)), lost (upd S 4 (nI i)), b2i (smokes (upd S 4 (nI i)) = true), upd S 4 (nI i)) (⟨by first | omega | assumption | rfl | simp_all, (can_upd (wf_can wf) (by omega) (Or.inl (by omega))), fun v => upd_upd S _ _ v⟩) (by (try dsimp only); omega) H4 locs4 ls5 hP4 hD4 hS4 (lv_sub hl5 [0, 1, 2, 3, 4] rfl)
    · refine lv_iload hx hb dX5_findWorst_54 (lv_at hl4 0 rfl) ?_
      refine lv_istore_n (lv' := [(2, .int (nI i)), (4, .int (nI i)), (3, .int (wrM S i)), (0, .ref (w 0)), (1, .ref (a 0))]) hx hb dX5_findWorst_56 rfl hl4 (by decide) rfl (fun ls5 hl5 => ?_)
      clear hl4 ls4
      refine lv_aload_n hx hb dX5_findWorst_57 rfl (lv_at hl5 3 rfl) ?_
      refine va_get (D := D) (ci := 5) (v := .ref (b 0)) (C := RX5) (T := TX5) (N := 11) hx hb hw iX5 hown hK hP4 0 rfl rfl 0 (by decide) (hw _ kw_1_163) (fun _ h9 => h9) rfl dX5_findWorst_58 ?_
      refine va_get (D := D) (ci := 0) (v := .int (lost (upd S 4 (nI i)))) (C := RX0) (T := TX0) (N := 13) hx hb hw iX0 hown hK hP4 1 rfl rfl 5 (by decide) (hw _ kw_1_115) (fun _ h9 => h9) rfl dX5_findWorst_61 ?_
      refine lv_istore_n (lv' := [(3, .int (lost (upd S 4 (nI i)))), (2, .int (nI i)), (4, .int (nI i)), (0, .ref (w 0)), (1, .ref (a 0))]) hx hb dX5_findWorst_64 rfl hl5 (by decide) rfl (fun ls6 hl6 => ?_)
      clear hl5 ls5
      have hq9 : wrB S (i + 1) = nI i := by clear hx hb hml hown hr hlocks hw hsz hA hG hK hP4 hD4 hS4 hl6 ih_15; grind [wrB]
      replace hl6 : lv_has ls6 5 [(3, .int (lost (upd S 4 (nI i)))), (2, .int (wrB S (i + 1))), (4, .int (nI i)), (0, .ref (w 0)), (1, .ref (a 0))] := (congrArg (fun z9 => lv_has ls6 5 [(3, .int (lost (upd S 4 (nI i)))), (2, .int z9), (4, .int (nI i)), (0, .ref (w 0)), (1, .ref (a 0))]) hq9).mpr hl6
      clear hq9
      have hq9 : wrM S (i + 1) = lost (upd S 4 (nI i)) := by clear hx hb hml hown hr hlocks hw hsz hA hG hK hP4 hD4 hS4 hl6 ih_15; grind [wrM]
      replace hl6 : lv_has ls6 5 [(3, .int (wrM S (i + 1))), (2, .int (wrB S (i + 1))), (4, .int (nI i)), (0, .ref (w 0)), (1, .ref (a 0))] := (congrArg (fun z9 => lv_has ls6 5 [(3, .int z9), (2, .int (wrB S (i + 1))), (4, .int (nI i)), (0, .ref (w 0)), (1, .ref (a 0))]) hq9).mpr hl6
      clear hq9
      refine lv_iinc (v := nI (i + 1)) (lv' := [(4, .int (nI (i + 1))), (3, .int (wrM S (i + 1))), (2, .int (wrB S (i + 1))), (0, .ref (w 0)), (1, .ref (a 0))]) hx hb dX5_findWorst_65 hl6 (k := 2) rfl (nI_inc _) (by decide) rfl (fun ls7 hl7 => ?_)
      clear hl6 ls6
      refine lv_goto (tgt := 15) hx hb dX5_findWorst_68 (by decide) ?_
      exact ih_15 (i + 1, PR (upd S 4 (nI i)), F1_40, N1_40, B1_40, O1_40, Sd1_40, Dv1_40, L1_40, nI (RC (upd S 4 (nI i))), b2i (RC (upd S 4 (nI i)) = 60), fresh (upd S 4 (nI i)), lost (upd S 4 (nI i)), b2i (smokes (upd S 4 (nI i)) = true), upd S 4 (nI i)) (⟨by first | omega | assumption | rfl | simp_all, (can_upd (wf_can wf) (by omega) (Or.inl (by omega))), fun v => upd_upd S _ _ v⟩) (by (try dsimp only); omega) H4 locs4 ls7 hP4 hD4 hS4 (lv_sub hl7 [0, 1, 2, 3, 4] rfl)

theorem kc_X5_takeStep : kV yX5_takeStep cX5_takeStep 4 (some .boolean) 0 := ⟨kw_3_197, kw_s_25, kw_1_4, kw_3_198, by decide, by decide, by decide +kernel⟩
set_option maxHeartbeats 4000000 in
set_option maxRecDepth 100000 in
theorem c_X5_takeStep (l : Launch) (D : va_G) (cy : Nat → ClassId) (G : Nat → Nat) (sz : Nat) (w : Nat → Nat) (b : Nat → Nat) (x : Nat → Nat) (wc : Int32) (lw : Int32) (gw : Int32) (ss : Int32) (sl : Int32) (sc : Int32) (sg : Nat → Int32) (lb : Nat → Int32) (P : Nat → Int32) (F : Nat → Int32) (N : Nat → Int32) (B : Nat → Int32) (O : Nat → Int32) (Sd : Nat → Int32) (Dv : Nat → Int32) (L : Nat → Nat → Int32) (rc : Int32) (re : Int32) (fr : Int32) (lo : Int32) (sm : Int32) (X : Nat → Int32) (k : Nat) (wf : wf X) (hk : k < 20) : Met l yX5_takeStep (wm yX5_takeStep cX5_takeStep 4 (some .boolean)) { frames := 5, cells := 0, slots := 0, locals := 109 } (va_Pc [.ref (w 0)] (pr D (TY cy) G ([tO cy w b x wc lw gw ss sl sc (nI k), ia cy (w 1) 20 sg, ia cy (w 2) 21 lb] ++ (aS cy b P F N B O Sd Dv L rc re fr lo sm ++ (pS cy x X))) sz)) (va_Qi (fun (r : Int32) (u : (Nat → Int32) × (Nat → Int32) × (Nat → Int32) × (Nat → Int32) × (Nat → Int32) × (Nat → Int32) × (Nat → Int32) × (Nat → Nat → Int32) × Int32 × Int32 × Int32 × Int32 × Int32) => r = b2i (¬ nsB X (lb k) (gcN X) = -1)) (fun (u : (Nat → Int32) × (Nat → Int32) × (Nat → Int32) × (Nat → Int32) × (Nat → Int32) × (Nat → Int32) × (Nat → Int32) × (Nat → Nat → Int32) × Int32 × Int32 × Int32 × Int32 × Int32) t => po D (va_A ([tO cy w b x wc lw gw ss sl sc (nI k), ia cy (w 1) 20 sg, ia cy (w 2) 21 lb] ++ (aS cy b P F N B O Sd Dv L rc re fr lo sm ++ (pS cy x X))) sz) ([tO cy w b x wc lw gw ss sl sc (if nsB X (lb k) (gcN X) = -1 then nI k else nI (k + 1)), ia cy (w 1) 20 (if nsB X (lb k) (gcN X) = -1 then sg else upd sg k (nsB X (lb k) (gcN X))), ia cy (w 2) 21 (if nsB X (lb k) (gcN X) = -1 then lb else upd lb (k + 1) (nsL X (lb k) (gcN X)))] ++ (aS cy b u.1 u.2.1 u.2.2.1 u.2.2.2.1 u.2.2.2.2.1 u.2.2.2.2.2.1 u.2.2.2.2.2.2.1 u.2.2.2.2.2.2.2.1 u.2.2.2.2.2.2.2.2.1 u.2.2.2.2.2.2.2.2.2.1 u.2.2.2.2.2.2.2.2.2.2.1 u.2.2.2.2.2.2.2.2.2.2.2.1 u.2.2.2.2.2.2.2.2.2.2.2.2 ++ (pS cy x (if nsB X (lb k) (gcN X) = -1 then X else upd X (16 + 8 * bstN (nsB X (lb k) (gcN X))) 1)))) t) (va_A ([tO cy w b x wc lw gw ss sl sc (nI k), ia cy (w 1) 20 sg, ia cy (w 2) 21 lb] ++ (aS cy b P F N B O Sd Dv L rc re fr lo sm ++ (pS cy x X))) sz)) 0 0 (va_A ([tO cy w b x wc lw gw ss sl sc (nI k), ia cy (w 1) 20 sg, ia cy (w 2) 21 lb] ++ (aS cy b P F N B O Sd Dv L rc re fr lo sm ++ (pS cy x X))) sz) := by
  refine mk_rw (by decide) RX5 rfl (Nat.le_of_ble_eq_true rfl) [(0, .ref (w 0))] rfl ?_
  intro p e s m below meth c hx hb hml hown hr hlocks hin hw hsz hA hG hK H0 locs0 hP0 hD0 hS0 ls0 hl0
  clear hin
  have hg20 := wf_g20 wf
  refine lv_iconst (v := (-1)) hx hb dX5_takeStep_0 (by decide) ?_
  refine lv_istore_n (lv' := [(1, .int (-1)), (0, .ref (w 0))]) hx hb dX5_takeStep_1 rfl hl0 (by decide) rfl (fun ls1 hl1 => ?_)
  clear hl0 ls0
  refine lv_aload_n hx hb dX5_takeStep_2 rfl (lv_at hl1 1 rfl) ?_
  refine va_get (D := D) (ci := 5) (v := .ref (w 2)) (C := RX5) (T := TX5) (N := 11) hx hb hw iX5 hown hK hP0 0 rfl rfl 9 (by decide) (hw _ kw_1_181) (fun _ h9 => h9) rfl dX5_takeStep_3 ?_
  refine lv_aload_n hx hb dX5_takeStep_6 rfl (lv_at hl1 1 rfl) ?_
  refine va_get (D := D) (ci := 5) (v := .int (nI k)) (C := RX5) (T := TX5) (N := 11) hx hb hw iX5 hown hK hP0 0 rfl rfl 7 (by decide) (hw _ kw_1_177) (fun _ h9 => h9) rfl dX5_takeStep_7 ?_
  refine ald_i (f := lb) hx hb hK hP0 2 0 rfl rfl k rfl (by first | omega | assumption) (by decide) dX5_takeStep_10 ?_
  refine lv_istore_n (lv' := [(2, .int (lb k)), (1, .int (-1)), (0, .ref (w 0))]) hx hb dX5_takeStep_11 rfl hl1 (by decide) rfl (fun ls2 hl2 => ?_)
  clear hl1 ls1
  refine lv_iconst (v := 0) hx hb dX5_takeStep_12 (by decide) ?_
  refine lv_istore_n (lv' := [(3, .int 0), (2, .int (lb k)), (1, .int (-1)), (0, .ref (w 0))]) hx hb dX5_takeStep_13 rfl hl2 (by decide) rfl (fun ls3 hl3 => ?_)
  clear hl2 ls2
  refine wlp (ι := Nat × (Nat → Int32) × (Nat → Int32) × (Nat → Int32) × (Nat → Int32) × (Nat → Int32) × (Nat → Int32) × (Nat → Int32) × (Nat → Nat → Int32) × Int32 × Int32 × Int32 × Int32 × Int32) (nL := 4) (fun x9 => (x9.1 ≤ gcN X)) (fun x9 => [tO cy w b x wc lw gw ss sl sc (nI k), ia cy (w 1) 20 sg, ia cy (w 2) 21 lb] ++ (aS cy b x9.2.1 x9.2.2.1 x9.2.2.2.1 x9.2.2.2.2.1 x9.2.2.2.2.2.1 x9.2.2.2.2.2.2.1 x9.2.2.2.2.2.2.2.1 x9.2.2.2.2.2.2.2.2.1 x9.2.2.2.2.2.2.2.2.2.1 x9.2.2.2.2.2.2.2.2.2.2.1 x9.2.2.2.2.2.2.2.2.2.2.2.1 x9.2.2.2.2.2.2.2.2.2.2.2.2.1 x9.2.2.2.2.2.2.2.2.2.2.2.2.2 ++ (pS cy x X))) (fun x9 => [(3, .int (nI x9.1)), (2, .int (nsL X (lb k) x9.1)), (1, .int (nsB X (lb k) x9.1)), (0, .ref (w 0))]) (fun x9 => []) (fun x9 => gcN X - x9.1) 14 ?_ (0, P, F, N, B, O, Sd, Dv, L, rc, re, fr, lo, sm) (by first | omega | assumption | rfl | simp_all) rfl hP0 hD0 hS0 (lv_sub hl3 [0, 1, 2, 3] rfl)
  clear hP0 hD0 hS0 locs0 H0 hl3 ls3
  intro x9 hI ih_14 H1 locs1 ls4 hP1 hD1 hS1 hl4
  obtain ⟨i, P1, F1, N1, B1, O1, Sd1, Dv1, L1, rc1, re1, fr1, lo1, sm1⟩ := x9
  have hi := hI
  replace hi : i ≤ gcN X := hi
  replace hP1 : va_P D vwCl ([tO cy w b x wc lw gw ss sl sc (nI k), ia cy (w 1) 20 sg, ia cy (w 2) 21 lb] ++ (aS cy b P1 F1 N1 B1 O1 Sd1 Dv1 L1 rc1 re1 fr1 lo1 sm1 ++ (pS cy x X))) H1 := hP1
  replace hD1 : va_D (va_A _ sz) ([tO cy w b x wc lw gw ss sl sc (nI k), ia cy (w 1) 20 sg, ia cy (w 2) 21 lb] ++ (aS cy b P1 F1 N1 B1 O1 Sd1 Dv1 L1 rc1 re1 fr1 lo1 sm1 ++ (pS cy x X))) := hD1
  replace hl4 : lv_has ls4 4 [(3, .int (nI i)), (2, .int (nsL X (lb k) i)), (1, .int (nsB X (lb k) i)), (0, .ref (w 0))] := hl4
  show W p l e _ s m _ below meth c _ _ _ _ _ (F0 m 14 ls4 [])
  refine lv_iload_n hx hb dX5_takeStep_14 rfl (lv_at hl4 0 rfl) ?_
  refine lv_aload_n hx hb dX5_takeStep_15 rfl (lv_at hl4 3 rfl) ?_
  refine va_get (D := D) (ci := 5) (v := .ref (x 0)) (C := RX5) (T := TX5) (N := 11) hx hb hw iX5 hown hK hP1 0 rfl rfl 10 (by decide) (hw _ kw_1_183) (fun _ h9 => h9) rfl dX5_takeStep_16 ?_
  refine va_get (D := D) (ci := 1) (v := .int (X 1)) (C := RX1) (T := TX1) (N := 12) hx hb hw iX1 hown hK hP1 18 rfl rfl 1 (by decide) (hw _ kw_1_37) (fun _ h9 => h9) rfl dX5_takeStep_19 ?_
  refine tp (show (X 1) = nI (gcN X) from wf_g wf) ?_
  refine ln_ge (tgt := 107) i (gcN X) rfl rfl (by omega) (by omega) hx hb dX5_takeStep_22 (by decide) (fun c_22 => ?_) (fun c_22 => ?_)
  · obtain rfl : i = gcN X := (by omega)
    refine lv_iload_n hx hb dX5_takeStep_107 rfl (lv_at hl4 2 rfl) ?_
    refine lv_if_lt (tgt := 120) hx hb dX5_takeStep_108 (by decide) (fun c_108 => ?_) (fun c_108 => ?_)
    · have hnb := (nsB_neg hg20).mp c_108
      have hq9 : ([tO cy w b x wc lw gw ss sl sc (nI k), ia cy (w 1) 20 sg, ia cy (w 2) 21 lb] ++ (aS cy b P1 F1 N1 B1 O1 Sd1 Dv1 L1 rc1 re1 fr1 lo1 sm1 ++ (pS cy x X))) = ([tO cy w b x wc lw gw ss sl sc (if nsB X (lb k) (gcN X) = -1 then nI k else nI (k + 1)), ia cy (w 1) 20 sg, ia cy (w 2) 21 lb] ++ (aS cy b P1 F1 N1 B1 O1 Sd1 Dv1 L1 rc1 re1 fr1 lo1 sm1 ++ (pS cy x X))) := congrArg (fun z9 => [tO cy w b x wc lw gw ss sl sc z9, ia cy (w 1) 20 sg, ia cy (w 2) 21 lb] ++ (aS cy b P1 F1 N1 B1 O1 Sd1 Dv1 L1 rc1 re1 fr1 lo1 sm1 ++ (pS cy x X))) (show (nI k) = (if nsB X (lb k) (gcN X) = -1 then nI k else nI (k + 1)) from (if_pos hnb).symm)
      replace hP1 := (congrArg (fun z9 => va_P D vwCl z9 _) hq9).mp hP1
      replace hD1 := (congrArg (fun z9 => va_D _ z9) hq9).mp hD1
      clear hq9
      have hq9 : ([tO cy w b x wc lw gw ss sl sc (if nsB X (lb k) (gcN X) = -1 then nI k else nI (k + 1)), ia cy (w 1) 20 sg, ia cy (w 2) 21 lb] ++ (aS cy b P1 F1 N1 B1 O1 Sd1 Dv1 L1 rc1 re1 fr1 lo1 sm1 ++ (pS cy x X))) = ([tO cy w b x wc lw gw ss sl sc (if nsB X (lb k) (gcN X) = -1 then nI k else nI (k + 1)), ia cy (w 1) 20 (if nsB X (lb k) (gcN X) = -1 then sg else upd sg k (nsB X (lb k) (gcN X))), ia cy (w 2) 21 lb] ++ (aS cy b P1 F1 N1 B1 O1 Sd1 Dv1 L1 rc1 re1 fr1 lo1 sm1 ++ (pS cy x X))) := congrArg (fun z9 => [tO cy w b x wc lw gw ss sl sc (if nsB X (lb k) (gcN X) = -1 then nI k else nI (k + 1)), ia cy (w 1) 20 z9, ia cy (w 2) 21 lb] ++ (aS cy b P1 F1 N1 B1 O1 Sd1 Dv1 L1 rc1 re1 fr1 lo1 sm1 ++ (pS cy x X))) (show sg = (if nsB X (lb k) (gcN X) = -1 then sg else upd sg k (nsB X (lb k) (gcN X))) from (if_pos hnb).symm)
      replace hP1 := (congrArg (fun z9 => va_P D vwCl z9 _) hq9).mp hP1
      replace hD1 := (congrArg (fun z9 => va_D _ z9) hq9).mp hD1
      clear hq9
      have hq9 : ([tO cy w b x wc lw gw ss sl sc (if nsB X (lb k) (gcN X) = -1 then nI k else nI (k + 1)), ia cy (w 1) 20 (if nsB X (lb k) (gcN X) = -1 then sg else upd sg k (nsB X (lb k) (gcN X))), ia cy (w 2) 21 lb] ++ (aS cy b P1 F1 N1 B1 O1 Sd1 Dv1 L1 rc1 re1 fr1 lo1 sm1 ++ (pS cy x X))) = ([tO cy w b x wc lw gw ss sl sc (if nsB X (lb k) (gcN X) = -1 then nI k else nI (k + 1)), ia cy (w 1) 20 (if nsB X (lb k) (gcN X) = -1 then sg else upd sg k (nsB X (lb k) (gcN X))), ia cy (w 2) 21 (if nsB X (lb k) (gcN X) = -1 then lb else upd lb (k + 1) (nsL X (lb k) (gcN X)))] ++ (aS cy b P1 F1 N1 B1 O1 Sd1 Dv1 L1 rc1 re1 fr1 lo1 sm1 ++ (pS cy x X))) := congrArg (fun z9 => [tO cy w b x wc lw gw ss sl sc (if nsB X (lb k) (gcN X) = -1 then nI k else nI (k + 1)), ia cy (w 1) 20 (if nsB X (lb k) (gcN X) = -1 then sg else upd sg k (nsB X (lb k) (gcN X))), ia cy (w 2) 21 z9] ++ (aS cy b P1 F1 N1 B1 O1 Sd1 Dv1 L1 rc1 re1 fr1 lo1 sm1 ++ (pS cy x X))) (show lb = (if nsB X (lb k) (gcN X) = -1 then lb else upd lb (k + 1) (nsL X (lb k) (gcN X))) from (if_pos hnb).symm)
      replace hP1 := (congrArg (fun z9 => va_P D vwCl z9 _) hq9).mp hP1
      replace hD1 := (congrArg (fun z9 => va_D _ z9) hq9).mp hD1
      clear hq9
      have hq9 : ([tO cy w b x wc lw gw ss sl sc (if nsB X (lb k) (gcN X) = -1 then nI k else nI (k + 1)), ia cy (w 1) 20 (if nsB X (lb k) (gcN X) = -1 then sg else upd sg k (nsB X (lb k) (gcN X))), ia cy (w 2) 21 (if nsB X (lb k) (gcN X) = -1 then lb else upd lb (k + 1) (nsL X (lb k) (gcN X)))] ++ (aS cy b P1 F1 N1 B1 O1 Sd1 Dv1 L1 rc1 re1 fr1 lo1 sm1 ++ (pS cy x X))) = ([tO cy w b x wc lw gw ss sl sc (if nsB X (lb k) (gcN X) = -1 then nI k else nI (k + 1)), ia cy (w 1) 20 (if nsB X (lb k) (gcN X) = -1 then sg else upd sg k (nsB X (lb k) (gcN X))), ia cy (w 2) 21 (if nsB X (lb k) (gcN X) = -1 then lb else upd lb (k + 1) (nsL X (lb k) (gcN X)))] ++ (aS cy b P1 F1 N1 B1 O1 Sd1 Dv1 L1 rc1 re1 fr1 lo1 sm1 ++ (pS cy x (if nsB X (lb k) (gcN X) = -1 then X else upd X (16 + 8 * bstN (nsB X (lb k) (gcN X))) 1)))) := congrArg (fun z9 => [tO cy w b x wc lw gw ss sl sc (if nsB X (lb k) (gcN X) = -1 then nI k else nI (k + 1)), ia cy (w 1) 20 (if nsB X (lb k) (gcN X) = -1 then sg else upd sg k (nsB X (lb k) (gcN X))), ia cy (w 2) 21 (if nsB X (lb k) (gcN X) = -1 then lb else upd lb (k + 1) (nsL X (lb k) (gcN X)))] ++ (aS cy b P1 F1 N1 B1 O1 Sd1 Dv1 L1 rc1 re1 fr1 lo1 sm1 ++ (pS cy x z9))) (show X = (if nsB X (lb k) (gcN X) = -1 then X else upd X (16 + 8 * bstN (nsB X (lb k) (gcN X))) 1) from (if_pos hnb).symm)
      replace hP1 := (congrArg (fun z9 => va_P D vwCl z9 _) hq9).mp hP1
      replace hD1 := (congrArg (fun z9 => va_D _ z9) hq9).mp hD1
      clear hq9
      refine lv_iconst (v := 0) hx hb dX5_takeStep_120 (by decide) ?_
      refine re_z (P1, F1, N1, B1, O1, Sd1, Dv1, L1, rc1, re1, fr1, lo1, sm1) hx hb hr hlocks hP1 hD1 hS1 dX5_takeStep_121 rfl ?_
      exact ((b2i_f (fun q9 => q9 hnb)).symm)
    · have hnb : ¬ nsB X (lb k) (gcN X) = -1 := fun q9 => c_108 ((nsB_neg hg20).mpr q9)
      have hnn := nsB_nat hg20 hnb
      refine lv_aload_n hx hb dX5_takeStep_111 rfl (lv_at hl4 3 rfl) ?_
      refine va_get (D := D) (ci := 5) (v := .int (nI k)) (C := RX5) (T := TX5) (N := 11) hx hb hw iX5 hown hK hP1 0 rfl rfl 7 (by decide) (hw _ kw_1_177) (fun _ h9 => h9) rfl dX5_takeStep_112 ?_
      refine lv_bipush (v := 20) hx hb dX5_takeStep_115 (by decide) ?_
      refine ln_lt (tgt := 122) k 20 rfl rfl (by omega) (by omega) hx hb dX5_takeStep_117 (by decide) (fun c_117 => ?_) (fun c_117 => absurd hk (by omega))
      refine lv_aload_n hx hb dX5_takeStep_122 rfl (lv_at hl4 3 rfl) ?_
      refine va_get (D := D) (ci := 5) (v := .ref (x 0)) (C := RX5) (T := TX5) (N := 11) hx hb hw iX5 hown hK hP1 0 rfl rfl 10 (by decide) (hw _ kw_1_183) (fun _ h9 => h9) rfl dX5_takeStep_123 ?_
      refine va_get (D := D) (ci := 1) (v := .ref (x 8)) (C := RX1) (T := TX1) (N := 12) hx hb hw iX1 hown hK hP1 18 rfl rfl 9 (by decide) (hw _ kw_1_58) (fun _ h9 => h9) rfl dX5_takeStep_126 ?_
      refine lv_iload_n hx hb dX5_takeStep_129 rfl (lv_at hl4 2 rfl) ?_
      refine lv_iconst (v := 1) hx hb dX5_takeStep_130 (by decide) ?_
      refine ast_z (f := fun g => X (16 + 8 * g)) (ws' := [tO cy w b x wc lw gw ss sl sc (nI k), ia cy (w 1) 20 sg, ia cy (w 2) 21 lb] ++ (aS cy b P1 F1 N1 B1 O1 Sd1 Dv1 L1 rc1 re1 fr1 lo1 sm1 ++ (pS cy x (upd X (16 + 8 * (bstN (nsB X (lb k) (gcN X)))) 1)))) hx hb hK hP1 hD1 hS1 26 2 rfl rfl (bstN (nsB X (lb k) (gcN X))) hnn.1 (by omega) (by decide) (Or.inr rfl) (congrArg (fun z => [tO cy w b x wc lw gw ss sl sc (nI k), ia cy (w 1) 20 sg, ia cy (w 2) 21 lb] ++ (aS cy b P1 F1 N1 B1 O1 Sd1 Dv1 L1 rc1 re1 fr1 lo1 sm1 ++ (z))) (pS_a7 cy x X (bstN (nsB X (lb k) (gcN X))) 1)) dX5_takeStep_131 (fun H2 locs2 hP2 hD2 hS2 => ?_)
      clear hP1 hD1 hS1 locs1 H1
      refine lv_aload_n hx hb dX5_takeStep_132 rfl (lv_at hl4 3 rfl) ?_
      refine va_get (D := D) (ci := 5) (v := .ref (w 1)) (C := RX5) (T := TX5) (N := 11) hx hb hw iX5 hown hK hP2 0 rfl rfl 8 (by decide) (hw _ kw_1_179) (fun _ h9 => h9) rfl dX5_takeStep_133 ?_
      refine lv_aload_n hx hb dX5_takeStep_136 rfl (lv_at hl4 3 rfl) ?_
      refine va_get (D := D) (ci := 5) (v := .int (nI k)) (C := RX5) (T := TX5) (N := 11) hx hb hw iX5 hown hK hP2 0 rfl rfl 7 (by decide) (hw _ kw_1_177) (fun _ h9 => h9) rfl dX5_takeStep_137 ?_
      refine lv_iload_n hx hb dX5_takeStep_140 rfl (lv_at hl4 2 rfl) ?_
      refine ast_i (f := sg) (ws' := [tO cy w b x wc lw gw ss sl sc (nI k), ia cy (w 1) 20 (upd sg k (nsB X (lb k) (gcN X))), ia cy (w 2) 21 lb] ++ (aS cy b P1 F1 N1 B1 O1 Sd1 Dv1 L1 rc1 re1 fr1 lo1 sm1 ++ (pS cy x (upd X (16 + 8 * (bstN (nsB X (lb k) (gcN X)))) 1)))) hx hb hK hP2 hD2 hS2 1 0 rfl rfl k rfl (by first | omega | assumption) (by decide) rfl dX5_takeStep_141 (fun H3 locs3 hP3 hD3 hS3 => ?_)
      clear hP2 hD2 hS2 locs2 H2
      refine lv_aload_n hx hb dX5_takeStep_142 rfl (lv_at hl4 3 rfl) ?_
      refine lv_dup hx hb dX5_takeStep_143 rfl ?_
      refine va_get (D := D) (ci := 5) (v := .int (nI k)) (C := RX5) (T := TX5) (N := 11) hx hb hw iX5 hown hK hP3 0 rfl rfl 7 (by decide) (hw _ kw_1_177) (fun _ h9 => h9) rfl dX5_takeStep_144 ?_
      refine lv_iconst (v := 1) hx hb dX5_takeStep_147 (by decide) ?_
      refine lv_iadd hx hb dX5_takeStep_148 ?_
      refine tp (show ((nI k) + 1) = nI (k + 1) from nI_add _ _) ?_
      refine pt (D := D) (ci := 5) (v := .int (nI (k + 1))) (ty := .int) (C := RX5) (T := TX5) (N := 11) (ws' := [tO cy w b x wc lw gw ss sl sc (nI (k + 1)), ia cy (w 1) 20 (upd sg k (nsB X (lb k) (gcN X))), ia cy (w 2) 21 lb] ++ (aS cy b P1 F1 N1 B1 O1 Sd1 Dv1 L1 rc1 re1 fr1 lo1 sm1 ++ (pS cy x (upd X (16 + 8 * (bstN (nsB X (lb k) (gcN X)))) 1)))) hx hb hw iX5 tyX5 tyX5_ok nmX5 hown hK hP3 hD3 hS3 0 rfl rfl 7 (by decide) kw_1_177 (fun _ h9 => h9) rfl (by decide +kernel) rfl rfl (Nat.le_of_ble_eq_true rfl) rfl dX5_takeStep_149 (fun H4 locs4 hP4 hD4 hS4 => ?_)
      clear hP3 hD3 hS3 locs3 H3
      refine lv_aload_n hx hb dX5_takeStep_152 rfl (lv_at hl4 3 rfl) ?_
      refine va_get (D := D) (ci := 5) (v := .ref (w 2)) (C := RX5) (T := TX5) (N := 11) hx hb hw iX5 hown hK hP4 0 rfl rfl 9 (by decide) (hw _ kw_1_181) (fun _ h9 => h9) rfl dX5_takeStep_153 ?_
      refine lv_aload_n hx hb dX5_takeStep_156 rfl (lv_at hl4 3 rfl) ?_
      refine va_get (D := D) (ci := 5) (v := .int (nI (k + 1))) (C := RX5) (T := TX5) (N := 11) hx hb hw iX5 hown hK hP4 0 rfl rfl 7 (by decide) (hw _ kw_1_177) (fun _ h9 => h9) rfl dX5_takeStep_157 ?_
      refine lv_iload_n hx hb dX5_takeStep_160 rfl (lv_at hl4 1 rfl) ?_
      refine ast_i (f := lb) (ws' := [tO cy w b x wc lw gw ss sl sc (nI (k + 1)), ia cy (w 1) 20 (upd sg k (nsB X (lb k) (gcN X))), ia cy (w 2) 21 (upd lb (k + 1) (nsL X (lb k) (gcN X)))] ++ (aS cy b P1 F1 N1 B1 O1 Sd1 Dv1 L1 rc1 re1 fr1 lo1 sm1 ++ (pS cy x (upd X (16 + 8 * (bstN (nsB X (lb k) (gcN X)))) 1)))) hx hb hK hP4 hD4 hS4 2 0 rfl rfl (k + 1) rfl (by first | omega | assumption) (by decide) rfl dX5_takeStep_161 (fun H5 locs5 hP5 hD5 hS5 => ?_)
      clear hP4 hD4 hS4 locs4 H4
      refine lv_iconst (v := 1) hx hb dX5_takeStep_162 (by decide) ?_
      have hq9 : ([tO cy w b x wc lw gw ss sl sc (nI (k + 1)), ia cy (w 1) 20 (upd sg k (nsB X (lb k) (gcN X))), ia cy (w 2) 21 (upd lb (k + 1) (nsL X (lb k) (gcN X)))] ++ (aS cy b P1 F1 N1 B1 O1 Sd1 Dv1 L1 rc1 re1 fr1 lo1 sm1 ++ (pS cy x (upd X (16 + 8 * (bstN (nsB X (lb k) (gcN X)))) 1)))) = ([tO cy w b x wc lw gw ss sl sc (if nsB X (lb k) (gcN X) = -1 then nI k else nI (k + 1)), ia cy (w 1) 20 (upd sg k (nsB X (lb k) (gcN X))), ia cy (w 2) 21 (upd lb (k + 1) (nsL X (lb k) (gcN X)))] ++ (aS cy b P1 F1 N1 B1 O1 Sd1 Dv1 L1 rc1 re1 fr1 lo1 sm1 ++ (pS cy x (upd X (16 + 8 * (bstN (nsB X (lb k) (gcN X)))) 1)))) := congrArg (fun z9 => [tO cy w b x wc lw gw ss sl sc z9, ia cy (w 1) 20 (upd sg k (nsB X (lb k) (gcN X))), ia cy (w 2) 21 (upd lb (k + 1) (nsL X (lb k) (gcN X)))] ++ (aS cy b P1 F1 N1 B1 O1 Sd1 Dv1 L1 rc1 re1 fr1 lo1 sm1 ++ (pS cy x (upd X (16 + 8 * (bstN (nsB X (lb k) (gcN X)))) 1)))) (show (nI (k + 1)) = (if nsB X (lb k) (gcN X) = -1 then nI k else nI (k + 1)) from (if_neg hnb).symm)
      replace hP5 := (congrArg (fun z9 => va_P D vwCl z9 _) hq9).mp hP5
      replace hD5 := (congrArg (fun z9 => va_D _ z9) hq9).mp hD5
      clear hq9
      have hq9 : ([tO cy w b x wc lw gw ss sl sc (if nsB X (lb k) (gcN X) = -1 then nI k else nI (k + 1)), ia cy (w 1) 20 (upd sg k (nsB X (lb k) (gcN X))), ia cy (w 2) 21 (upd lb (k + 1) (nsL X (lb k) (gcN X)))] ++ (aS cy b P1 F1 N1 B1 O1 Sd1 Dv1 L1 rc1 re1 fr1 lo1 sm1 ++ (pS cy x (upd X (16 + 8 * (bstN (nsB X (lb k) (gcN X)))) 1)))) = ([tO cy w b x wc lw gw ss sl sc (if nsB X (lb k) (gcN X) = -1 then nI k else nI (k + 1)), ia cy (w 1) 20 (if nsB X (lb k) (gcN X) = -1 then sg else upd sg k (nsB X (lb k) (gcN X))), ia cy (w 2) 21 (upd lb (k + 1) (nsL X (lb k) (gcN X)))] ++ (aS cy b P1 F1 N1 B1 O1 Sd1 Dv1 L1 rc1 re1 fr1 lo1 sm1 ++ (pS cy x (upd X (16 + 8 * (bstN (nsB X (lb k) (gcN X)))) 1)))) := congrArg (fun z9 => [tO cy w b x wc lw gw ss sl sc (if nsB X (lb k) (gcN X) = -1 then nI k else nI (k + 1)), ia cy (w 1) 20 z9, ia cy (w 2) 21 (upd lb (k + 1) (nsL X (lb k) (gcN X)))] ++ (aS cy b P1 F1 N1 B1 O1 Sd1 Dv1 L1 rc1 re1 fr1 lo1 sm1 ++ (pS cy x (upd X (16 + 8 * (bstN (nsB X (lb k) (gcN X)))) 1)))) (show (upd sg k (nsB X (lb k) (gcN X))) = (if nsB X (lb k) (gcN X) = -1 then sg else upd sg k (nsB X (lb k) (gcN X))) from (if_neg hnb).symm)
      replace hP5 := (congrArg (fun z9 => va_P D vwCl z9 _) hq9).mp hP5
      replace hD5 := (congrArg (fun z9 => va_D _ z9) hq9).mp hD5
      clear hq9
      have hq9 : ([tO cy w b x wc lw gw ss sl sc (if nsB X (lb k) (gcN X) = -1 then nI k else nI (k + 1)), ia cy (w 1) 20 (if nsB X (lb k) (gcN X) = -1 then sg else upd sg k (nsB X (lb k) (gcN X))), ia cy (w 2) 21 (upd lb (k + 1) (nsL X (lb k) (gcN X)))] ++ (aS cy b P1 F1 N1 B1 O1 Sd1 Dv1 L1 rc1 re1 fr1 lo1 sm1 ++ (pS cy x (upd X (16 + 8 * (bstN (nsB X (lb k) (gcN X)))) 1)))) = ([tO cy w b x wc lw gw ss sl sc (if nsB X (lb k) (gcN X) = -1 then nI k else nI (k + 1)), ia cy (w 1) 20 (if nsB X (lb k) (gcN X) = -1 then sg else upd sg k (nsB X (lb k) (gcN X))), ia cy (w 2) 21 (if nsB X (lb k) (gcN X) = -1 then lb else upd lb (k + 1) (nsL X (lb k) (gcN X)))] ++ (aS cy b P1 F1 N1 B1 O1 Sd1 Dv1 L1 rc1 re1 fr1 lo1 sm1 ++ (pS cy x (upd X (16 + 8 * (bstN (nsB X (lb k) (gcN X)))) 1)))) := congrArg (fun z9 => [tO cy w b x wc lw gw ss sl sc (if nsB X (lb k) (gcN X) = -1 then nI k else nI (k + 1)), ia cy (w 1) 20 (if nsB X (lb k) (gcN X) = -1 then sg else upd sg k (nsB X (lb k) (gcN X))), ia cy (w 2) 21 z9] ++ (aS cy b P1 F1 N1 B1 O1 Sd1 Dv1 L1 rc1 re1 fr1 lo1 sm1 ++ (pS cy x (upd X (16 + 8 * (bstN (nsB X (lb k) (gcN X)))) 1)))) (show (upd lb (k + 1) (nsL X (lb k) (gcN X))) = (if nsB X (lb k) (gcN X) = -1 then lb else upd lb (k + 1) (nsL X (lb k) (gcN X))) from (if_neg hnb).symm)
      replace hP5 := (congrArg (fun z9 => va_P D vwCl z9 _) hq9).mp hP5
      replace hD5 := (congrArg (fun z9 => va_D _ z9) hq9).mp hD5
      clear hq9
      have hq9 : ([tO cy w b x wc lw gw ss sl sc (if nsB X (lb k) (gcN X) = -1 then nI k else nI (k + 1)), ia cy (w 1) 20 (if nsB X (lb k) (gcN X) = -1 then sg else upd sg k (nsB X (lb k) (gcN X))), ia cy (w 2) 21 (if nsB X (lb k) (gcN X) = -1 then lb else upd lb (k + 1) (nsL X (lb k) (gcN X)))] ++ (aS cy b P1 F1 N1 B1 O1 Sd1 Dv1 L1 rc1 re1 fr1 lo1 sm1 ++ (pS cy x (upd X (16 + 8 * (bstN (nsB X (lb k) (gcN X)))) 1)))) = ([tO cy w b x wc lw gw ss sl sc (if nsB X (lb k) (gcN X) = -1 then nI k else nI (k + 1)), ia cy (w 1) 20 (if nsB X (lb k) (gcN X) = -1 then sg else upd sg k (nsB X (lb k) (gcN X))), ia cy (w 2) 21 (if nsB X (lb k) (gcN X) = -1 then lb else upd lb (k + 1) (nsL X (lb k) (gcN X)))] ++ (aS cy b P1 F1 N1 B1 O1 Sd1 Dv1 L1 rc1 re1 fr1 lo1 sm1 ++ (pS cy x (if nsB X (lb k) (gcN X) = -1 then X else upd X (16 + 8 * bstN (nsB X (lb k) (gcN X))) 1)))) := congrArg (fun z9 => [tO cy w b x wc lw gw ss sl sc (if nsB X (lb k) (gcN X) = -1 then nI k else nI (k + 1)), ia cy (w 1) 20 (if nsB X (lb k) (gcN X) = -1 then sg else upd sg k (nsB X (lb k) (gcN X))), ia cy (w 2) 21 (if nsB X (lb k) (gcN X) = -1 then lb else upd lb (k + 1) (nsL X (lb k) (gcN X)))] ++ (aS cy b P1 F1 N1 B1 O1 Sd1 Dv1 L1 rc1 re1 fr1 lo1 sm1 ++ (pS cy x z9))) (show (upd X (16 + 8 * (bstN (nsB X (lb k) (gcN X)))) 1) = (if nsB X (lb k) (gcN X) = -1 then X else upd X (16 + 8 * bstN (nsB X (lb k) (gcN X))) 1) from (if_neg hnb).symm)
      replace hP5 := (congrArg (fun z9 => va_P D vwCl z9 _) hq9).mp hP5
      replace hD5 := (congrArg (fun z9 => va_D _ z9) hq9).mp hD5
      clear hq9
      refine re_z (P1, F1, N1, B1, O1, Sd1, Dv1, L1, rc1, re1, fr1, lo1, sm1) hx hb hr hlocks hP5 hD5 hS5 dX5_takeStep_163 rfl ?_
      exact ((b2i_t hnb).symm)
  · refine lv_aload_n hx hb dX5_takeStep_25 rfl (lv_at hl4 3 rfl) ?_
    refine va_get (D := D) (ci := 5) (v := .ref (x 0)) (C := RX5) (T := TX5) (N := 11) hx hb hw iX5 hown hK hP1 0 rfl rfl 10 (by decide) (hw _ kw_1_183) (fun _ h9 => h9) rfl dX5_takeStep_26 ?_
    refine lv_iload_n hx hb dX5_takeStep_29 rfl (lv_at hl4 0 rfl) ?_
    refine rV_i (wc := pS cy x X) (rest := []) hx hb hml hown hw hG hK hP1 hS1 hA hl4 kc_X1_isOpenLeak kw_3_199 [.int (nI i)] (c_X1_isOpenLeak l D cy G H1.size x X i (by first | omega | assumption)) [18, 19, 20, 21, 22, 23, 24, 25, 26, 27] rfl 0 rfl rfl rfl rfl rfl (Nat.le_of_ble_eq_true rfl) ⟨Nat.le_of_ble_eq_true rfl, Nat.le_of_ble_eq_true rfl⟩ dX5_takeStep_30 ⟨Nat.le_of_ble_eq_true rfl, Nat.le_of_ble_eq_true rfl⟩ (fun r_30 H2 locs2 hr_30 hP2 hS2 => ?_)
    have hD2 := hD1
    clear hP1 hD1 hS1 locs1 H1
    subst hr_30
    refine lb_ne (tgt := 39) hx hb dX5_takeStep_33 (by decide) (fun c_33 => ?_) (fun c_33 => ?_)
    · refine lv_aload_n hx hb dX5_takeStep_39 rfl (lv_at hl4 3 rfl) ?_
      refine va_get (D := D) (ci := 5) (v := .ref (x 0)) (C := RX5) (T := TX5) (N := 11) hx hb hw iX5 hown hK hP2 0 rfl rfl 10 (by decide) (hw _ kw_1_183) (fun _ h9 => h9) rfl dX5_takeStep_40 ?_
      refine va_get (D := D) (ci := 1) (v := .ref (x 8)) (C := RX1) (T := TX1) (N := 12) hx hb hw iX1 hown hK hP2 18 rfl rfl 9 (by decide) (hw _ kw_1_58) (fun _ h9 => h9) rfl dX5_takeStep_43 ?_
      refine lv_iload_n hx hb dX5_takeStep_46 rfl (lv_at hl4 0 rfl) ?_
      refine lv_iconst (v := 1) hx hb dX5_takeStep_47 (by decide) ?_
      refine ast_z (f := fun g => X (16 + 8 * g)) (ws' := [tO cy w b x wc lw gw ss sl sc (nI k), ia cy (w 1) 20 sg, ia cy (w 2) 21 lb] ++ (aS cy b P1 F1 N1 B1 O1 Sd1 Dv1 L1 rc1 re1 fr1 lo1 sm1 ++ (pS cy x (upd X (16 + 8 * i) 1)))) hx hb hK hP2 hD2 hS2 26 2 rfl rfl i rfl (by first | omega | assumption) (by decide) (Or.inr rfl) (congrArg (fun z => [tO cy w b x wc lw gw ss sl sc (nI k), ia cy (w 1) 20 sg, ia cy (w 2) 21 lb] ++ (aS cy b P1 F1 N1 B1 O1 Sd1 Dv1 L1 rc1 re1 fr1 lo1 sm1 ++ (z))) (pS_a7 cy x X i 1)) dX5_takeStep_48 (fun H3 locs3 hP3 hD3 hS3 => ?_)
      clear hP2 hD2 hS2 locs2 H2
      refine lv_aload_n hx hb dX5_takeStep_49 rfl (lv_at hl4 3 rfl) ?_
      refine va_get (D := D) (ci := 5) (v := .ref (b 0)) (C := RX5) (T := TX5) (N := 11) hx hb hw iX5 hown hK hP3 0 rfl rfl 0 (by decide) (hw _ kw_1_163) (fun _ h9 => h9) rfl dX5_takeStep_50 ?_
      refine lv_aload_n hx hb dX5_takeStep_53 rfl (lv_at hl4 3 rfl) ?_
      refine va_get (D := D) (ci := 5) (v := .ref (x 0)) (C := RX5) (T := TX5) (N := 11) hx hb hw iX5 hown hK hP3 0 rfl rfl 10 (by decide) (hw _ kw_1_183) (fun _ h9 => h9) rfl dX5_takeStep_54 ?_
      refine cV_v (wc := aS cy b P1 F1 N1 B1 O1 Sd1 Dv1 L1 rc1 re1 fr1 lo1 sm1 ++ (pS cy x (upd X (16 + 8 * i) 1))) (wr := [tO cy w b x wc lw gw ss sl sc (nI k), ia cy (w 1) 20 sg, ia cy (w 2) 21 lb]) (rest := []) hx hb hml hown hw hG hK hP3 hD3 hS3 hA hl4 kc_X0_settle kw_3_145 [.ref (x 0)] (c_X0_settle l D cy G H3.size b P1 F1 N1 B1 O1 Sd1 Dv1 L1 rc1 re1 fr1 lo1 sm1 x (upd X (16 + 8 * i) 1) ((wf_sh wf (j := i) (by omega) (Or.inr rfl)).1)) [3, 4, 5, 6, 7, 8, 9, 10, 11, 12, 13, 14, 15, 16, 17, 18, 19, 20, 21, 22, 23, 24, 25, 26, 27] [0, 1, 2] rfl rfl rfl rfl rfl 0 rfl rfl rfl rfl rfl (Nat.le_of_ble_eq_true rfl) ⟨Nat.le_of_ble_eq_true rfl, Nat.le_of_ble_eq_true rfl⟩ dX5_takeStep_57 ⟨Nat.le_of_ble_eq_true rfl, Nat.le_of_ble_eq_true rfl⟩ (fun u9 H4 locs4 hu9 hP4 hD4 hS4 => ?_)
      clear hP3 hD3 hS3 locs3 H3
      obtain ⟨F1_57, N1_57, B1_57, O1_57, Sd1_57, Dv1_57, L1_57⟩ := u9
      have hF_57 := hu9
      replace hF_57 : ∀ g, g < gcN (upd X (16 + 8 * i) 1) → F1_57 g = flow (upd X (16 + 8 * i) 1) (PR (upd X (16 + 8 * i) 1)) g := hF_57
      replace hP4 : va_P D vwCl ([tO cy w b x wc lw gw ss sl sc (nI k), ia cy (w 1) 20 sg, ia cy (w 2) 21 lb] ++ (aS cy b (PR (upd X (16 + 8 * i) 1)) F1_57 N1_57 B1_57 O1_57 Sd1_57 Dv1_57 L1_57 (nI (RC (upd X (16 + 8 * i) 1))) (b2i (RC (upd X (16 + 8 * i) 1) = 60)) (fresh (upd X (16 + 8 * i) 1)) (lost (upd X (16 + 8 * i) 1)) (b2i (smokes (upd X (16 + 8 * i) 1) = true)) ++ (pS cy x (upd X (16 + 8 * i) 1)))) H4 := hP4
      replace hD4 : va_D (va_A _ sz) ([tO cy w b x wc lw gw ss sl sc (nI k), ia cy (w 1) 20 sg, ia cy (w 2) 21 lb] ++ (aS cy b (PR (upd X (16 + 8 * i) 1)) F1_57 N1_57 B1_57 O1_57 Sd1_57 Dv1_57 L1_57 (nI (RC (upd X (16 + 8 * i) 1))) (b2i (RC (upd X (16 + 8 * i) 1) = 60)) (fresh (upd X (16 + 8 * i) 1)) (lost (upd X (16 + 8 * i) 1)) (b2i (smokes (upd X (16 + 8 * i) 1) = true)) ++ (pS cy x (upd X (16 + 8 * i) 1)))) := hD4
      refine lv_aload_n hx hb dX5_takeStep_60 rfl (lv_at hl4 3 rfl) ?_
      refine va_get (D := D) (ci := 5) (v := .ref (x 0)) (C := RX5) (T := TX5) (N := 11) hx hb hw iX5 hown hK hP4 0 rfl rfl 10 (by decide) (hw _ kw_1_183) (fun _ h9 => h9) rfl dX5_takeStep_61 ?_
      refine va_get (D := D) (ci := 1) (v := .ref (x 8)) (C := RX1) (T := TX1) (N := 12) hx hb hw iX1 hown hK hP4 18 rfl rfl 9 (by decide) (hw _ kw_1_58) (fun _ h9 => h9) rfl dX5_takeStep_64 ?_
      refine lv_iload_n hx hb dX5_takeStep_67 rfl (lv_at hl4 0 rfl) ?_
      refine lv_iconst (v := 0) hx hb dX5_takeStep_68 (by decide) ?_
      refine ast_z (f := fun g => (upd X (16 + 8 * i) 1) (16 + 8 * g)) (ws' := [tO cy w b x wc lw gw ss sl sc (nI k), ia cy (w 1) 20 sg, ia cy (w 2) 21 lb] ++ (aS cy b (PR (upd X (16 + 8 * i) 1)) F1_57 N1_57 B1_57 O1_57 Sd1_57 Dv1_57 L1_57 (nI (RC (upd X (16 + 8 * i) 1))) (b2i (RC (upd X (16 + 8 * i) 1) = 60)) (fresh (upd X (16 + 8 * i) 1)) (lost (upd X (16 + 8 * i) 1)) (b2i (smokes (upd X (16 + 8 * i) 1) = true)) ++ (pS cy x (upd (upd X (16 + 8 * i) 1) (16 + 8 * i) 0)))) hx hb hK hP4 hD4 hS4 26 2 rfl rfl i rfl (by first | omega | assumption) (by decide) (Or.inl rfl) (congrArg (fun z => [tO cy w b x wc lw gw ss sl sc (nI k), ia cy (w 1) 20 sg, ia cy (w 2) 21 lb] ++ (aS cy b (PR (upd X (16 + 8 * i) 1)) F1_57 N1_57 B1_57 O1_57 Sd1_57 Dv1_57 L1_57 (nI (RC (upd X (16 + 8 * i) 1))) (b2i (RC (upd X (16 + 8 * i) 1) = 60)) (fresh (upd X (16 + 8 * i) 1)) (lost (upd X (16 + 8 * i) 1)) (b2i (smokes (upd X (16 + 8 * i) 1) = true)) ++ (z))) (pS_a7 cy x (upd X (16 + 8 * i) 1) i 0)) dX5_takeStep_69 (fun H5 locs5 hP5 hD5 hS5 => ?_)
      clear hP4 hD4 hS4 locs4 H4
      have hq9 : ([tO cy w b x wc lw gw ss sl sc (nI k), ia cy (w 1) 20 sg, ia cy (w 2) 21 lb] ++ (aS cy b (PR (upd X (16 + 8 * i) 1)) F1_57 N1_57 B1_57 O1_57 Sd1_57 Dv1_57 L1_57 (nI (RC (upd X (16 + 8 * i) 1))) (b2i (RC (upd X (16 + 8 * i) 1) = 60)) (fresh (upd X (16 + 8 * i) 1)) (lost (upd X (16 + 8 * i) 1)) (b2i (smokes (upd X (16 + 8 * i) 1) = true)) ++ (pS cy x (upd (upd X (16 + 8 * i) 1) (16 + 8 * i) 0)))) = ([tO cy w b x wc lw gw ss sl sc (nI k), ia cy (w 1) 20 sg, ia cy (w 2) 21 lb] ++ (aS cy b (PR (upd X (16 + 8 * i) 1)) F1_57 N1_57 B1_57 O1_57 Sd1_57 Dv1_57 L1_57 (nI (RC (upd X (16 + 8 * i) 1))) (b2i (RC (upd X (16 + 8 * i) 1) = 60)) (fresh (upd X (16 + 8 * i) 1)) (lost (upd X (16 + 8 * i) 1)) (b2i (smokes (upd X (16 + 8 * i) 1) = true)) ++ (pS cy x X))) := congrArg (fun z9 => [tO cy w b x wc lw gw ss sl sc (nI k), ia cy (w 1) 20 sg, ia cy (w 2) 21 lb] ++ (aS cy b (PR (upd X (16 + 8 * i) 1)) F1_57 N1_57 B1_57 O1_57 Sd1_57 Dv1_57 L1_57 (nI (RC (upd X (16 + 8 * i) 1))) (b2i (RC (upd X (16 + 8 * i) 1) = 60)) (fresh (upd X (16 + 8 * i) 1)) (lost (upd X (16 + 8 * i) 1)) (b2i (smokes (upd X (16 + 8 * i) 1) = true)) ++ (pS cy x z9))) (show (upd (upd X (16 + 8 * i) 1) (16 + 8 * i) 0) = X from sh_back c_33.2.1)
      replace hP5 := (congrArg (fun z9 => va_P D vwCl z9 _) hq9).mp hP5
      replace hD5 := (congrArg (fun z9 => va_D _ z9) hq9).mp hD5
      clear hq9
      refine lv_aload_n hx hb dX5_takeStep_70 rfl (lv_at hl4 3 rfl) ?_
      refine va_get (D := D) (ci := 5) (v := .ref (b 0)) (C := RX5) (T := TX5) (N := 11) hx hb hw iX5 hown hK hP5 0 rfl rfl 0 (by decide) (hw _ kw_1_163) (fun _ h9 => h9) rfl dX5_takeStep_71 ?_
      refine va_get (D := D) (ci := 0) (v := .int (lost (upd X (16 + 8 * i) 1))) (C := RX0) (T := TX0) (N := 13) hx hb hw iX0 hown hK hP5 3 rfl rfl 5 (by decide) (hw _ kw_1_115) (fun _ h9 => h9) rfl dX5_takeStep_74 ?_
      refine lv_iload_n hx hb dX5_takeStep_77 rfl (lv_at hl4 1 rfl) ?_
      refine lv_icmp_ge (tgt := 101) hx hb dX5_takeStep_78 (by decide) (fun c_78 => ?_) (fun c_78 => ?_)
      · have hq9 : nsB X (lb k) (i + 1) = nsB X (lb k) i := by clear hx hb hml hown hr hlocks hw hsz hA hG hK hP5 hD5 hS5 hl4 ih_14; grind [nsB]
        replace hl4 : lv_has ls4 4 [(3, .int (nI i)), (2, .int (nsL X (lb k) i)), (1, .int (nsB X (lb k) (i + 1))), (0, .ref (w 0))] := (congrArg (fun z9 => lv_has ls4 4 [(3, .int (nI i)), (2, .int (nsL X (lb k) i)), (1, .int z9), (0, .ref (w 0))]) hq9).mpr hl4
        clear hq9
        have hq9 : nsL X (lb k) (i + 1) = nsL X (lb k) i := by clear hx hb hml hown hr hlocks hw hsz hA hG hK hP5 hD5 hS5 hl4 ih_14; grind [nsL]
        replace hl4 : lv_has ls4 4 [(3, .int (nI i)), (2, .int (nsL X (lb k) (i + 1))), (1, .int (nsB X (lb k) (i + 1))), (0, .ref (w 0))] := (congrArg (fun z9 => lv_has ls4 4 [(3, .int (nI i)), (2, .int z9), (1, .int (nsB X (lb k) (i + 1))), (0, .ref (w 0))]) hq9).mpr hl4
        clear hq9
        refine lv_iinc (v := nI (i + 1)) (lv' := [(3, .int (nI (i + 1))), (2, .int (nsL X (lb k) (i + 1))), (1, .int (nsB X (lb k) (i + 1))), (0, .ref (w 0))]) hx hb dX5_takeStep_101 hl4 (k := 0) rfl (nI_inc _) (by decide) rfl (fun ls5 hl5 => ?_)
        clear hl4 ls4
        refine lv_goto (tgt := 14) hx hb dX5_takeStep_104 (by decide) ?_
        exact ih_14 (i + 1, PR (upd X (16 + 8 * i) 1), F1_57, N1_57, B1_57, O1_57, Sd1_57, Dv1_57, L1_57, nI (RC (upd X (16 + 8 * i) 1)), b2i (RC (upd X (16 + 8 * i) 1) = 60), fresh (upd X (16 + 8 * i) 1), lost (upd X (16 + 8 * i) 1), b2i (smokes (upd X (16 + 8 * i) 1) = true)) (by first | omega | assumption | rfl | simp_all) (by (try dsimp only); omega) H5 locs5 ls5 hP5 hD5 hS5 (lv_sub hl5 [0, 1, 2, 3] rfl)
      · refine lv_aload_n hx hb dX5_takeStep_81 rfl (lv_at hl4 3 rfl) ?_
        refine va_get (D := D) (ci := 5) (v := .ref (b 0)) (C := RX5) (T := TX5) (N := 11) hx hb hw iX5 hown hK hP5 0 rfl rfl 0 (by decide) (hw _ kw_1_163) (fun _ h9 => h9) rfl dX5_takeStep_82 ?_
        refine va_get (D := D) (ci := 0) (v := .int (b2i (smokes (upd X (16 + 8 * i) 1) = true))) (C := RX0) (T := TX0) (N := 13) hx hb hw iX0 hown hK hP5 3 rfl rfl 6 (by decide) (hw _ kw_1_118) (fun _ h9 => h9) rfl dX5_takeStep_85 ?_
        refine lb_ne (tgt := 101) hx hb dX5_takeStep_88 (by decide) (fun c_88 => ?_) (fun c_88 => ?_)
        · have hq9 : nsB X (lb k) (i + 1) = nsB X (lb k) i := by clear hx hb hml hown hr hlocks hw hsz hA hG hK hP5 hD5 hS5 hl4 ih_14; grind [nsB]
          replace hl4 : lv_has ls4 4 [(3, .int (nI i)), (2, .int (nsL X (lb k) i)), (1, .int (nsB X (lb k) (i + 1))), (0, .ref (w 0))] := (congrArg (fun z9 => lv_has ls4 4 [(3, .int (nI i)), (2, .int (nsL X (lb k) i)), (1, .int z9), (0, .ref (w 0))]) hq9).mpr hl4
          clear hq9
          have hq9 : nsL X (lb k) (i + 1) = nsL X (lb k) i := by clear hx hb hml hown hr hlocks hw hsz hA hG hK hP5 hD5 hS5 hl4 ih_14; grind [nsL]
          replace hl4 : lv_has ls4 4 [(3, .int (nI i)), (2, .int (nsL X (lb k) (i + 1))), (1, .int (nsB X (lb k) (i + 1))), (0, .ref (w 0))] := (congrArg (fun z9 => lv_has ls4 4 [(3, .int (nI i)), (2, .int z9), (1, .int (nsB X (lb k) (i + 1))), (0, .ref (w 0))]) hq9).mpr hl4
          clear hq9
          refine lv_iinc (v := nI (i + 1)) (lv' := [(3, .int (nI (i + 1))), (2, .int (nsL X (lb k) (i + 1))), (1, .int (nsB X (lb k) (i + 1))), (0, .ref (w 0))]) hx hb dX5_takeStep_101 hl4 (k := 0) rfl (nI_inc _) (by decide) rfl (fun ls5 hl5 => ?_)
          clear hl4 ls4
          refine lv_goto (tgt := 14) hx hb dX5_takeStep_104 (by decide) ?_
          exact ih_14 (i + 1, PR (upd X (16 + 8 * i) 1), F1_57, N1_57, B1_57, O1_57, Sd1_57, Dv1_57, L1_57, nI (RC (upd X (16 + 8 * i) 1)), b2i (RC (upd X (16 + 8 * i) 1) = 60), fresh (upd X (16 + 8 * i) 1), lost (upd X (16 + 8 * i) 1), b2i (smokes (upd X (16 + 8 * i) 1) = true)) (by first | omega | assumption | rfl | simp_all) (by (try dsimp only); omega) H5 locs5 ls5 hP5 hD5 hS5 (lv_sub hl5 [0, 1, 2, 3] rfl)
        · refine lv_iload_n hx hb dX5_takeStep_91 rfl (lv_at hl4 0 rfl) ?_
          refine lv_istore_n (lv' := [(1, .int (nI i)), (3, .int (nI i)), (2, .int (nsL X (lb k) i)), (0, .ref (w 0))]) hx hb dX5_takeStep_92 rfl hl4 (by decide) rfl (fun ls5 hl5 => ?_)
          clear hl4 ls4
          refine lv_aload_n hx hb dX5_takeStep_93 rfl (lv_at hl5 3 rfl) ?_
          refine va_get (D := D) (ci := 5) (v := .ref (b 0)) (C := RX5) (T := TX5) (N := 11) hx hb hw iX5 hown hK hP5 0 rfl rfl 0 (by decide) (hw _ kw_1_163) (fun _ h9 => h9) rfl dX5_takeStep_94 ?_
          refine va_get (D := D) (ci := 0) (v := .int (lost (upd X (16 + 8 * i) 1))) (C := RX0) (T := TX0) (N := 13) hx hb hw iX0 hown hK hP5 3 rfl rfl 5 (by decide) (hw _ kw_1_115) (fun _ h9 => h9) rfl dX5_takeStep_97 ?_
          refine lv_istore_n (lv' := [(2, .int (lost (upd X (16 + 8 * i) 1))), (1, .int (nI i)), (3, .int (nI i)), (0, .ref (w 0))]) hx hb dX5_takeStep_100 rfl hl5 (by decide) rfl (fun ls6 hl6 => ?_)
          clear hl5 ls5
          have hq9 : nsB X (lb k) (i + 1) = nI i := by clear hx hb hml hown hr hlocks hw hsz hA hG hK hP5 hD5 hS5 hl6 ih_14; grind [nsB]
          replace hl6 : lv_has ls6 4 [(2, .int (lost (upd X (16 + 8 * i) 1))), (1, .int (nsB X (lb k) (i + 1))), (3, .int (nI i)), (0, .ref (w 0))] := (congrArg (fun z9 => lv_has ls6 4 [(2, .int (lost (upd X (16 + 8 * i) 1))), (1, .int z9), (3, .int (nI i)), (0, .ref (w 0))]) hq9).mpr hl6
          clear hq9
          have hq9 : nsL X (lb k) (i + 1) = lost (upd X (16 + 8 * i) 1) := by clear hx hb hml hown hr hlocks hw hsz hA hG hK hP5 hD5 hS5 hl6 ih_14; grind [nsL]
          replace hl6 : lv_has ls6 4 [(2, .int (nsL X (lb k) (i + 1))), (1, .int (nsB X (lb k) (i + 1))), (3, .int (nI i)), (0, .ref (w 0))] := (congrArg (fun z9 => lv_has ls6 4 [(2, .int z9), (1, .int (nsB X (lb k) (i + 1))), (3, .int (nI i)), (0, .ref (w 0))]) hq9).mpr hl6
          clear hq9
          refine lv_iinc (v := nI (i + 1)) (lv' := [(3, .int (nI (i + 1))), (2, .int (nsL X (lb k) (i + 1))), (1, .int (nsB X (lb k) (i + 1))), (0, .ref (w 0))]) hx hb dX5_takeStep_101 hl6 (k := 2) rfl (nI_inc _) (by decide) rfl (fun ls7 hl7 => ?_)
          clear hl6 ls6
          refine lv_goto (tgt := 14) hx hb dX5_takeStep_104 (by decide) ?_
          exact ih_14 (i + 1, PR (upd X (16 + 8 * i) 1), F1_57, N1_57, B1_57, O1_57, Sd1_57, Dv1_57, L1_57, nI (RC (upd X (16 + 8 * i) 1)), b2i (RC (upd X (16 + 8 * i) 1) = 60), fresh (upd X (16 + 8 * i) 1), lost (upd X (16 + 8 * i) 1), b2i (smokes (upd X (16 + 8 * i) 1) = true)) (by first | omega | assumption | rfl | simp_all) (by (try dsimp only); omega) H5 locs5 ls7 hP5 hD5 hS5 (lv_sub hl7 [0, 1, 2, 3] rfl)
    · refine lv_goto (tgt := 101) hx hb dX5_takeStep_36 (by decide) ?_
      have hq9 : nsB X (lb k) (i + 1) = nsB X (lb k) i := by clear hx hb hml hown hr hlocks hw hsz hA hG hK hP2 hD2 hS2 hl4 ih_14; grind [nsB]
      replace hl4 : lv_has ls4 4 [(3, .int (nI i)), (2, .int (nsL X (lb k) i)), (1, .int (nsB X (lb k) (i + 1))), (0, .ref (w 0))] := (congrArg (fun z9 => lv_has ls4 4 [(3, .int (nI i)), (2, .int (nsL X (lb k) i)), (1, .int z9), (0, .ref (w 0))]) hq9).mpr hl4
      clear hq9
      have hq9 : nsL X (lb k) (i + 1) = nsL X (lb k) i := by clear hx hb hml hown hr hlocks hw hsz hA hG hK hP2 hD2 hS2 hl4 ih_14; grind [nsL]
      replace hl4 : lv_has ls4 4 [(3, .int (nI i)), (2, .int (nsL X (lb k) (i + 1))), (1, .int (nsB X (lb k) (i + 1))), (0, .ref (w 0))] := (congrArg (fun z9 => lv_has ls4 4 [(3, .int (nI i)), (2, .int z9), (1, .int (nsB X (lb k) (i + 1))), (0, .ref (w 0))]) hq9).mpr hl4
      clear hq9
      refine lv_iinc (v := nI (i + 1)) (lv' := [(3, .int (nI (i + 1))), (2, .int (nsL X (lb k) (i + 1))), (1, .int (nsB X (lb k) (i + 1))), (0, .ref (w 0))]) hx hb dX5_takeStep_101 hl4 (k := 0) rfl (nI_inc _) (by decide) rfl (fun ls5 hl5 => ?_)
      clear hl4 ls4
      refine lv_goto (tgt := 14) hx hb dX5_takeStep_104 (by decide) ?_
      exact ih_14 (i + 1, P1, F1, N1, B1, O1, Sd1, Dv1, L1, rc1, re1, fr1, lo1, sm1) (by first | omega | assumption | rfl | simp_all) (by (try dsimp only); omega) H2 locs2 ls5 hP2 hD2 hS2 (lv_sub hl5 [0, 1, 2, 3] rfl)

theorem kc_X5_findOrder : kV yX5_findOrder cX5_findOrder 4 none 1 := ⟨kw_3_192, kw_3_193, kw_1_4, kw_3_194, by decide, by decide, by decide +kernel⟩
set_option maxHeartbeats 4000000 in
set_option maxRecDepth 100000 in
theorem c_X5_findOrder (l : Launch) (D : va_G) (cy : Nat → ClassId) (G : Nat → Nat) (sz : Nat) (w : Nat → Nat) (b : Nat → Nat) (x : Nat → Nat) (wc : Int32) (lw : Int32) (gw : Int32) (ss : Int32) (sl : Int32) (sc : Int32) (sp : Int32) (sg : Nat → Int32) (lb : Nat → Int32) (P : Nat → Int32) (F : Nat → Int32) (N : Nat → Int32) (B : Nat → Int32) (O : Nat → Int32) (Sd : Nat → Int32) (Dv : Nat → Int32) (L : Nat → Nat → Int32) (rc : Int32) (re : Int32) (fr : Int32) (lo : Int32) (sm : Int32) (X : Nat → Int32) (a : Nat → Nat) (S : Nat → Int32) (hX : can X) (wf : wf S) : Met l yX5_findOrder (wm yX5_findOrder cX5_findOrder 4 none) { frames := 6, cells := 0, slots := 0, locals := 132 } (va_Pc [.ref (w 0), .ref (a 0)] (pr D (TY cy) G ([tO cy w b x wc lw gw ss sl sc sp, ia cy (w 1) 20 sg, ia cy (w 2) 21 lb] ++ (aS cy b P F N B O Sd Dv L rc re fr lo sm ++ (pS cy x X ++ (pS cy a S)))) sz)) (va_Qv (fun (u : (Nat → Int32) × (Nat → Int32) × (Nat → Int32) × (Nat → Int32) × (Nat → Int32) × (Nat → Int32) × (Nat → Int32) × (Nat → Nat → Int32) × Int32 × Int32 × Int32 × Int32 × Int32 × (Nat → Int32) × (Nat → Int32) × (Nat → Int32)) => (can u.2.2.2.2.2.2.2.2.2.2.2.2.2.1) ∧ (∀ j, j < ordK S → u.2.2.2.2.2.2.2.2.2.2.2.2.2.2.1 j = stp S j) ∧ (∀ j, j ≤ ordK S → u.2.2.2.2.2.2.2.2.2.2.2.2.2.2.2 j = hadS S j)) (fun (u : (Nat → Int32) × (Nat → Int32) × (Nat → Int32) × (Nat → Int32) × (Nat → Int32) × (Nat → Int32) × (Nat → Int32) × (Nat → Nat → Int32) × Int32 × Int32 × Int32 × Int32 × Int32 × (Nat → Int32) × (Nat → Int32) × (Nat → Int32)) t => po D (va_A ([tO cy w b x wc lw gw ss sl sc sp, ia cy (w 1) 20 sg, ia cy (w 2) 21 lb] ++ (aS cy b P F N B O Sd Dv L rc re fr lo sm ++ (pS cy x X ++ (pS cy a S)))) sz) ([tO cy w b x wc lw gw ss sl sc (nI (ordK S)), ia cy (w 1) 20 u.2.2.2.2.2.2.2.2.2.2.2.2.2.2.1, ia cy (w 2) 21 u.2.2.2.2.2.2.2.2.2.2.2.2.2.2.2] ++ (aS cy b u.1 u.2.1 u.2.2.1 u.2.2.2.1 u.2.2.2.2.1 u.2.2.2.2.2.1 u.2.2.2.2.2.2.1 u.2.2.2.2.2.2.2.1 u.2.2.2.2.2.2.2.2.1 u.2.2.2.2.2.2.2.2.2.1 u.2.2.2.2.2.2.2.2.2.2.1 u.2.2.2.2.2.2.2.2.2.2.2.1 u.2.2.2.2.2.2.2.2.2.2.2.2.1 ++ (pS cy x u.2.2.2.2.2.2.2.2.2.2.2.2.2.1 ++ (pS cy a S)))) t) (va_A ([tO cy w b x wc lw gw ss sl sc sp, ia cy (w 1) 20 sg, ia cy (w 2) 21 lb] ++ (aS cy b P F N B O Sd Dv L rc re fr lo sm ++ (pS cy x X ++ (pS cy a S)))) sz)) 0 0 (va_A ([tO cy w b x wc lw gw ss sl sc sp, ia cy (w 1) 20 sg, ia cy (w 2) 21 lb] ++ (aS cy b P F N B O Sd Dv L rc re fr lo sm ++ (pS cy x X ++ (pS cy a S)))) sz) := by
  refine mk_rw (by decide) RX5 rfl (Nat.le_of_ble_eq_true rfl) [(0, .ref (w 0)), (1, .ref (a 0))] rfl ?_
  intro p e s m below meth c hx hb hml hown hr hlocks hin hw hsz hA hG hK H0 locs0 hP0 hD0 hS0 ls0 hl0
  clear hin
  have hg20 := wf_g20 wf
  have hr6 := wf_r6 wf
  refine lv_aload_n hx hb dX5_findOrder_0 rfl (lv_at hl0 0 rfl) ?_
  refine va_get (D := D) (ci := 5) (v := .ref (x 0)) (C := RX5) (T := TX5) (N := 11) hx hb hw iX5 hown hK hP0 0 rfl rfl 10 (by decide) (hw _ kw_1_183) (fun _ h9 => h9) rfl dX5_findOrder_1 ?_
  refine lv_aload_n hx hb dX5_findOrder_4 rfl (lv_at hl0 1 rfl) ?_
  refine cV_v (wc := pS cy x X ++ (pS cy a S)) (wr := [tO cy w b x wc lw gw ss sl sc sp, ia cy (w 1) 20 sg, ia cy (w 2) 21 lb] ++ (aS cy b P F N B O Sd Dv L rc re fr lo sm)) (rest := []) hx hb hml hown hw hG hK hP0 hD0 hS0 hA hl0 kc_X1_takeFrom kw_3_144 [.ref (a 0)] (c_X1_takeFrom l D cy G H0.size x X a S hX (wf_can wf)) [18, 19, 20, 21, 22, 23, 24, 25, 26, 27, 28, 29, 30, 31, 32, 33, 34, 35, 36, 37] [0, 1, 2, 3, 4, 5, 6, 7, 8, 9, 10, 11, 12, 13, 14, 15, 16, 17] rfl rfl rfl rfl rfl 0 rfl rfl rfl rfl rfl (Nat.le_of_ble_eq_true rfl) ⟨Nat.le_of_ble_eq_true rfl, Nat.le_of_ble_eq_true rfl⟩ dX5_findOrder_5 ⟨Nat.le_of_ble_eq_true rfl, Nat.le_of_ble_eq_true rfl⟩ (fun u9 H1 locs1 hu9 hP1 hD1 hS1 => ?_)
  clear hP0 hD0 hS0 locs0 H0
  replace hP1 : va_P D vwCl ([tO cy w b x wc lw gw ss sl sc sp, ia cy (w 1) 20 sg, ia cy (w 2) 21 lb] ++ (aS cy b P F N B O Sd Dv L rc re fr lo sm ++ (pS cy x S ++ (pS cy a S)))) H1 := hP1
  replace hD1 : va_D (va_A _ sz) ([tO cy w b x wc lw gw ss sl sc sp, ia cy (w 1) 20 sg, ia cy (w 2) 21 lb] ++ (aS cy b P F N B O Sd Dv L rc re fr lo sm ++ (pS cy x S ++ (pS cy a S)))) := hD1
  refine lv_aload_n hx hb dX5_findOrder_8 rfl (lv_at hl0 0 rfl) ?_
  refine va_get (D := D) (ci := 5) (v := .ref (b 0)) (C := RX5) (T := TX5) (N := 11) hx hb hw iX5 hown hK hP1 0 rfl rfl 0 (by decide) (hw _ kw_1_163) (fun _ h9 => h9) rfl dX5_findOrder_9 ?_
  refine lv_aload_n hx hb dX5_findOrder_12 rfl (lv_at hl0 0 rfl) ?_
  refine va_get (D := D) (ci := 5) (v := .ref (x 0)) (C := RX5) (T := TX5) (N := 11) hx hb hw iX5 hown hK hP1 0 rfl rfl 10 (by decide) (hw _ kw_1_183) (fun _ h9 => h9) rfl dX5_findOrder_13 ?_
  refine cV_v (wc := aS cy b P F N B O Sd Dv L rc re fr lo sm ++ (pS cy x S)) (wr := [tO cy w b x wc lw gw ss sl sc sp, ia cy (w 1) 20 sg, ia cy (w 2) 21 lb] ++ (pS cy a S)) (rest := []) hx hb hml hown hw hG hK hP1 hD1 hS1 hA hl0 kc_X0_settle kw_3_145 [.ref (x 0)] (c_X0_settle l D cy G H1.size b P F N B O Sd Dv L rc re fr lo sm x S (by first | omega | assumption)) [3, 4, 5, 6, 7, 8, 9, 10, 11, 12, 13, 14, 15, 16, 17, 18, 19, 20, 21, 22, 23, 24, 25, 26, 27] [0, 1, 2, 28, 29, 30, 31, 32, 33, 34, 35, 36, 37] rfl rfl rfl rfl rfl 0 rfl rfl rfl rfl rfl (Nat.le_of_ble_eq_true rfl) ⟨Nat.le_of_ble_eq_true rfl, Nat.le_of_ble_eq_true rfl⟩ dX5_findOrder_16 ⟨Nat.le_of_ble_eq_true rfl, Nat.le_of_ble_eq_true rfl⟩ (fun u9 H2 locs2 hu9 hP2 hD2 hS2 => ?_)
  clear hP1 hD1 hS1 locs1 H1
  obtain ⟨F1_16, N1_16, B1_16, O1_16, Sd1_16, Dv1_16, L1_16⟩ := u9
  have hF_16 := hu9
  replace hF_16 : ∀ g, g < gcN S → F1_16 g = flow S (PR S) g := hF_16
  replace hP2 : va_P D vwCl ([tO cy w b x wc lw gw ss sl sc sp, ia cy (w 1) 20 sg, ia cy (w 2) 21 lb] ++ (pS cy a S ++ (aS cy b (PR S) F1_16 N1_16 B1_16 O1_16 Sd1_16 Dv1_16 L1_16 (nI (RC S)) (b2i (RC S = 60)) (fresh S) (lost S) (b2i (smokes S = true)) ++ (pS cy x S)))) H2 := hP2
  replace hD2 : va_D (va_A _ sz) ([tO cy w b x wc lw gw ss sl sc sp, ia cy (w 1) 20 sg, ia cy (w 2) 21 lb] ++ (pS cy a S ++ (aS cy b (PR S) F1_16 N1_16 B1_16 O1_16 Sd1_16 Dv1_16 L1_16 (nI (RC S)) (b2i (RC S = 60)) (fresh S) (lost S) (b2i (smokes S = true)) ++ (pS cy x S)))) := hD2
  replace hP2 := hP2.sub (ws' := [tO cy w b x wc lw gw ss sl sc sp, ia cy (w 1) 20 sg, ia cy (w 2) 21 lb] ++ (aS cy b (PR S) F1_16 N1_16 B1_16 O1_16 Sd1_16 Dv1_16 L1_16 (nI (RC S)) (b2i (RC S = 60)) (fresh S) (lost S) (b2i (smokes S = true)) ++ (pS cy x S ++ (pS cy a S)))) [0, 1, 2, 13, 14, 15, 16, 17, 18, 19, 20, 21, 22, 23, 24, 25, 26, 27, 28, 29, 30, 31, 32, 33, 34, 35, 36, 37, 3, 4, 5, 6, 7, 8, 9, 10, 11, 12] rfl
  replace hD2 := hD2.sub (ws' := [tO cy w b x wc lw gw ss sl sc sp, ia cy (w 1) 20 sg, ia cy (w 2) 21 lb] ++ (aS cy b (PR S) F1_16 N1_16 B1_16 O1_16 Sd1_16 Dv1_16 L1_16 (nI (RC S)) (b2i (RC S = 60)) (fresh S) (lost S) (b2i (smokes S = true)) ++ (pS cy x S ++ (pS cy a S)))) [0, 1, 2, 13, 14, 15, 16, 17, 18, 19, 20, 21, 22, 23, 24, 25, 26, 27, 28, 29, 30, 31, 32, 33, 34, 35, 36, 37, 3, 4, 5, 6, 7, 8, 9, 10, 11, 12] (by decide) rfl
  refine lv_aload_n hx hb dX5_findOrder_19 rfl (lv_at hl0 0 rfl) ?_
  refine lv_iconst (v := 0) hx hb dX5_findOrder_20 (by decide) ?_
  refine pt (D := D) (ci := 5) (v := .int 0) (ty := .int) (C := RX5) (T := TX5) (N := 11) (ws' := [tO cy w b x wc lw gw ss sl sc 0, ia cy (w 1) 20 sg, ia cy (w 2) 21 lb] ++ (aS cy b (PR S) F1_16 N1_16 B1_16 O1_16 Sd1_16 Dv1_16 L1_16 (nI (RC S)) (b2i (RC S = 60)) (fresh S) (lost S) (b2i (smokes S = true)) ++ (pS cy x S ++ (pS cy a S)))) hx hb hw iX5 tyX5 tyX5_ok nmX5 hown hK hP2 hD2 hS2 0 rfl rfl 7 (by decide) kw_1_177 (fun _ h9 => h9) rfl (by decide +kernel) rfl rfl (Nat.le_of_ble_eq_true rfl) rfl dX5_findOrder_21 (fun H3 locs3 hP3 hD3 hS3 => ?_)
  clear hP2 hD2 hS2 locs2 H2
  refine lv_aload_n hx hb dX5_findOrder_24 rfl (lv_at hl0 0 rfl) ?_
  refine va_get (D := D) (ci := 5) (v := .ref (w 2)) (C := RX5) (T := TX5) (N := 11) hx hb hw iX5 hown hK hP3 0 rfl rfl 9 (by decide) (hw _ kw_1_181) (fun _ h9 => h9) rfl dX5_findOrder_25 ?_
  refine lv_iconst (v := 0) hx hb dX5_findOrder_28 (by decide) ?_
  refine lv_aload_n hx hb dX5_findOrder_29 rfl (lv_at hl0 0 rfl) ?_
  refine va_get (D := D) (ci := 5) (v := .ref (b 0)) (C := RX5) (T := TX5) (N := 11) hx hb hw iX5 hown hK hP3 0 rfl rfl 0 (by decide) (hw _ kw_1_163) (fun _ h9 => h9) rfl dX5_findOrder_30 ?_
  refine va_get (D := D) (ci := 0) (v := .int (lost S)) (C := RX0) (T := TX0) (N := 13) hx hb hw iX0 hown hK hP3 3 rfl rfl 5 (by decide) (hw _ kw_1_115) (fun _ h9 => h9) rfl dX5_findOrder_33 ?_
  refine ast_i (f := lb) (ws' := [tO cy w b x wc lw gw ss sl sc 0, ia cy (w 1) 20 sg, ia cy (w 2) 21 (upd lb 0 (lost S))] ++ (aS cy b (PR S) F1_16 N1_16 B1_16 O1_16 Sd1_16 Dv1_16 L1_16 (nI (RC S)) (b2i (RC S = 60)) (fresh S) (lost S) (b2i (smokes S = true)) ++ (pS cy x S ++ (pS cy a S)))) hx hb hK hP3 hD3 hS3 2 0 rfl rfl 0 rfl (by first | omega | assumption) (by decide) rfl dX5_findOrder_36 (fun H4 locs4 hP4 hD4 hS4 => ?_)
  clear hP3 hD3 hS3 locs3 H3
  refine lv_iconst (v := 1) hx hb dX5_findOrder_37 (by decide) ?_
  refine lv_istore_n (lv' := [(2, .int 1), (0, .ref (w 0)), (1, .ref (a 0))]) hx hb dX5_findOrder_38 rfl hl0 (by decide) rfl (fun ls1 hl1 => ?_)
  clear hl0 ls0
  refine lv_iconst (v := 0) hx hb dX5_findOrder_39 (by decide) ?_
  refine lv_istore_n (lv' := [(3, .int 0), (2, .int 1), (0, .ref (w 0)), (1, .ref (a 0))]) hx hb dX5_findOrder_40 rfl hl1 (by decide) rfl (fun ls2 hl2 => ?_)
  clear hl1 ls1
  refine wlp (ι := Nat × Int32 × Nat × (Nat → Int32) × (Nat → Int32) × (Nat → Int32) × (Nat → Int32) × (Nat → Int32) × (Nat → Int32) × (Nat → Int32) × (Nat → Int32) × (Nat → Int32) × (Nat → Nat → Int32) × Int32 × Int32 × Int32 × Int32 × Int32 × (Nat → Int32)) (nL := 4) (fun x9 => (x9.1 ≤ 20) ∧ (x9.2.2.1 ≤ x9.1) ∧ ((x9.2.1 = 1 ∧ x9.2.2.1 = x9.1) ∨ (x9.2.1 = 0 ∧ stp S x9.2.2.1 = -1)) ∧ (x9.2.2.2.2.2.2.2.2.2.2.2.2.2.2.2.2.2.2 = ordS S x9.2.2.1) ∧ (∀ j, j < x9.2.2.1 → x9.2.2.2.1 j = stp S j) ∧ (∀ j, j ≤ x9.2.2.1 → x9.2.2.2.2.1 j = hadS S j) ∧ (∀ j, j < x9.2.2.1 → ¬ stp S j = -1)) (fun x9 => [tO cy w b x wc lw gw ss sl sc (nI x9.2.2.1), ia cy (w 1) 20 x9.2.2.2.1, ia cy (w 2) 21 x9.2.2.2.2.1] ++ (aS cy b x9.2.2.2.2.2.1 x9.2.2.2.2.2.2.1 x9.2.2.2.2.2.2.2.1 x9.2.2.2.2.2.2.2.2.1 x9.2.2.2.2.2.2.2.2.2.1 x9.2.2.2.2.2.2.2.2.2.2.1 x9.2.2.2.2.2.2.2.2.2.2.2.1 x9.2.2.2.2.2.2.2.2.2.2.2.2.1 x9.2.2.2.2.2.2.2.2.2.2.2.2.2.1 x9.2.2.2.2.2.2.2.2.2.2.2.2.2.2.1 x9.2.2.2.2.2.2.2.2.2.2.2.2.2.2.2.1 x9.2.2.2.2.2.2.2.2.2.2.2.2.2.2.2.2.1 x9.2.2.2.2.2.2.2.2.2.2.2.2.2.2.2.2.2.1 ++ (pS cy x x9.2.2.2.2.2.2.2.2.2.2.2.2.2.2.2.2.2.2 ++ (pS cy a S)))) (fun x9 => [(3, .int (nI x9.1)), (2, .int x9.2.1), (0, .ref (w 0)), (1, .ref (a 0))]) (fun x9 => []) (fun x9 => 20 - x9.1) 41 ?_ (0, 1, 0, sg, upd lb 0 (lost S), PR S, F1_16, N1_16, B1_16, O1_16, Sd1_16, Dv1_16, L1_16, nI (RC S), b2i (RC S = 60), fresh S, lost S, b2i (smokes S = true), S) (⟨by first | omega | assumption | rfl | simp_all, by first | omega | assumption | rfl | simp_all, Or.inl ⟨rfl, rfl⟩, rfl, fun j hj => absurd hj (Nat.not_lt_zero j), fun j hj => by have hj : j ≤ 0 := hj; obtain rfl : j = 0 := (by omega); exact upd_s lb 0 (lost S), fun j hj => absurd hj (Nat.not_lt_zero j)⟩) rfl hP4 hD4 hS4 (lv_sub hl2 [0, 1, 2, 3] rfl)
  clear hP4 hD4 hS4 locs4 H4 hl2 ls2
  intro x9 hI ih_41 H5 locs5 ls3 hP5 hD5 hS5 hl3
  obtain ⟨i, go, k, sg1, lb1, P1, F1, N1, B1, O1, Sd1, Dv1, L1, rc1, re1, fr1, lo1, sm1, X1⟩ := x9
  obtain ⟨hi, hk, hgo, hXo, hsg, hlb, hne⟩ := hI
  replace hi : i ≤ 20 := hi
  replace hk : k ≤ i := hk
  replace hgo : (go = 1 ∧ k = i) ∨ (go = 0 ∧ stp S k = -1) := hgo
  replace hXo : X1 = ordS S k := hXo
  replace hsg : ∀ j, j < k → sg1 j = stp S j := hsg
  replace hlb : ∀ j, j ≤ k → lb1 j = hadS S j := hlb
  replace hne : ∀ j, j < k → ¬ stp S j = -1 := hne
  replace hP5 : va_P D vwCl ([tO cy w b x wc lw gw ss sl sc (nI k), ia cy (w 1) 20 sg1, ia cy (w 2) 21 lb1] ++ (aS cy b P1 F1 N1 B1 O1 Sd1 Dv1 L1 rc1 re1 fr1 lo1 sm1 ++ (pS cy x X1 ++ (pS cy a S)))) H5 := hP5
  replace hD5 : va_D (va_A _ sz) ([tO cy w b x wc lw gw ss sl sc (nI k), ia cy (w 1) 20 sg1, ia cy (w 2) 21 lb1] ++ (aS cy b P1 F1 N1 B1 O1 Sd1 Dv1 L1 rc1 re1 fr1 lo1 sm1 ++ (pS cy x X1 ++ (pS cy a S)))) := hD5
  replace hl3 : lv_has ls3 4 [(3, .int (nI i)), (2, .int go), (0, .ref (w 0)), (1, .ref (a 0))] := hl3
  show W p l e _ s m _ below meth c _ _ _ _ _ (F0 m 41 ls3 [])
  refine lv_iload_n hx hb dX5_findOrder_41 rfl (lv_at hl3 0 rfl) ?_
  refine lv_bipush (v := 20) hx hb dX5_findOrder_42 (by decide) ?_
  refine ln_ge (tgt := 62) i 20 rfl rfl (by omega) (by omega) hx hb dX5_findOrder_44 (by decide) (fun c_44 => ?_) (fun c_44 => ?_)
  · have hK : ordK S = k := ordK_eq (by omega) hne (hgo.elim (fun q9 => Or.inl (by omega)) (fun q9 => Or.inr q9.2))
    have hq9 : ([tO cy w b x wc lw gw ss sl sc (nI k), ia cy (w 1) 20 sg1, ia cy (w 2) 21 lb1] ++ (aS cy b P1 F1 N1 B1 O1 Sd1 Dv1 L1 rc1 re1 fr1 lo1 sm1 ++ (pS cy x X1 ++ (pS cy a S)))) = ([tO cy w b x wc lw gw ss sl sc (nI (ordK S)), ia cy (w 1) 20 sg1, ia cy (w 2) 21 lb1] ++ (aS cy b P1 F1 N1 B1 O1 Sd1 Dv1 L1 rc1 re1 fr1 lo1 sm1 ++ (pS cy x X1 ++ (pS cy a S)))) := congrArg (fun z9 => [tO cy w b x wc lw gw ss sl sc z9, ia cy (w 1) 20 sg1, ia cy (w 2) 21 lb1] ++ (aS cy b P1 F1 N1 B1 O1 Sd1 Dv1 L1 rc1 re1 fr1 lo1 sm1 ++ (pS cy x X1 ++ (pS cy a S)))) (show (nI k) = (nI (ordK S)) from by rw [hK])
    replace hP5 := (congrArg (fun z9 => va_P D vwCl z9 _) hq9).mp hP5
    replace hD5 := (congrArg (fun z9 => va_D _ z9) hq9).mp hD5
    clear hq9
    have hX1 : can X1 := by rw [hXo]; exact wf_can (ordS_wf wf k hne).1
    refine re_v (P1, F1, N1, B1, O1, Sd1, Dv1, L1, rc1, re1, fr1, lo1, sm1, X1, sg1, lb1) hx hb hr hlocks hP5 hD5 hS5 dX5_findOrder_62 ?_
    exact (⟨hX1, fun j hj => hsg j (by omega), fun j hj => hlb j (by omega)⟩)
  · refine lv_iload_n hx hb dX5_findOrder_47 rfl (lv_at hl3 1 rfl) ?_
    refine lv_if_eq (tgt := 62) hx hb dX5_findOrder_48 (by decide) (fun c_48 => ?_) (fun c_48 => ?_)
    · have hK : ordK S = k := ordK_eq (by omega) hne (Or.inr (hgo.elim (fun q9 => absurd c_48 (by rw [q9.1]; decide)) (fun q9 => q9.2)))
      have hq9 : ([tO cy w b x wc lw gw ss sl sc (nI k), ia cy (w 1) 20 sg1, ia cy (w 2) 21 lb1] ++ (aS cy b P1 F1 N1 B1 O1 Sd1 Dv1 L1 rc1 re1 fr1 lo1 sm1 ++ (pS cy x X1 ++ (pS cy a S)))) = ([tO cy w b x wc lw gw ss sl sc (nI (ordK S)), ia cy (w 1) 20 sg1, ia cy (w 2) 21 lb1] ++ (aS cy b P1 F1 N1 B1 O1 Sd1 Dv1 L1 rc1 re1 fr1 lo1 sm1 ++ (pS cy x X1 ++ (pS cy a S)))) := congrArg (fun z9 => [tO cy w b x wc lw gw ss sl sc z9, ia cy (w 1) 20 sg1, ia cy (w 2) 21 lb1] ++ (aS cy b P1 F1 N1 B1 O1 Sd1 Dv1 L1 rc1 re1 fr1 lo1 sm1 ++ (pS cy x X1 ++ (pS cy a S)))) (show (nI k) = (nI (ordK S)) from by rw [hK])
      replace hP5 := (congrArg (fun z9 => va_P D vwCl z9 _) hq9).mp hP5
      replace hD5 := (congrArg (fun z9 => va_D _ z9) hq9).mp hD5
      clear hq9
      have hX1 : can X1 := by rw [hXo]; exact wf_can (ordS_wf wf k hne).1
      refine re_v (P1, F1, N1, B1, O1, Sd1, Dv1, L1, rc1, re1, fr1, lo1, sm1, X1, sg1, lb1) hx hb hr hlocks hP5 hD5 hS5 dX5_findOrder_62 ?_
      exact (⟨hX1, fun j hj => hsg j (by omega), fun j hj => hlb j (by omega)⟩)
    · have hgo1 : go = 1 ∧ k = i := by
        rcases hgo with q9 | q9
        · exact q9
        · exact absurd q9.1 c_48
      have hki := hgo1.2
      have hk20 : k < 20 := by omega
      have hwo := ordS_wf wf k hne
      rw [← hXo] at hwo
      have hlk : lb1 k = hadS S k := hlb k (Nat.le_refl _)
      have hst : nsB X1 (lb1 k) (gcN X1) = stp S k := by rw [hwo.2, hXo, hlk]; rfl
      refine lv_aload_n hx hb dX5_findOrder_51 rfl (lv_at hl3 2 rfl) ?_
      refine cV_i (wc := [tO cy w b x wc lw gw ss sl sc (nI k), ia cy (w 1) 20 sg1, ia cy (w 2) 21 lb1] ++ (aS cy b P1 F1 N1 B1 O1 Sd1 Dv1 L1 rc1 re1 fr1 lo1 sm1 ++ (pS cy x X1))) (wr := pS cy a S) (rest := []) hx hb hml hown hw hG hK hP5 hD5 hS5 hA hl3 kc_X5_takeStep kw_3_195 [] (c_X5_takeStep l D cy G H5.size w b x wc lw gw ss sl sc sg1 lb1 P1 F1 N1 B1 O1 Sd1 Dv1 L1 rc1 re1 fr1 lo1 sm1 X1 k hwo.1 (by first | omega | assumption)) [0, 1, 2, 3, 4, 5, 6, 7, 8, 9, 10, 11, 12, 13, 14, 15, 16, 17, 18, 19, 20, 21, 22, 23, 24, 25, 26, 27] [28, 29, 30, 31, 32, 33, 34, 35, 36, 37] rfl rfl rfl rfl rfl 0 rfl rfl rfl rfl rfl (Nat.le_of_ble_eq_true rfl) ⟨Nat.le_of_ble_eq_true rfl, Nat.le_of_ble_eq_true rfl⟩ dX5_findOrder_52 ⟨Nat.le_of_ble_eq_true rfl, Nat.le_of_ble_eq_true rfl⟩ (fun r_52 u9 H6 locs6 hu9 hP6 hD6 hS6 => ?_)
      clear hP5 hD5 hS5 locs5 H5
      obtain ⟨P1_52, F1_52, N1_52, B1_52, O1_52, Sd1_52, Dv1_52, L1_52, rc1_52, re1_52, fr1_52, lo1_52, sm1_52⟩ := u9
      have hr_52 := hu9
      replace hP6 : va_P D vwCl (pS cy a S ++ ([tO cy w b x wc lw gw ss sl sc (if nsB X1 (lb1 k) (gcN X1) = -1 then nI k else nI (k + 1)), ia cy (w 1) 20 (if nsB X1 (lb1 k) (gcN X1) = -1 then sg1 else upd sg1 k (nsB X1 (lb1 k) (gcN X1))), ia cy (w 2) 21 (if nsB X1 (lb1 k) (gcN X1) = -1 then lb1 else upd lb1 (k + 1) (nsL X1 (lb1 k) (gcN X1)))] ++ (aS cy b P1_52 F1_52 N1_52 B1_52 O1_52 Sd1_52 Dv1_52 L1_52 rc1_52 re1_52 fr1_52 lo1_52 sm1_52 ++ (pS cy x (if nsB X1 (lb1 k) (gcN X1) = -1 then X1 else upd X1 (16 + 8 * bstN (nsB X1 (lb1 k) (gcN X1))) 1))))) H6 := hP6
      replace hD6 : va_D (va_A _ sz) (pS cy a S ++ ([tO cy w b x wc lw gw ss sl sc (if nsB X1 (lb1 k) (gcN X1) = -1 then nI k else nI (k + 1)), ia cy (w 1) 20 (if nsB X1 (lb1 k) (gcN X1) = -1 then sg1 else upd sg1 k (nsB X1 (lb1 k) (gcN X1))), ia cy (w 2) 21 (if nsB X1 (lb1 k) (gcN X1) = -1 then lb1 else upd lb1 (k + 1) (nsL X1 (lb1 k) (gcN X1)))] ++ (aS cy b P1_52 F1_52 N1_52 B1_52 O1_52 Sd1_52 Dv1_52 L1_52 rc1_52 re1_52 fr1_52 lo1_52 sm1_52 ++ (pS cy x (if nsB X1 (lb1 k) (gcN X1) = -1 then X1 else upd X1 (16 + 8 * bstN (nsB X1 (lb1 k) (gcN X1))) 1))))) := hD6
      replace hP6 := hP6.sub (ws' := [tO cy w b x wc lw gw ss sl sc (if nsB X1 (lb1 k) (gcN X1) = -1 then nI k else nI (k + 1)), ia cy (w 1) 20 (if nsB X1 (lb1 k) (gcN X1) = -1 then sg1 else upd sg1 k (nsB X1 (lb1 k) (gcN X1))), ia cy (w 2) 21 (if nsB X1 (lb1 k) (gcN X1) = -1 then lb1 else upd lb1 (k + 1) (nsL X1 (lb1 k) (gcN X1)))] ++ (aS cy b P1_52 F1_52 N1_52 B1_52 O1_52 Sd1_52 Dv1_52 L1_52 rc1_52 re1_52 fr1_52 lo1_52 sm1_52 ++ (pS cy x (if nsB X1 (lb1 k) (gcN X1) = -1 then X1 else upd X1 (16 + 8 * bstN (nsB X1 (lb1 k) (gcN X1))) 1) ++ (pS cy a S)))) [10, 11, 12, 13, 14, 15, 16, 17, 18, 19, 20, 21, 22, 23, 24, 25, 26, 27, 28, 29, 30, 31, 32, 33, 34, 35, 36, 37, 0, 1, 2, 3, 4, 5, 6, 7, 8, 9] rfl
      replace hD6 := hD6.sub (ws' := [tO cy w b x wc lw gw ss sl sc (if nsB X1 (lb1 k) (gcN X1) = -1 then nI k else nI (k + 1)), ia cy (w 1) 20 (if nsB X1 (lb1 k) (gcN X1) = -1 then sg1 else upd sg1 k (nsB X1 (lb1 k) (gcN X1))), ia cy (w 2) 21 (if nsB X1 (lb1 k) (gcN X1) = -1 then lb1 else upd lb1 (k + 1) (nsL X1 (lb1 k) (gcN X1)))] ++ (aS cy b P1_52 F1_52 N1_52 B1_52 O1_52 Sd1_52 Dv1_52 L1_52 rc1_52 re1_52 fr1_52 lo1_52 sm1_52 ++ (pS cy x (if nsB X1 (lb1 k) (gcN X1) = -1 then X1 else upd X1 (16 + 8 * bstN (nsB X1 (lb1 k) (gcN X1))) 1) ++ (pS cy a S)))) [10, 11, 12, 13, 14, 15, 16, 17, 18, 19, 20, 21, 22, 23, 24, 25, 26, 27, 28, 29, 30, 31, 32, 33, 34, 35, 36, 37, 0, 1, 2, 3, 4, 5, 6, 7, 8, 9] (by decide) rfl
      subst hr_52
      refine lv_istore_n (lv' := [(2, .int (b2i (¬ nsB X1 (lb1 k) (gcN X1) = -1))), (3, .int (nI i)), (0, .ref (w 0)), (1, .ref (a 0))]) hx hb dX5_findOrder_55 rfl hl3 (by decide) rfl (fun ls4 hl4 => ?_)
      clear hl3 ls3
      by_cases hs0 : stp S k = -1
      · have hsb : nsB X1 (lb1 k) (gcN X1) = -1 := hst.trans hs0
        have hq9 : ([tO cy w b x wc lw gw ss sl sc (if nsB X1 (lb1 k) (gcN X1) = -1 then nI k else nI (k + 1)), ia cy (w 1) 20 (if nsB X1 (lb1 k) (gcN X1) = -1 then sg1 else upd sg1 k (nsB X1 (lb1 k) (gcN X1))), ia cy (w 2) 21 (if nsB X1 (lb1 k) (gcN X1) = -1 then lb1 else upd lb1 (k + 1) (nsL X1 (lb1 k) (gcN X1)))] ++ (aS cy b P1_52 F1_52 N1_52 B1_52 O1_52 Sd1_52 Dv1_52 L1_52 rc1_52 re1_52 fr1_52 lo1_52 sm1_52 ++ (pS cy x (if nsB X1 (lb1 k) (gcN X1) = -1 then X1 else upd X1 (16 + 8 * bstN (nsB X1 (lb1 k) (gcN X1))) 1) ++ (pS cy a S)))) = ([tO cy w b x wc lw gw ss sl sc (nI k), ia cy (w 1) 20 (if nsB X1 (lb1 k) (gcN X1) = -1 then sg1 else upd sg1 k (nsB X1 (lb1 k) (gcN X1))), ia cy (w 2) 21 (if nsB X1 (lb1 k) (gcN X1) = -1 then lb1 else upd lb1 (k + 1) (nsL X1 (lb1 k) (gcN X1)))] ++ (aS cy b P1_52 F1_52 N1_52 B1_52 O1_52 Sd1_52 Dv1_52 L1_52 rc1_52 re1_52 fr1_52 lo1_52 sm1_52 ++ (pS cy x (if nsB X1 (lb1 k) (gcN X1) = -1 then X1 else upd X1 (16 + 8 * bstN (nsB X1 (lb1 k) (gcN X1))) 1) ++ (pS cy a S)))) := congrArg (fun z9 => [tO cy w b x wc lw gw ss sl sc z9, ia cy (w 1) 20 (if nsB X1 (lb1 k) (gcN X1) = -1 then sg1 else upd sg1 k (nsB X1 (lb1 k) (gcN X1))), ia cy (w 2) 21 (if nsB X1 (lb1 k) (gcN X1) = -1 then lb1 else upd lb1 (k + 1) (nsL X1 (lb1 k) (gcN X1)))] ++ (aS cy b P1_52 F1_52 N1_52 B1_52 O1_52 Sd1_52 Dv1_52 L1_52 rc1_52 re1_52 fr1_52 lo1_52 sm1_52 ++ (pS cy x (if nsB X1 (lb1 k) (gcN X1) = -1 then X1 else upd X1 (16 + 8 * bstN (nsB X1 (lb1 k) (gcN X1))) 1) ++ (pS cy a S)))) (show (if nsB X1 (lb1 k) (gcN X1) = -1 then nI k else nI (k + 1)) = (nI k) from if_pos hsb)
        replace hP6 := (congrArg (fun z9 => va_P D vwCl z9 _) hq9).mp hP6
        replace hD6 := (congrArg (fun z9 => va_D _ z9) hq9).mp hD6
        clear hq9
        have hq9 : ([tO cy w b x wc lw gw ss sl sc (nI k), ia cy (w 1) 20 (if nsB X1 (lb1 k) (gcN X1) = -1 then sg1 else upd sg1 k (nsB X1 (lb1 k) (gcN X1))), ia cy (w 2) 21 (if nsB X1 (lb1 k) (gcN X1) = -1 then lb1 else upd lb1 (k + 1) (nsL X1 (lb1 k) (gcN X1)))] ++ (aS cy b P1_52 F1_52 N1_52 B1_52 O1_52 Sd1_52 Dv1_52 L1_52 rc1_52 re1_52 fr1_52 lo1_52 sm1_52 ++ (pS cy x (if nsB X1 (lb1 k) (gcN X1) = -1 then X1 else upd X1 (16 + 8 * bstN (nsB X1 (lb1 k) (gcN X1))) 1) ++ (pS cy a S)))) = ([tO cy w b x wc lw gw ss sl sc (nI k), ia cy (w 1) 20 sg1, ia cy (w 2) 21 (if nsB X1 (lb1 k) (gcN X1) = -1 then lb1 else upd lb1 (k + 1) (nsL X1 (lb1 k) (gcN X1)))] ++ (aS cy b P1_52 F1_52 N1_52 B1_52 O1_52 Sd1_52 Dv1_52 L1_52 rc1_52 re1_52 fr1_52 lo1_52 sm1_52 ++ (pS cy x (if nsB X1 (lb1 k) (gcN X1) = -1 then X1 else upd X1 (16 + 8 * bstN (nsB X1 (lb1 k) (gcN X1))) 1) ++ (pS cy a S)))) := congrArg (fun z9 => [tO cy w b x wc lw gw ss sl sc (nI k), ia cy (w 1) 20 z9, ia cy (w 2) 21 (if nsB X1 (lb1 k) (gcN X1) = -1 then lb1 else upd lb1 (k + 1) (nsL X1 (lb1 k) (gcN X1)))] ++ (aS cy b P1_52 F1_52 N1_52 B1_52 O1_52 Sd1_52 Dv1_52 L1_52 rc1_52 re1_52 fr1_52 lo1_52 sm1_52 ++ (pS cy x (if nsB X1 (lb1 k) (gcN X1) = -1 then X1 else upd X1 (16 + 8 * bstN (nsB X1 (lb1 k) (gcN X1))) 1) ++ (pS cy a S)))) (show (if nsB X1 (lb1 k) (gcN X1) = -1 then sg1 else upd sg1 k (nsB X1 (lb1 k) (gcN X1))) = sg1 from if_pos hsb)
        replace hP6 := (congrArg (fun z9 => va_P D vwCl z9 _) hq9).mp hP6
        replace hD6 := (congrArg (fun z9 => va_D _ z9) hq9).mp hD6
        clear hq9
        have hq9 : ([tO cy w b x wc lw gw ss sl sc (nI k), ia cy (w 1) 20 sg1, ia cy (w 2) 21 (if nsB X1 (lb1 k) (gcN X1) = -1 then lb1 else upd lb1 (k + 1) (nsL X1 (lb1 k) (gcN X1)))] ++ (aS cy b P1_52 F1_52 N1_52 B1_52 O1_52 Sd1_52 Dv1_52 L1_52 rc1_52 re1_52 fr1_52 lo1_52 sm1_52 ++ (pS cy x (if nsB X1 (lb1 k) (gcN X1) = -1 then X1 else upd X1 (16 + 8 * bstN (nsB X1 (lb1 k) (gcN X1))) 1) ++ (pS cy a S)))) = ([tO cy w b x wc lw gw ss sl sc (nI k), ia cy (w 1) 20 sg1, ia cy (w 2) 21 lb1] ++ (aS cy b P1_52 F1_52 N1_52 B1_52 O1_52 Sd1_52 Dv1_52 L1_52 rc1_52 re1_52 fr1_52 lo1_52 sm1_52 ++ (pS cy x (if nsB X1 (lb1 k) (gcN X1) = -1 then X1 else upd X1 (16 + 8 * bstN (nsB X1 (lb1 k) (gcN X1))) 1) ++ (pS cy a S)))) := congrArg (fun z9 => [tO cy w b x wc lw gw ss sl sc (nI k), ia cy (w 1) 20 sg1, ia cy (w 2) 21 z9] ++ (aS cy b P1_52 F1_52 N1_52 B1_52 O1_52 Sd1_52 Dv1_52 L1_52 rc1_52 re1_52 fr1_52 lo1_52 sm1_52 ++ (pS cy x (if nsB X1 (lb1 k) (gcN X1) = -1 then X1 else upd X1 (16 + 8 * bstN (nsB X1 (lb1 k) (gcN X1))) 1) ++ (pS cy a S)))) (show (if nsB X1 (lb1 k) (gcN X1) = -1 then lb1 else upd lb1 (k + 1) (nsL X1 (lb1 k) (gcN X1))) = lb1 from if_pos hsb)
        replace hP6 := (congrArg (fun z9 => va_P D vwCl z9 _) hq9).mp hP6
        replace hD6 := (congrArg (fun z9 => va_D _ z9) hq9).mp hD6
        clear hq9
        have hq9 : ([tO cy w b x wc lw gw ss sl sc (nI k), ia cy (w 1) 20 sg1, ia cy (w 2) 21 lb1] ++ (aS cy b P1_52 F1_52 N1_52 B1_52 O1_52 Sd1_52 Dv1_52 L1_52 rc1_52 re1_52 fr1_52 lo1_52 sm1_52 ++ (pS cy x (if nsB X1 (lb1 k) (gcN X1) = -1 then X1 else upd X1 (16 + 8 * bstN (nsB X1 (lb1 k) (gcN X1))) 1) ++ (pS cy a S)))) = ([tO cy w b x wc lw gw ss sl sc (nI k), ia cy (w 1) 20 sg1, ia cy (w 2) 21 lb1] ++ (aS cy b P1_52 F1_52 N1_52 B1_52 O1_52 Sd1_52 Dv1_52 L1_52 rc1_52 re1_52 fr1_52 lo1_52 sm1_52 ++ (pS cy x X1 ++ (pS cy a S)))) := congrArg (fun z9 => [tO cy w b x wc lw gw ss sl sc (nI k), ia cy (w 1) 20 sg1, ia cy (w 2) 21 lb1] ++ (aS cy b P1_52 F1_52 N1_52 B1_52 O1_52 Sd1_52 Dv1_52 L1_52 rc1_52 re1_52 fr1_52 lo1_52 sm1_52 ++ (pS cy x z9 ++ (pS cy a S)))) (show (if nsB X1 (lb1 k) (gcN X1) = -1 then X1 else upd X1 (16 + 8 * bstN (nsB X1 (lb1 k) (gcN X1))) 1) = X1 from if_pos hsb)
        replace hP6 := (congrArg (fun z9 => va_P D vwCl z9 _) hq9).mp hP6
        replace hD6 := (congrArg (fun z9 => va_D _ z9) hq9).mp hD6
        clear hq9
        have hq9 : 0 = b2i (¬ nsB X1 (lb1 k) (gcN X1) = -1) := (b2i_f (fun q9 => q9 hsb)).symm
        replace hl4 : lv_has ls4 4 [(2, .int 0), (3, .int (nI i)), (0, .ref (w 0)), (1, .ref (a 0))] := (congrArg (fun z9 => lv_has ls4 4 [(2, .int z9), (3, .int (nI i)), (0, .ref (w 0)), (1, .ref (a 0))]) hq9).mpr hl4
        clear hq9
        have hgo9 : ((0 : Int32) = 1 ∧ k = i + 1) ∨ ((0 : Int32) = 0 ∧ stp S k = -1) := Or.inr ⟨rfl, hs0⟩
        have hk9 : k ≤ i + 1 := by omega
        have hX9 := hXo
        have hs9 := hsg
        have hl9 := hlb
        have hn9 := hne
        refine lv_iinc (v := nI (i + 1)) (lv' := [(3, .int (nI (i + 1))), (2, .int 0), (0, .ref (w 0)), (1, .ref (a 0))]) hx hb dX5_findOrder_56 hl4 (k := 1) rfl (nI_inc _) (by decide) rfl (fun ls5 hl5 => ?_)
        clear hl4 ls4
        refine lv_goto (tgt := 41) hx hb dX5_findOrder_59 (by decide) ?_
        exact ih_41 (i + 1, 0, k, sg1, lb1, P1_52, F1_52, N1_52, B1_52, O1_52, Sd1_52, Dv1_52, L1_52, rc1_52, re1_52, fr1_52, lo1_52, sm1_52, X1) (⟨by first | omega | assumption | rfl | simp_all, hk9, hgo9, hX9, hs9, hl9, hn9⟩) (by (try dsimp only); omega) H6 locs6 ls5 hP6 hD6 hS6 (lv_sub hl5 [0, 1, 2, 3] rfl)
      · have hsb : ¬ nsB X1 (lb1 k) (gcN X1) = -1 := fun q9 => hs0 (hst.symm.trans q9)
        have hq9 : ([tO cy w b x wc lw gw ss sl sc (if nsB X1 (lb1 k) (gcN X1) = -1 then nI k else nI (k + 1)), ia cy (w 1) 20 (if nsB X1 (lb1 k) (gcN X1) = -1 then sg1 else upd sg1 k (nsB X1 (lb1 k) (gcN X1))), ia cy (w 2) 21 (if nsB X1 (lb1 k) (gcN X1) = -1 then lb1 else upd lb1 (k + 1) (nsL X1 (lb1 k) (gcN X1)))] ++ (aS cy b P1_52 F1_52 N1_52 B1_52 O1_52 Sd1_52 Dv1_52 L1_52 rc1_52 re1_52 fr1_52 lo1_52 sm1_52 ++ (pS cy x (if nsB X1 (lb1 k) (gcN X1) = -1 then X1 else upd X1 (16 + 8 * bstN (nsB X1 (lb1 k) (gcN X1))) 1) ++ (pS cy a S)))) = ([tO cy w b x wc lw gw ss sl sc (nI (k + 1)), ia cy (w 1) 20 (if nsB X1 (lb1 k) (gcN X1) = -1 then sg1 else upd sg1 k (nsB X1 (lb1 k) (gcN X1))), ia cy (w 2) 21 (if nsB X1 (lb1 k) (gcN X1) = -1 then lb1 else upd lb1 (k + 1) (nsL X1 (lb1 k) (gcN X1)))] ++ (aS cy b P1_52 F1_52 N1_52 B1_52 O1_52 Sd1_52 Dv1_52 L1_52 rc1_52 re1_52 fr1_52 lo1_52 sm1_52 ++ (pS cy x (if nsB X1 (lb1 k) (gcN X1) = -1 then X1 else upd X1 (16 + 8 * bstN (nsB X1 (lb1 k) (gcN X1))) 1) ++ (pS cy a S)))) := congrArg (fun z9 => [tO cy w b x wc lw gw ss sl sc z9, ia cy (w 1) 20 (if nsB X1 (lb1 k) (gcN X1) = -1 then sg1 else upd sg1 k (nsB X1 (lb1 k) (gcN X1))), ia cy (w 2) 21 (if nsB X1 (lb1 k) (gcN X1) = -1 then lb1 else upd lb1 (k + 1) (nsL X1 (lb1 k) (gcN X1)))] ++ (aS cy b P1_52 F1_52 N1_52 B1_52 O1_52 Sd1_52 Dv1_52 L1_52 rc1_52 re1_52 fr1_52 lo1_52 sm1_52 ++ (pS cy x (if nsB X1 (lb1 k) (gcN X1) = -1 then X1 else upd X1 (16 + 8 * bstN (nsB X1 (lb1 k) (gcN X1))) 1) ++ (pS cy a S)))) (show (if nsB X1 (lb1 k) (gcN X1) = -1 then nI k else nI (k + 1)) = (nI (k + 1)) from if_neg hsb)
        replace hP6 := (congrArg (fun z9 => va_P D vwCl z9 _) hq9).mp hP6
        replace hD6 := (congrArg (fun z9 => va_D _ z9) hq9).mp hD6
        clear hq9
        have hq9 : ([tO cy w b x wc lw gw ss sl sc (nI (k + 1)), ia cy (w 1) 20 (if nsB X1 (lb1 k) (gcN X1) = -1 then sg1 else upd sg1 k (nsB X1 (lb1 k) (gcN X1))), ia cy (w 2) 21 (if nsB X1 (lb1 k) (gcN X1) = -1 then lb1 else upd lb1 (k + 1) (nsL X1 (lb1 k) (gcN X1)))] ++ (aS cy b P1_52 F1_52 N1_52 B1_52 O1_52 Sd1_52 Dv1_52 L1_52 rc1_52 re1_52 fr1_52 lo1_52 sm1_52 ++ (pS cy x (if nsB X1 (lb1 k) (gcN X1) = -1 then X1 else upd X1 (16 + 8 * bstN (nsB X1 (lb1 k) (gcN X1))) 1) ++ (pS cy a S)))) = ([tO cy w b x wc lw gw ss sl sc (nI (k + 1)), ia cy (w 1) 20 (upd sg1 k (stp S k)), ia cy (w 2) 21 (if nsB X1 (lb1 k) (gcN X1) = -1 then lb1 else upd lb1 (k + 1) (nsL X1 (lb1 k) (gcN X1)))] ++ (aS cy b P1_52 F1_52 N1_52 B1_52 O1_52 Sd1_52 Dv1_52 L1_52 rc1_52 re1_52 fr1_52 lo1_52 sm1_52 ++ (pS cy x (if nsB X1 (lb1 k) (gcN X1) = -1 then X1 else upd X1 (16 + 8 * bstN (nsB X1 (lb1 k) (gcN X1))) 1) ++ (pS cy a S)))) := congrArg (fun z9 => [tO cy w b x wc lw gw ss sl sc (nI (k + 1)), ia cy (w 1) 20 z9, ia cy (w 2) 21 (if nsB X1 (lb1 k) (gcN X1) = -1 then lb1 else upd lb1 (k + 1) (nsL X1 (lb1 k) (gcN X1)))] ++ (aS cy b P1_52 F1_52 N1_52 B1_52 O1_52 Sd1_52 Dv1_52 L1_52 rc1_52 re1_52 fr1_52 lo1_52 sm1_52 ++ (pS cy x (if nsB X1 (lb1 k) (gcN X1) = -1 then X1 else upd X1 (16 + 8 * bstN (nsB X1 (lb1 k) (gcN X1))) 1) ++ (pS cy a S)))) (show (if nsB X1 (lb1 k) (gcN X1) = -1 then sg1 else upd sg1 k (nsB X1 (lb1 k) (gcN X1))) = (upd sg1 k (stp S k)) from (if_neg hsb).trans (by rw [hst]))
        replace hP6 := (congrArg (fun z9 => va_P D vwCl z9 _) hq9).mp hP6
        replace hD6 := (congrArg (fun z9 => va_D _ z9) hq9).mp hD6
        clear hq9
        have hq9 : ([tO cy w b x wc lw gw ss sl sc (nI (k + 1)), ia cy (w 1) 20 (upd sg1 k (stp S k)), ia cy (w 2) 21 (if nsB X1 (lb1 k) (gcN X1) = -1 then lb1 else upd lb1 (k + 1) (nsL X1 (lb1 k) (gcN X1)))] ++ (aS cy b P1_52 F1_52 N1_52 B1_52 O1_52 Sd1_52 Dv1_52 L1_52 rc1_52 re1_52 fr1_52 lo1_52 sm1_52 ++ (pS cy x (if nsB X1 (lb1 k) (gcN X1) = -1 then X1 else upd X1 (16 + 8 * bstN (nsB X1 (lb1 k) (gcN X1))) 1) ++ (pS cy a S)))) = ([tO cy w b x wc lw gw ss sl sc (nI (k + 1)), ia cy (w 1) 20 (upd sg1 k (stp S k)), ia cy (w 2) 21 (upd lb1 (k + 1) (hadS S (k + 1)))] ++ (aS cy b P1_52 F1_52 N1_52 B1_52 O1_52 Sd1_52 Dv1_52 L1_52 rc1_52 re1_52 fr1_52 lo1_52 sm1_52 ++ (pS cy x (if nsB X1 (lb1 k) (gcN X1) = -1 then X1 else upd X1 (16 + 8 * bstN (nsB X1 (lb1 k) (gcN X1))) 1) ++ (pS cy a S)))) := congrArg (fun z9 => [tO cy w b x wc lw gw ss sl sc (nI (k + 1)), ia cy (w 1) 20 (upd sg1 k (stp S k)), ia cy (w 2) 21 z9] ++ (aS cy b P1_52 F1_52 N1_52 B1_52 O1_52 Sd1_52 Dv1_52 L1_52 rc1_52 re1_52 fr1_52 lo1_52 sm1_52 ++ (pS cy x (if nsB X1 (lb1 k) (gcN X1) = -1 then X1 else upd X1 (16 + 8 * bstN (nsB X1 (lb1 k) (gcN X1))) 1) ++ (pS cy a S)))) (show (if nsB X1 (lb1 k) (gcN X1) = -1 then lb1 else upd lb1 (k + 1) (nsL X1 (lb1 k) (gcN X1))) = (upd lb1 (k + 1) (hadS S (k + 1))) from (if_neg hsb).trans (by rw [hadS_s, hwo.2, hXo, hlk]))
        replace hP6 := (congrArg (fun z9 => va_P D vwCl z9 _) hq9).mp hP6
        replace hD6 := (congrArg (fun z9 => va_D _ z9) hq9).mp hD6
        clear hq9
        have hq9 : ([tO cy w b x wc lw gw ss sl sc (nI (k + 1)), ia cy (w 1) 20 (upd sg1 k (stp S k)), ia cy (w 2) 21 (upd lb1 (k + 1) (hadS S (k + 1)))] ++ (aS cy b P1_52 F1_52 N1_52 B1_52 O1_52 Sd1_52 Dv1_52 L1_52 rc1_52 re1_52 fr1_52 lo1_52 sm1_52 ++ (pS cy x (if nsB X1 (lb1 k) (gcN X1) = -1 then X1 else upd X1 (16 + 8 * bstN (nsB X1 (lb1 k) (gcN X1))) 1) ++ (pS cy a S)))) = ([tO cy w b x wc lw gw ss sl sc (nI (k + 1)), ia cy (w 1) 20 (upd sg1 k (stp S k)), ia cy (w 2) 21 (upd lb1 (k + 1) (hadS S (k + 1)))] ++ (aS cy b P1_52 F1_52 N1_52 B1_52 O1_52 Sd1_52 Dv1_52 L1_52 rc1_52 re1_52 fr1_52 lo1_52 sm1_52 ++ (pS cy x (ordS S (k + 1)) ++ (pS cy a S)))) := congrArg (fun z9 => [tO cy w b x wc lw gw ss sl sc (nI (k + 1)), ia cy (w 1) 20 (upd sg1 k (stp S k)), ia cy (w 2) 21 (upd lb1 (k + 1) (hadS S (k + 1)))] ++ (aS cy b P1_52 F1_52 N1_52 B1_52 O1_52 Sd1_52 Dv1_52 L1_52 rc1_52 re1_52 fr1_52 lo1_52 sm1_52 ++ (pS cy x z9 ++ (pS cy a S)))) (show (if nsB X1 (lb1 k) (gcN X1) = -1 then X1 else upd X1 (16 + 8 * bstN (nsB X1 (lb1 k) (gcN X1))) 1) = (ordS S (k + 1)) from (if_neg hsb).trans (by rw [hst, ordS_s, hXo]))
        replace hP6 := (congrArg (fun z9 => va_P D vwCl z9 _) hq9).mp hP6
        replace hD6 := (congrArg (fun z9 => va_D _ z9) hq9).mp hD6
        clear hq9
        have hq9 : 1 = b2i (¬ nsB X1 (lb1 k) (gcN X1) = -1) := (b2i_t hsb).symm
        replace hl4 : lv_has ls4 4 [(2, .int 1), (3, .int (nI i)), (0, .ref (w 0)), (1, .ref (a 0))] := (congrArg (fun z9 => lv_has ls4 4 [(2, .int z9), (3, .int (nI i)), (0, .ref (w 0)), (1, .ref (a 0))]) hq9).mpr hl4
        clear hq9
        have hgo9 : ((1 : Int32) = 1 ∧ k + 1 = i + 1) ∨ ((1 : Int32) = 0 ∧ stp S (k + 1) = -1) := Or.inl ⟨rfl, by omega⟩
        have hk9 : k + 1 ≤ i + 1 := by omega
        have hX9 : ordS S (k + 1) = ordS S (k + 1) := rfl
        have hs9 : ∀ j, j < k + 1 → upd sg1 k (stp S k) j = stp S j := fun j hj => by
          by_cases e9 : j = k
          · subst e9; rw [upd_s]
          · rw [upd_n e9]; exact hsg j (by omega)
        have hl9 : ∀ j, j ≤ k + 1 → upd lb1 (k + 1) (hadS S (k + 1)) j = hadS S j := fun j hj => by
          by_cases e9 : j = k + 1
          · subst e9; rw [upd_s]
          · rw [upd_n e9]; exact hlb j (by omega)
        have hn9 : ∀ j, j < k + 1 → ¬ stp S j = -1 := fun j hj => by
          by_cases e9 : j = k
          · subst e9; exact hs0
          · exact hne j (by omega)
        refine lv_iinc (v := nI (i + 1)) (lv' := [(3, .int (nI (i + 1))), (2, .int 1), (0, .ref (w 0)), (1, .ref (a 0))]) hx hb dX5_findOrder_56 hl4 (k := 1) rfl (nI_inc _) (by decide) rfl (fun ls5 hl5 => ?_)
        clear hl4 ls4
        refine lv_goto (tgt := 41) hx hb dX5_findOrder_59 (by decide) ?_
        exact ih_41 (i + 1, 1, k + 1, upd sg1 k (stp S k), upd lb1 (k + 1) (hadS S (k + 1)), P1_52, F1_52, N1_52, B1_52, O1_52, Sd1_52, Dv1_52, L1_52, rc1_52, re1_52, fr1_52, lo1_52, sm1_52, ordS S (k + 1)) (⟨by first | omega | assumption | rfl | simp_all, hk9, hgo9, hX9, hs9, hl9, hn9⟩) (by (try dsimp only); omega) H6 locs6 ls5 hP6 hD6 hS6 (lv_sub hl5 [0, 1, 2, 3] rfl)
