theorem kc_X4_sortOf : kT yX4_sortOf cX4_sortOf 1 (some .int) 1 := ⟨kw_2_176, kw_1_5, kw_2_177, by decide, by decide, by decide +kernel⟩
set_option maxHeartbeats 4000000 in
set_option maxRecDepth 100000 in
theorem c_X4_sortOf (l : Launch) (D : va_G) (cy : Nat → ClassId) (G : Nat → Nat) (sz : Nat) (f : Int32)  : Met l yX4_sortOf (wm yX4_sortOf cX4_sortOf 1 (some .int)) { frames := 0, cells := 0, slots := 0, locals := 0 } (va_Pc [.int f] (pd D (TY cy) G ([]) sz)) (va_Qi (fun r (_ : Unit) => r = srt f) (fun _ _ => True) (va_A [] sz)) 0 0 (va_A [] sz) := by
  refine mk_rd (by decide) RX4 rfl (Nat.le_of_ble_eq_true rfl) [(0, .int f)] rfl ?_
  intro p e s m below meth c hx hb hml hown hr hlocks hw hsz hA hG hK H0 locs0 hP0 hS0 ls0 hl0
  refine lv_iload_n hx hb dX4_sortOf_0 rfl (lv_at hl0 0 rfl) ?_
  refine lv_if_ge (tgt := 6) hx hb dX4_sortOf_1 (by decide) (fun c_1 => ?_) (fun c_1 => ?_)
  · refine lv_iload_n hx hb dX4_sortOf_6 rfl (lv_at hl0 0 rfl) ?_
    refine lv_bipush (v := 97) hx hb dX4_sortOf_7 (by decide) ?_
    refine lv_icmp_lt (tgt := 20) hx hb dX4_sortOf_9 (by decide) (fun c_9 => ?_) (fun c_9 => ?_)
    · refine lv_iload_n hx hb dX4_sortOf_20 rfl (lv_at hl0 0 rfl) ?_
      refine lv_bipush (v := 48) hx hb dX4_sortOf_21 (by decide) ?_
      refine lv_icmp_lt (tgt := 34) hx hb dX4_sortOf_23 (by decide) (fun c_23 => ?_) (fun c_23 => ?_)
      · refine lv_iload_n hx hb dX4_sortOf_34 rfl (lv_at hl0 0 rfl) ?_
        refine lv_bipush (v := 44) hx hb dX4_sortOf_35 (by decide) ?_
        refine lv_icmp_ne (tgt := 44) hx hb dX4_sortOf_37 (by decide) (fun c_37 => ?_) (fun c_37 => ?_)
        · refine lv_iconst (v := 4) hx hb dX4_sortOf_44 (by decide) ?_
          exact rd_i hx hb hr hlocks hS0 dX4_sortOf_45 (by clear hx hb hml hown hr hlocks hw hsz hA hG hK hP0 hS0 hl0; unfold srt; grind)
        · refine lv_iconst (v := 3) hx hb dX4_sortOf_40 (by decide) ?_
          refine lv_goto (tgt := 45) hx hb dX4_sortOf_41 (by decide) ?_
          exact rd_i hx hb hr hlocks hS0 dX4_sortOf_45 (by clear hx hb hml hown hr hlocks hw hsz hA hG hK hP0 hS0 hl0; unfold srt; grind)
      · refine lv_iload_n hx hb dX4_sortOf_26 rfl (lv_at hl0 0 rfl) ?_
        refine lv_bipush (v := 57) hx hb dX4_sortOf_27 (by decide) ?_
        refine lv_icmp_gt (tgt := 34) hx hb dX4_sortOf_29 (by decide) (fun c_29 => ?_) (fun c_29 => ?_)
        · refine lv_iload_n hx hb dX4_sortOf_34 rfl (lv_at hl0 0 rfl) ?_
          refine lv_bipush (v := 44) hx hb dX4_sortOf_35 (by decide) ?_
          refine lv_icmp_ne (tgt := 44) hx hb dX4_sortOf_37 (by decide) (fun c_37 => ?_) (fun c_37 => ?_)
          · refine lv_iconst (v := 4) hx hb dX4_sortOf_44 (by decide) ?_
            exact rd_i hx hb hr hlocks hS0 dX4_sortOf_45 (by clear hx hb hml hown hr hlocks hw hsz hA hG hK hP0 hS0 hl0; unfold srt; grind)
          · refine lv_iconst (v := 3) hx hb dX4_sortOf_40 (by decide) ?_
            refine lv_goto (tgt := 45) hx hb dX4_sortOf_41 (by decide) ?_
            exact rd_i hx hb hr hlocks hS0 dX4_sortOf_45 (by clear hx hb hml hown hr hlocks hw hsz hA hG hK hP0 hS0 hl0; unfold srt; grind)
        · refine lv_iconst (v := 2) hx hb dX4_sortOf_32 (by decide) ?_
          exact rd_i hx hb hr hlocks hS0 dX4_sortOf_33 (by clear hx hb hml hown hr hlocks hw hsz hA hG hK hP0 hS0 hl0; unfold srt; grind)
    · refine lv_iload_n hx hb dX4_sortOf_12 rfl (lv_at hl0 0 rfl) ?_
      refine lv_bipush (v := 122) hx hb dX4_sortOf_13 (by decide) ?_
      refine lv_icmp_gt (tgt := 20) hx hb dX4_sortOf_15 (by decide) (fun c_15 => ?_) (fun c_15 => ?_)
      · refine lv_iload_n hx hb dX4_sortOf_20 rfl (lv_at hl0 0 rfl) ?_
        refine lv_bipush (v := 48) hx hb dX4_sortOf_21 (by decide) ?_
        refine lv_icmp_lt (tgt := 34) hx hb dX4_sortOf_23 (by decide) (fun c_23 => ?_) (fun c_23 => ?_)
        · refine lv_iload_n hx hb dX4_sortOf_34 rfl (lv_at hl0 0 rfl) ?_
          refine lv_bipush (v := 44) hx hb dX4_sortOf_35 (by decide) ?_
          refine lv_icmp_ne (tgt := 44) hx hb dX4_sortOf_37 (by decide) (fun c_37 => ?_) (fun c_37 => ?_)
          · refine lv_iconst (v := 4) hx hb dX4_sortOf_44 (by decide) ?_
            exact rd_i hx hb hr hlocks hS0 dX4_sortOf_45 (by clear hx hb hml hown hr hlocks hw hsz hA hG hK hP0 hS0 hl0; unfold srt; grind)
          · refine lv_iconst (v := 3) hx hb dX4_sortOf_40 (by decide) ?_
            refine lv_goto (tgt := 45) hx hb dX4_sortOf_41 (by decide) ?_
            exact rd_i hx hb hr hlocks hS0 dX4_sortOf_45 (by clear hx hb hml hown hr hlocks hw hsz hA hG hK hP0 hS0 hl0; unfold srt; grind)
        · refine lv_iload_n hx hb dX4_sortOf_26 rfl (lv_at hl0 0 rfl) ?_
          refine lv_bipush (v := 57) hx hb dX4_sortOf_27 (by decide) ?_
          refine lv_icmp_gt (tgt := 34) hx hb dX4_sortOf_29 (by decide) (fun c_29 => ?_) (fun c_29 => ?_)
          · refine lv_iload_n hx hb dX4_sortOf_34 rfl (lv_at hl0 0 rfl) ?_
            refine lv_bipush (v := 44) hx hb dX4_sortOf_35 (by decide) ?_
            refine lv_icmp_ne (tgt := 44) hx hb dX4_sortOf_37 (by decide) (fun c_37 => ?_) (fun c_37 => ?_)
            · refine lv_iconst (v := 4) hx hb dX4_sortOf_44 (by decide) ?_
              exact rd_i hx hb hr hlocks hS0 dX4_sortOf_45 (by clear hx hb hml hown hr hlocks hw hsz hA hG hK hP0 hS0 hl0; unfold srt; grind)
            · refine lv_iconst (v := 3) hx hb dX4_sortOf_40 (by decide) ?_
              refine lv_goto (tgt := 45) hx hb dX4_sortOf_41 (by decide) ?_
              exact rd_i hx hb hr hlocks hS0 dX4_sortOf_45 (by clear hx hb hml hown hr hlocks hw hsz hA hG hK hP0 hS0 hl0; unfold srt; grind)
          · refine lv_iconst (v := 2) hx hb dX4_sortOf_32 (by decide) ?_
            exact rd_i hx hb hr hlocks hS0 dX4_sortOf_33 (by clear hx hb hml hown hr hlocks hw hsz hA hG hK hP0 hS0 hl0; unfold srt; grind)
      · refine lv_iconst (v := 1) hx hb dX4_sortOf_18 (by decide) ?_
        exact rd_i hx hb hr hlocks hS0 dX4_sortOf_19 (by clear hx hb hml hown hr hlocks hw hsz hA hG hK hP0 hS0 hl0; unfold srt; grind)
  · refine lv_iconst (v := 0) hx hb dX4_sortOf_4 (by decide) ?_
    exact rd_i hx hb hr hlocks hS0 dX4_sortOf_5 (by clear hx hb hml hown hr hlocks hw hsz hA hG hK hP0 hS0 hl0; unfold srt; grind)

theorem kc_X4_nextToken : kV yX4_nextToken cX4_nextToken 2 none 0 := ⟨kw_2_169, kw_s_3, kw_1_5, kw_2_170, by decide, by decide, by decide +kernel⟩
set_option maxHeartbeats 4000000 in
set_option maxRecDepth 100000 in
theorem c_X4_nextToken (l : Launch) (D : va_G) (cy : Nat → ClassId) (G : Nat → Nat) (sz : Nat) (ee : Nat → Nat) (n : Nat) (T : Nat → Int32) (sa : Int32) (tk : Int32) (va : Int32) (e1 : Nat) (hn : n ≤ 120) (he : e1 ≤ n) (htp : tpOk T n) : Met l yX4_nextToken (wm yX4_nextToken cX4_nextToken 2 none) { frames := 1, cells := 0, slots := 0, locals := 21 } (va_Pc [.ref (ee 0)] (pr D (TY cy) G ([eO cy ee sa (nI e1) tk va, pO cy ee (nI n), ia cy (ee 2) 120 T]) sz)) (va_Qv (fun (u : Int32) => tkn T n (skp T n e1) = 2 → u = nI (numV T n (skp T n e1))) (fun (u : Int32) t => po D (va_A ([eO cy ee sa (nI e1) tk va, pO cy ee (nI n), ia cy (ee 2) 120 T]) sz) ([eO cy ee (nI (skp T n e1)) (nI (te T n (skp T n e1))) (tkn T n (skp T n e1)) u, pO cy ee (nI n), ia cy (ee 2) 120 T]) t) (va_A ([eO cy ee sa (nI e1) tk va, pO cy ee (nI n), ia cy (ee 2) 120 T]) sz)) 0 0 (va_A ([eO cy ee sa (nI e1) tk va, pO cy ee (nI n), ia cy (ee 2) 120 T]) sz) := by
  refine mk_rw (by decide) RX4 rfl (Nat.le_of_ble_eq_true rfl) [(0, .ref (ee 0))] rfl ?_
  intro p e s m below meth c hx hb hml hown hr hlocks hin hw hsz hA hG hK H0 locs0 hP0 hD0 hS0 ls0 hl0
  clear hin
  have hskb := skp_b (T := T) he
  refine wlp (ι := Nat) (nL := 2) (fun x9 => (e1 ≤ x9) ∧ (x9 ≤ n) ∧ (∀ j, e1 ≤ j → j < x9 → bt T n j = 32)) (fun x9 => [eO cy ee sa (nI x9) tk va, pO cy ee (nI n), ia cy (ee 2) 120 T]) (fun x9 => [(0, .ref (ee 0))]) (fun x9 => []) (fun x9 => n - x9) 0 ?_ e1 (⟨Nat.le_refl _, he, fun j9 a9 b9 => absurd b9 (by omega)⟩) rfl hP0 hD0 hS0 (lv_sub hl0 [0] rfl)
  clear hP0 hD0 hS0 locs0 H0 hl0 ls0
  intro x9 hI ih_0 H1 locs1 ls1 hP1 hD1 hS1 hl1
  obtain ⟨k, rfl⟩ : ∃ z9, z9 = x9 := ⟨_, rfl⟩
  obtain ⟨h1, h2, hall⟩ := hI
  replace h1 : e1 ≤ k := h1
  replace h2 : k ≤ n := h2
  replace hall : ∀ j, e1 ≤ j → j < k → bt T n j = 32 := hall
  replace hP1 : va_P D vwCl ([eO cy ee sa (nI k) tk va, pO cy ee (nI n), ia cy (ee 2) 120 T]) H1 := hP1
  replace hD1 : va_D (va_A _ sz) ([eO cy ee sa (nI k) tk va, pO cy ee (nI n), ia cy (ee 2) 120 T]) := hD1
  replace hl1 : lv_has ls1 2 [(0, .ref (ee 0))] := hl1
  show W p l e _ s m _ below meth c _ _ _ _ _ (F0 m 0 ls1 [])
  refine lv_aload_n hx hb dX4_nextToken_0 rfl (lv_at hl1 0 rfl) ?_
  refine va_get (D := D) (ci := 4) (v := .int (nI k)) (C := RX4) (T := TX4) (N := 5) hx hb hw iX4 hown hK hP1 0 rfl rfl 2 (by decide) (hw _ kw_1_232) (fun _ h9 => h9) rfl dX4_nextToken_1 ?_
  refine wjn (ι := Unit) (A := (va_A ([eO cy ee sa (nI e1) tk va, pO cy ee (nI n), ia cy (ee 2) 120 T]) sz)) (nL := 2) (D := D) (fun x9 => True) (fun x9 => [eO cy ee sa (nI (skp T n e1)) tk va, pO cy ee (nI n), ia cy (ee 2) 120 T]) (fun x9 => [(0, .ref (ee 0))]) (fun x9 => []) 43 ?_ (fun J_43 => ?_)
  · intro x9 hI H2 locs2 ls2 hP2 hD2 hS2 hl2
    replace hP2 : va_P D vwCl ([eO cy ee sa (nI (skp T n e1)) tk va, pO cy ee (nI n), ia cy (ee 2) 120 T]) H2 := hP2
    replace hD2 : va_D (va_A _ sz) ([eO cy ee sa (nI (skp T n e1)) tk va, pO cy ee (nI n), ia cy (ee 2) 120 T]) := hD2
    replace hl2 : lv_has ls2 2 [(0, .ref (ee 0))] := hl2
    show W p l e _ s m _ below meth c _ _ _ _ _ (F0 m 43 ls2 [])
    refine lv_aload_n hx hb dX4_nextToken_43 rfl (lv_at hl2 0 rfl) ?_
    refine lv_aload_n hx hb dX4_nextToken_44 rfl (lv_at hl2 0 rfl) ?_
    refine va_get (D := D) (ci := 4) (v := .int (nI (skp T n e1))) (C := RX4) (T := TX4) (N := 5) hx hb hw iX4 hown hK hP2 0 rfl rfl 2 (by decide) (hw _ kw_1_232) (fun _ h9 => h9) rfl dX4_nextToken_45 ?_
    refine pt (D := D) (ci := 4) (v := .int (nI (skp T n e1))) (ty := .int) (C := RX4) (T := TX4) (N := 5) (ws' := [eO cy ee (nI (skp T n e1)) (nI (skp T n e1)) tk va, pO cy ee (nI n), ia cy (ee 2) 120 T]) hx hb hw iX4 tyX4 tyX4_ok nmX4 hown hK hP2 hD2 hS2 0 rfl rfl 1 (by decide) kw_1_230 (fun _ h9 => h9) rfl (by decide +kernel) rfl rfl (Nat.le_of_ble_eq_true rfl) rfl dX4_nextToken_48 (fun H3 locs3 hP3 hD3 hS3 => ?_)
    clear hP2 hD2 hS2 locs2 H2
    refine lv_aload_n hx hb dX4_nextToken_51 rfl (lv_at hl2 0 rfl) ?_
    refine lv_aload_n hx hb dX4_nextToken_52 rfl (lv_at hl2 0 rfl) ?_
    refine va_get (D := D) (ci := 4) (v := .ref (ee 1)) (C := RX4) (T := TX4) (N := 5) hx hb hw iX4 hown hK hP3 0 rfl rfl 0 (by decide) (hw _ kw_1_228) (fun _ h9 => h9) rfl dX4_nextToken_53 ?_
    refine lv_aload_n hx hb dX4_nextToken_56 rfl (lv_at hl2 0 rfl) ?_
    refine va_get (D := D) (ci := 4) (v := .int (nI (skp T n e1))) (C := RX4) (T := TX4) (N := 5) hx hb hw iX4 hown hK hP3 0 rfl rfl 1 (by decide) (hw _ kw_1_230) (fun _ h9 => h9) rfl dX4_nextToken_57 ?_
    refine rV_i (wc := [pO cy ee (nI n), ia cy (ee 2) 120 T]) (rest := [.ref (ee 0)]) hx hb hml hown hw hG hK hP3 hS3 hA hl2 kc_X3_at kw_2_171 [.int (nI (skp T n e1))] (c_X3_at l D cy G H3.size ee n T (skp T n e1) (by first | omega | assumption) (by first | omega | assumption)) [1, 2] rfl 0 rfl rfl rfl rfl rfl (Nat.le_of_ble_eq_true rfl) ⟨Nat.le_of_ble_eq_true rfl, Nat.le_of_ble_eq_true rfl⟩ dX4_nextToken_60 ⟨Nat.le_of_ble_eq_true rfl, Nat.le_of_ble_eq_true rfl⟩ (fun r_60 H4 locs4 hr_60 hP4 hS4 => ?_)
    have hD4 := hD3
    clear hP3 hD3 hS3 locs3 H3
    subst hr_60
    refine rT_i (wc := []) (rest := [.ref (ee 0)]) hx hb hml hown hw hG hK hP4 hS4 hA hl2 kc_X4_sortOf kw_2_175 [.int (bt T n (skp T n e1))] (c_X4_sortOf l D cy G H4.size (bt T n (skp T n e1))) [] rfl rfl rfl (Nat.le_of_ble_eq_true rfl) ⟨Nat.le_of_ble_eq_true rfl, Nat.le_of_ble_eq_true rfl⟩ dX4_nextToken_63 ⟨Nat.le_of_ble_eq_true rfl, Nat.le_of_ble_eq_true rfl⟩ (fun r_63 H5 locs5 hr_63 hP5 hS5 => ?_)
    have hD5 := hD4
    clear hP4 hD4 hS4 locs4 H4
    subst hr_63
    refine tp (show (srt (bt T n (skp T n e1))) = tkn T n (skp T n e1) from srt_k htp _) ?_
    refine pt (D := D) (ci := 4) (v := .int (tkn T n (skp T n e1))) (ty := .int) (C := RX4) (T := TX4) (N := 5) (ws' := [eO cy ee (nI (skp T n e1)) (nI (skp T n e1)) (tkn T n (skp T n e1)) va, pO cy ee (nI n), ia cy (ee 2) 120 T]) hx hb hw iX4 tyX4 tyX4_ok nmX4 hown hK hP5 hD5 hS5 0 rfl rfl 3 (by decide) kw_1_233 (fun _ h9 => h9) rfl (by decide +kernel) rfl rfl (Nat.le_of_ble_eq_true rfl) rfl dX4_nextToken_66 (fun H6 locs6 hP6 hD6 hS6 => ?_)
    clear hP5 hD5 hS5 locs5 H5
    refine lv_aload_n hx hb dX4_nextToken_69 rfl (lv_at hl2 0 rfl) ?_
    refine lv_iconst (v := 0) hx hb dX4_nextToken_70 (by decide) ?_
    refine pt (D := D) (ci := 4) (v := .int 0) (ty := .int) (C := RX4) (T := TX4) (N := 5) (ws' := [eO cy ee (nI (skp T n e1)) (nI (skp T n e1)) (tkn T n (skp T n e1)) 0, pO cy ee (nI n), ia cy (ee 2) 120 T]) hx hb hw iX4 tyX4 tyX4_ok nmX4 hown hK hP6 hD6 hS6 0 rfl rfl 4 (by decide) kw_1_234 (fun _ h9 => h9) rfl (by decide +kernel) rfl rfl (Nat.le_of_ble_eq_true rfl) rfl dX4_nextToken_71 (fun H7 locs7 hP7 hD7 hS7 => ?_)
    clear hP6 hD6 hS6 locs6 H6
    refine wjn (ι := Unit) (A := (va_A ([eO cy ee sa (nI e1) tk va, pO cy ee (nI n), ia cy (ee 2) 120 T]) sz)) (nL := 2) (D := D) (fun x9 => True) (fun x9 => [eO cy ee (nI (skp T n e1)) (nI (skp T n e1)) (tkn T n (skp T n e1)) 0, pO cy ee (nI n), ia cy (ee 2) 120 T]) (fun x9 => [(0, .ref (ee 0))]) (fun x9 => [.int (b2i (gon T n (skp T n e1) 0 = true))]) 86 ?_ (fun J_86 => ?_)
    · intro x9 hI H8 locs8 ls3 hP8 hD8 hS8 hl3
      replace hP8 : va_P D vwCl ([eO cy ee (nI (skp T n e1)) (nI (skp T n e1)) (tkn T n (skp T n e1)) 0, pO cy ee (nI n), ia cy (ee 2) 120 T]) H8 := hP8
      replace hD8 : va_D (va_A _ sz) ([eO cy ee (nI (skp T n e1)) (nI (skp T n e1)) (tkn T n (skp T n e1)) 0, pO cy ee (nI n), ia cy (ee 2) 120 T]) := hD8
      replace hl3 : lv_has ls3 2 [(0, .ref (ee 0))] := hl3
      show W p l e _ s m _ below meth c _ _ _ _ _ (F0 m 86 ls3 [.int (b2i (gon T n (skp T n e1) 0 = true))])
      refine lv_istore_n (lv' := [(1, .int (b2i (gon T n (skp T n e1) 0 = true))), (0, .ref (ee 0))]) hx hb dX4_nextToken_86 rfl hl3 (by decide) rfl (fun ls4 hl4 => ?_)
      clear hl3 ls3
      have hq9 : ([eO cy ee (nI (skp T n e1)) (nI (skp T n e1)) (tkn T n (skp T n e1)) 0, pO cy ee (nI n), ia cy (ee 2) 120 T]) = ([eO cy ee (nI (skp T n e1)) (nI (skp T n e1 + 0)) (tkn T n (skp T n e1)) 0, pO cy ee (nI n), ia cy (ee 2) 120 T]) := congrArg (fun z9 => [eO cy ee (nI (skp T n e1)) z9 (tkn T n (skp T n e1)) 0, pO cy ee (nI n), ia cy (ee 2) 120 T]) (show (nI (skp T n e1)) = (nI (skp T n e1 + 0)) from rfl)
      replace hP8 := (congrArg (fun z9 => va_P D vwCl z9 _) hq9).mp hP8
      replace hD8 := (congrArg (fun z9 => va_D _ z9) hq9).mp hD8
      clear hq9
      have hq9 : ([eO cy ee (nI (skp T n e1)) (nI (skp T n e1 + 0)) (tkn T n (skp T n e1)) 0, pO cy ee (nI n), ia cy (ee 2) 120 T]) = ([eO cy ee (nI (skp T n e1)) (nI (skp T n e1 + 0)) (tkn T n (skp T n e1)) (if tkn T n (skp T n e1) = 2 then nI (nvC T (skp T n e1) 0) else 0), pO cy ee (nI n), ia cy (ee 2) 120 T]) := congrArg (fun z9 => [eO cy ee (nI (skp T n e1)) (nI (skp T n e1 + 0)) (tkn T n (skp T n e1)) z9, pO cy ee (nI n), ia cy (ee 2) 120 T]) (show 0 = (if tkn T n (skp T n e1) = 2 then nI (nvC T (skp T n e1) 0) else 0) from by split <;> rfl)
      replace hP8 := (congrArg (fun z9 => va_P D vwCl z9 _) hq9).mp hP8
      replace hD8 := (congrArg (fun z9 => va_D _ z9) hq9).mp hD8
      clear hq9
      refine wlp (ι := Nat) (nL := 2) (fun x9 => (skp T n e1 + x9 ≤ n) ∧ (∀ j, skp T n e1 ≤ j → j < skp T n e1 + x9 → tkn T n j = tkn T n (skp T n e1)) ∧ (x9 ≤ 1 ∨ tkn T n (skp T n e1) = 1 ∨ tkn T n (skp T n e1) = 2)) (fun x9 => [eO cy ee (nI (skp T n e1)) (nI (skp T n e1 + x9)) (tkn T n (skp T n e1)) (if tkn T n (skp T n e1) = 2 then nI (nvC T (skp T n e1) x9) else 0), pO cy ee (nI n), ia cy (ee 2) 120 T]) (fun x9 => [(1, .int (b2i (gon T n (skp T n e1) x9 = true))), (0, .ref (ee 0))]) (fun x9 => []) (fun x9 => n - (skp T n e1 + x9)) 87 ?_ 0 (⟨hskb.2, fun j9 a9 b9 => absurd b9 (by (try dsimp only); omega), Or.inl (Nat.zero_le _)⟩) rfl hP8 hD8 hS8 (lv_sub hl4 [0, 1] rfl)
      clear hP8 hD8 hS8 locs8 H8 hl4 ls4
      intro x9 hI ih_87 H9 locs9 ls5 hP9 hD9 hS9 hl5
      obtain ⟨i, rfl⟩ : ∃ z9, z9 = x9 := ⟨_, rfl⟩
      obtain ⟨h2, hm, hone⟩ := hI
      replace h2 : skp T n e1 + i ≤ n := h2
      replace hm : ∀ j, skp T n e1 ≤ j → j < skp T n e1 + i → tkn T n j = tkn T n (skp T n e1) := hm
      replace hone : i ≤ 1 ∨ tkn T n (skp T n e1) = 1 ∨ tkn T n (skp T n e1) = 2 := hone
      replace hP9 : va_P D vwCl ([eO cy ee (nI (skp T n e1)) (nI (skp T n e1 + i)) (tkn T n (skp T n e1)) (if tkn T n (skp T n e1) = 2 then nI (nvC T (skp T n e1) i) else 0), pO cy ee (nI n), ia cy (ee 2) 120 T]) H9 := hP9
      replace hD9 : va_D (va_A _ sz) ([eO cy ee (nI (skp T n e1)) (nI (skp T n e1 + i)) (tkn T n (skp T n e1)) (if tkn T n (skp T n e1) = 2 then nI (nvC T (skp T n e1) i) else 0), pO cy ee (nI n), ia cy (ee 2) 120 T]) := hD9
      replace hl5 : lv_has ls5 2 [(1, .int (b2i (gon T n (skp T n e1) i = true))), (0, .ref (ee 0))] := hl5
      show W p l e _ s m _ below meth c _ _ _ _ _ (F0 m 87 ls5 [])
      refine lv_iload_n hx hb dX4_nextToken_87 rfl (lv_at hl5 0 rfl) ?_
      refine lb_eq (tgt := 201) hx hb dX4_nextToken_88 (by decide) (fun c_88 => ?_) (fun c_88 => ?_)
      · have hte := te_go h2 hm hone (Or.inr c_88)
        have hq9 : ([eO cy ee (nI (skp T n e1)) (nI (skp T n e1 + i)) (tkn T n (skp T n e1)) (if tkn T n (skp T n e1) = 2 then nI (nvC T (skp T n e1) i) else 0), pO cy ee (nI n), ia cy (ee 2) 120 T]) = ([eO cy ee (nI (skp T n e1)) (nI (te T n (skp T n e1))) (tkn T n (skp T n e1)) (if tkn T n (skp T n e1) = 2 then nI (nvC T (skp T n e1) i) else 0), pO cy ee (nI n), ia cy (ee 2) 120 T]) := congrArg (fun z9 => [eO cy ee (nI (skp T n e1)) z9 (tkn T n (skp T n e1)) (if tkn T n (skp T n e1) = 2 then nI (nvC T (skp T n e1) i) else 0), pO cy ee (nI n), ia cy (ee 2) 120 T]) (show (nI (skp T n e1 + i)) = (nI (te T n (skp T n e1))) from by rw [hte])
        replace hP9 := (congrArg (fun z9 => va_P D vwCl z9 _) hq9).mp hP9
        replace hD9 := (congrArg (fun z9 => va_D _ z9) hq9).mp hD9
        clear hq9
        refine re_v (if tkn T n (skp T n e1) = 2 then nI (nvC T (skp T n e1) i) else 0) hx hb hr hlocks hP9 hD9 hS9 dX4_nextToken_201 ?_
        exact (fun z9 => by rw [if_pos z9]; unfold numV; rw [hte, Nat.add_sub_cancel_left])
      · refine lv_aload_n hx hb dX4_nextToken_91 rfl (lv_at hl5 1 rfl) ?_
        refine va_get (D := D) (ci := 4) (v := .int (nI (skp T n e1 + i))) (C := RX4) (T := TX4) (N := 5) hx hb hw iX4 hown hK hP9 0 rfl rfl 2 (by decide) (hw _ kw_1_232) (fun _ h9 => h9) rfl dX4_nextToken_92 ?_
        refine lv_aload_n hx hb dX4_nextToken_95 rfl (lv_at hl5 1 rfl) ?_
        refine va_get (D := D) (ci := 4) (v := .ref (ee 1)) (C := RX4) (T := TX4) (N := 5) hx hb hw iX4 hown hK hP9 0 rfl rfl 0 (by decide) (hw _ kw_1_228) (fun _ h9 => h9) rfl dX4_nextToken_96 ?_
        refine va_get (D := D) (ci := 3) (v := .int (nI n)) (C := RX3) (T := TX3) (N := 2) hx hb hw iX3 hown hK hP9 1 rfl rfl 1 (by decide) (hw _ kw_1_222) (fun _ h9 => h9) rfl dX4_nextToken_99 ?_
        refine ln_ge (tgt := 201) (skp T n e1 + i) n rfl rfl (by omega) (by omega) hx hb dX4_nextToken_102 (by decide) (fun c_102 => ?_) (fun c_102 => ?_)
        · have hte := te_go h2 hm hone (Or.inl c_102)
          have hq9 : ([eO cy ee (nI (skp T n e1)) (nI (skp T n e1 + i)) (tkn T n (skp T n e1)) (if tkn T n (skp T n e1) = 2 then nI (nvC T (skp T n e1) i) else 0), pO cy ee (nI n), ia cy (ee 2) 120 T]) = ([eO cy ee (nI (skp T n e1)) (nI (te T n (skp T n e1))) (tkn T n (skp T n e1)) (if tkn T n (skp T n e1) = 2 then nI (nvC T (skp T n e1) i) else 0), pO cy ee (nI n), ia cy (ee 2) 120 T]) := congrArg (fun z9 => [eO cy ee (nI (skp T n e1)) z9 (tkn T n (skp T n e1)) (if tkn T n (skp T n e1) = 2 then nI (nvC T (skp T n e1) i) else 0), pO cy ee (nI n), ia cy (ee 2) 120 T]) (show (nI (skp T n e1 + i)) = (nI (te T n (skp T n e1))) from by rw [hte])
          replace hP9 := (congrArg (fun z9 => va_P D vwCl z9 _) hq9).mp hP9
          replace hD9 := (congrArg (fun z9 => va_D _ z9) hq9).mp hD9
          clear hq9
          refine re_v (if tkn T n (skp T n e1) = 2 then nI (nvC T (skp T n e1) i) else 0) hx hb hr hlocks hP9 hD9 hS9 dX4_nextToken_201 ?_
          exact (fun z9 => by rw [if_pos z9]; unfold numV; rw [hte, Nat.add_sub_cancel_left])
        · refine wjn (ι := Unit) (A := (va_A ([eO cy ee sa (nI e1) tk va, pO cy ee (nI n), ia cy (ee 2) 120 T]) sz)) (nL := 2) (D := D) (fun x9 => True) (fun x9 => [eO cy ee (nI (skp T n e1)) (nI (skp T n e1 + i)) (tkn T n (skp T n e1)) (if tkn T n (skp T n e1) = 2 then nI (nvC T (skp T n e1) (i + 1)) else 0), pO cy ee (nI n), ia cy (ee 2) 120 T]) (fun x9 => [(1, .int (b2i (gon T n (skp T n e1) i = true))), (0, .ref (ee 0))]) (fun x9 => []) 145 ?_ (fun J_145 => ?_)
          · intro x9 hI H10 locs10 ls6 hP10 hD10 hS10 hl6
            replace hP10 : va_P D vwCl ([eO cy ee (nI (skp T n e1)) (nI (skp T n e1 + i)) (tkn T n (skp T n e1)) (if tkn T n (skp T n e1) = 2 then nI (nvC T (skp T n e1) (i + 1)) else 0), pO cy ee (nI n), ia cy (ee 2) 120 T]) H10 := hP10
            replace hD10 : va_D (va_A _ sz) ([eO cy ee (nI (skp T n e1)) (nI (skp T n e1 + i)) (tkn T n (skp T n e1)) (if tkn T n (skp T n e1) = 2 then nI (nvC T (skp T n e1) (i + 1)) else 0), pO cy ee (nI n), ia cy (ee 2) 120 T]) := hD10
            replace hl6 : lv_has ls6 2 [(1, .int (b2i (gon T n (skp T n e1) i = true))), (0, .ref (ee 0))] := hl6
            show W p l e _ s m _ below meth c _ _ _ _ _ (F0 m 145 ls6 [])
            refine lv_aload_n hx hb dX4_nextToken_145 rfl (lv_at hl6 1 rfl) ?_
            refine lv_dup hx hb dX4_nextToken_146 rfl ?_
            refine va_get (D := D) (ci := 4) (v := .int (nI (skp T n e1 + i))) (C := RX4) (T := TX4) (N := 5) hx hb hw iX4 hown hK hP10 0 rfl rfl 2 (by decide) (hw _ kw_1_232) (fun _ h9 => h9) rfl dX4_nextToken_147 ?_
            refine lv_iconst (v := 1) hx hb dX4_nextToken_150 (by decide) ?_
            refine lv_iadd hx hb dX4_nextToken_151 ?_
            refine tp (show ((nI (skp T n e1 + i)) + 1) = nI (skp T n e1 + i + 1) from nI_add _ _) ?_
            refine pt (D := D) (ci := 4) (v := .int (nI (skp T n e1 + i + 1))) (ty := .int) (C := RX4) (T := TX4) (N := 5) (ws' := [eO cy ee (nI (skp T n e1)) (nI (skp T n e1 + i + 1)) (tkn T n (skp T n e1)) (if tkn T n (skp T n e1) = 2 then nI (nvC T (skp T n e1) (i + 1)) else 0), pO cy ee (nI n), ia cy (ee 2) 120 T]) hx hb hw iX4 tyX4 tyX4_ok nmX4 hown hK hP10 hD10 hS10 0 rfl rfl 2 (by decide) kw_1_232 (fun _ h9 => h9) rfl (by decide +kernel) rfl rfl (Nat.le_of_ble_eq_true rfl) rfl dX4_nextToken_152 (fun H11 locs11 hP11 hD11 hS11 => ?_)
            clear hP10 hD10 hS10 locs10 H10
            have hq9 : ([eO cy ee (nI (skp T n e1)) (nI (skp T n e1 + i + 1)) (tkn T n (skp T n e1)) (if tkn T n (skp T n e1) = 2 then nI (nvC T (skp T n e1) (i + 1)) else 0), pO cy ee (nI n), ia cy (ee 2) 120 T]) = ([eO cy ee (nI (skp T n e1)) (nI (skp T n e1 + (i + 1))) (tkn T n (skp T n e1)) (if tkn T n (skp T n e1) = 2 then nI (nvC T (skp T n e1) (i + 1)) else 0), pO cy ee (nI n), ia cy (ee 2) 120 T]) := congrArg (fun z9 => [eO cy ee (nI (skp T n e1)) z9 (tkn T n (skp T n e1)) (if tkn T n (skp T n e1) = 2 then nI (nvC T (skp T n e1) (i + 1)) else 0), pO cy ee (nI n), ia cy (ee 2) 120 T]) (show (nI (skp T n e1 + i + 1)) = (nI (skp T n e1 + (i + 1))) from rfl)
            replace hP11 := (congrArg (fun z9 => va_P D vwCl z9 _) hq9).mp hP11
            replace hD11 := (congrArg (fun z9 => va_D _ z9) hq9).mp hD11
            clear hq9
            refine wjn (ι := Unit) (A := (va_A ([eO cy ee sa (nI e1) tk va, pO cy ee (nI n), ia cy (ee 2) 120 T]) sz)) (nL := 2) (D := D) (fun x9 => True) (fun x9 => [eO cy ee (nI (skp T n e1)) (nI (skp T n e1 + (i + 1))) (tkn T n (skp T n e1)) (if tkn T n (skp T n e1) = 2 then nI (nvC T (skp T n e1) (i + 1)) else 0), pO cy ee (nI n), ia cy (ee 2) 120 T]) (fun x9 => [(1, .int (b2i (gon T n (skp T n e1) i = true))), (0, .ref (ee 0))]) (fun x9 => [.int (b2i (gon T n (skp T n e1) (i + 1) = true))]) 197 ?_ (fun J_197 => ?_)
            · intro x9 hI H12 locs12 ls7 hP12 hD12 hS12 hl7
              replace hP12 : va_P D vwCl ([eO cy ee (nI (skp T n e1)) (nI (skp T n e1 + (i + 1))) (tkn T n (skp T n e1)) (if tkn T n (skp T n e1) = 2 then nI (nvC T (skp T n e1) (i + 1)) else 0), pO cy ee (nI n), ia cy (ee 2) 120 T]) H12 := hP12
              replace hD12 : va_D (va_A _ sz) ([eO cy ee (nI (skp T n e1)) (nI (skp T n e1 + (i + 1))) (tkn T n (skp T n e1)) (if tkn T n (skp T n e1) = 2 then nI (nvC T (skp T n e1) (i + 1)) else 0), pO cy ee (nI n), ia cy (ee 2) 120 T]) := hD12
              replace hl7 : lv_has ls7 2 [(1, .int (b2i (gon T n (skp T n e1) i = true))), (0, .ref (ee 0))] := hl7
              show W p l e _ s m _ below meth c _ _ _ _ _ (F0 m 197 ls7 [.int (b2i (gon T n (skp T n e1) (i + 1) = true))])
              refine lv_istore_n (lv' := [(1, .int (b2i (gon T n (skp T n e1) (i + 1) = true))), (0, .ref (ee 0))]) hx hb dX4_nextToken_197 rfl hl7 (by decide) rfl (fun ls8 hl8 => ?_)
              clear hl7 ls7
              refine lv_goto (tgt := 87) hx hb dX4_nextToken_198 (by decide) ?_
              exact ih_87 (i + 1) (⟨(by (try dsimp only); omega), fun j9 a9 b9 => by
                  try dsimp only at b9
                  by_cases e9 : j9 = skp T n e1 + i
                  · subst e9; exact gon_k c_88
                  · exact hm j9 a9 (by omega), (gon_1 c_88).elim (fun z9 => Or.inl (by (try dsimp only); omega)) Or.inr⟩) (by (try dsimp only); omega) H12 locs12 ls8 hP12 hD12 hS12 (lv_sub hl8 [0, 1] rfl)
            refine lv_aload_n hx hb dX4_nextToken_155 rfl (lv_at hl6 1 rfl) ?_
            refine va_get (D := D) (ci := 4) (v := .int (tkn T n (skp T n e1))) (C := RX4) (T := TX4) (N := 5) hx hb hw iX4 hown hK hP11 0 rfl rfl 3 (by decide) (hw _ kw_1_233) (fun _ h9 => h9) rfl dX4_nextToken_156 ?_
            refine lv_iconst (v := 1) hx hb dX4_nextToken_159 (by decide) ?_
            refine lv_icmp_eq (tgt := 171) hx hb dX4_nextToken_160 (by decide) (fun c_160 => ?_) (fun c_160 => ?_)
            · refine lv_aload_n hx hb dX4_nextToken_171 rfl (lv_at hl6 1 rfl) ?_
              refine va_get (D := D) (ci := 4) (v := .ref (ee 1)) (C := RX4) (T := TX4) (N := 5) hx hb hw iX4 hown hK hP11 0 rfl rfl 0 (by decide) (hw _ kw_1_228) (fun _ h9 => h9) rfl dX4_nextToken_172 ?_
              refine lv_aload_n hx hb dX4_nextToken_175 rfl (lv_at hl6 1 rfl) ?_
              refine va_get (D := D) (ci := 4) (v := .int (nI (skp T n e1 + (i + 1)))) (C := RX4) (T := TX4) (N := 5) hx hb hw iX4 hown hK hP11 0 rfl rfl 2 (by decide) (hw _ kw_1_232) (fun _ h9 => h9) rfl dX4_nextToken_176 ?_
              refine rV_i (wc := [pO cy ee (nI n), ia cy (ee 2) 120 T]) (rest := []) hx hb hml hown hw hG hK hP11 hS11 hA hl6 kc_X3_at kw_2_171 [.int (nI (skp T n e1 + (i + 1)))] (c_X3_at l D cy G H11.size ee n T (skp T n e1 + (i + 1)) (by first | omega | assumption) (by first | omega | assumption)) [1, 2] rfl 0 rfl rfl rfl rfl rfl (Nat.le_of_ble_eq_true rfl) ⟨Nat.le_of_ble_eq_true rfl, Nat.le_of_ble_eq_true rfl⟩ dX4_nextToken_179 ⟨Nat.le_of_ble_eq_true rfl, Nat.le_of_ble_eq_true rfl⟩ (fun r_179 H12 locs12 hr_179 hP12 hS12 => ?_)
              have hD12 := hD11
              clear hP11 hD11 hS11 locs11 H11
              subst hr_179
              refine rT_i (wc := []) (rest := []) hx hb hml hown hw hG hK hP12 hS12 hA hl6 kc_X4_sortOf kw_2_175 [.int (bt T n (skp T n e1 + (i + 1)))] (c_X4_sortOf l D cy G H12.size (bt T n (skp T n e1 + (i + 1)))) [] rfl rfl rfl (Nat.le_of_ble_eq_true rfl) ⟨Nat.le_of_ble_eq_true rfl, Nat.le_of_ble_eq_true rfl⟩ dX4_nextToken_182 ⟨Nat.le_of_ble_eq_true rfl, Nat.le_of_ble_eq_true rfl⟩ (fun r_182 H13 locs13 hr_182 hP13 hS13 => ?_)
              have hD13 := hD12
              clear hP12 hD12 hS12 locs12 H12
              subst hr_182
              refine tp (show (srt (bt T n (skp T n e1 + (i + 1)))) = tkn T n (skp T n e1 + (i + 1)) from srt_k htp _) ?_
              refine lv_aload_n hx hb dX4_nextToken_185 rfl (lv_at hl6 1 rfl) ?_
              refine va_get (D := D) (ci := 4) (v := .int (tkn T n (skp T n e1))) (C := RX4) (T := TX4) (N := 5) hx hb hw iX4 hown hK hP13 0 rfl rfl 3 (by decide) (hw _ kw_1_233) (fun _ h9 => h9) rfl dX4_nextToken_186 ?_
              refine lv_icmp_ne (tgt := 196) hx hb dX4_nextToken_189 (by decide) (fun c_189 => ?_) (fun c_189 => ?_)
              · refine lv_iconst (v := 0) hx hb dX4_nextToken_196 (by decide) ?_
                refine tp (show (0) = b2i (gon T n (skp T n e1) (i + 1) = true) from (b2i_f (fun z9 => c_189 (gon_s.mp z9).2)).symm) ?_
                exact J_197 () trivial H13 locs13 ls6 hP13 hD13 hS13 (lv_sub hl6 [0, 1] rfl)
              · refine lv_iconst (v := 1) hx hb dX4_nextToken_192 (by decide) ?_
                refine lv_goto (tgt := 197) hx hb dX4_nextToken_193 (by decide) ?_
                refine tp (show (1) = b2i (gon T n (skp T n e1) (i + 1) = true) from (b2i_t (gon_s.mpr ⟨Or.inl c_160, c_189⟩)).symm) ?_
                exact J_197 () trivial H13 locs13 ls6 hP13 hD13 hS13 (lv_sub hl6 [0, 1] rfl)
            · refine lv_aload_n hx hb dX4_nextToken_163 rfl (lv_at hl6 1 rfl) ?_
              refine va_get (D := D) (ci := 4) (v := .int (tkn T n (skp T n e1))) (C := RX4) (T := TX4) (N := 5) hx hb hw iX4 hown hK hP11 0 rfl rfl 3 (by decide) (hw _ kw_1_233) (fun _ h9 => h9) rfl dX4_nextToken_164 ?_
              refine lv_iconst (v := 2) hx hb dX4_nextToken_167 (by decide) ?_
              refine lv_icmp_ne (tgt := 196) hx hb dX4_nextToken_168 (by decide) (fun c_168 => ?_) (fun c_168 => ?_)
              · refine lv_iconst (v := 0) hx hb dX4_nextToken_196 (by decide) ?_
                refine tp (show (0) = b2i (gon T n (skp T n e1) (i + 1) = true) from (b2i_f (fun z9 => (gon_s.mp z9).1.elim c_160 c_168)).symm) ?_
                exact J_197 () trivial H11 locs11 ls6 hP11 hD11 hS11 (lv_sub hl6 [0, 1] rfl)
              · refine lv_aload_n hx hb dX4_nextToken_171 rfl (lv_at hl6 1 rfl) ?_
                refine va_get (D := D) (ci := 4) (v := .ref (ee 1)) (C := RX4) (T := TX4) (N := 5) hx hb hw iX4 hown hK hP11 0 rfl rfl 0 (by decide) (hw _ kw_1_228) (fun _ h9 => h9) rfl dX4_nextToken_172 ?_
                refine lv_aload_n hx hb dX4_nextToken_175 rfl (lv_at hl6 1 rfl) ?_
                refine va_get (D := D) (ci := 4) (v := .int (nI (skp T n e1 + (i + 1)))) (C := RX4) (T := TX4) (N := 5) hx hb hw iX4 hown hK hP11 0 rfl rfl 2 (by decide) (hw _ kw_1_232) (fun _ h9 => h9) rfl dX4_nextToken_176 ?_
                refine rV_i (wc := [pO cy ee (nI n), ia cy (ee 2) 120 T]) (rest := []) hx hb hml hown hw hG hK hP11 hS11 hA hl6 kc_X3_at kw_2_171 [.int (nI (skp T n e1 + (i + 1)))] (c_X3_at l D cy G H11.size ee n T (skp T n e1 + (i + 1)) (by first | omega | assumption) (by first | omega | assumption)) [1, 2] rfl 0 rfl rfl rfl rfl rfl (Nat.le_of_ble_eq_true rfl) ⟨Nat.le_of_ble_eq_true rfl, Nat.le_of_ble_eq_true rfl⟩ dX4_nextToken_179 ⟨Nat.le_of_ble_eq_true rfl, Nat.le_of_ble_eq_true rfl⟩ (fun r_179 H12 locs12 hr_179 hP12 hS12 => ?_)
                have hD12 := hD11
                clear hP11 hD11 hS11 locs11 H11
                subst hr_179
                refine rT_i (wc := []) (rest := []) hx hb hml hown hw hG hK hP12 hS12 hA hl6 kc_X4_sortOf kw_2_175 [.int (bt T n (skp T n e1 + (i + 1)))] (c_X4_sortOf l D cy G H12.size (bt T n (skp T n e1 + (i + 1)))) [] rfl rfl rfl (Nat.le_of_ble_eq_true rfl) ⟨Nat.le_of_ble_eq_true rfl, Nat.le_of_ble_eq_true rfl⟩ dX4_nextToken_182 ⟨Nat.le_of_ble_eq_true rfl, Nat.le_of_ble_eq_true rfl⟩ (fun r_182 H13 locs13 hr_182 hP13 hS13 => ?_)
                have hD13 := hD12
                clear hP12 hD12 hS12 locs12 H12
                subst hr_182
                refine tp (show (srt (bt T n (skp T n e1 + (i + 1)))) = tkn T n (skp T n e1 + (i + 1)) from srt_k htp _) ?_
                refine lv_aload_n hx hb dX4_nextToken_185 rfl (lv_at hl6 1 rfl) ?_
                refine va_get (D := D) (ci := 4) (v := .int (tkn T n (skp T n e1))) (C := RX4) (T := TX4) (N := 5) hx hb hw iX4 hown hK hP13 0 rfl rfl 3 (by decide) (hw _ kw_1_233) (fun _ h9 => h9) rfl dX4_nextToken_186 ?_
                refine lv_icmp_ne (tgt := 196) hx hb dX4_nextToken_189 (by decide) (fun c_189 => ?_) (fun c_189 => ?_)
                · refine lv_iconst (v := 0) hx hb dX4_nextToken_196 (by decide) ?_
                  refine tp (show (0) = b2i (gon T n (skp T n e1) (i + 1) = true) from (b2i_f (fun z9 => c_189 (gon_s.mp z9).2)).symm) ?_
                  exact J_197 () trivial H13 locs13 ls6 hP13 hD13 hS13 (lv_sub hl6 [0, 1] rfl)
                · refine lv_iconst (v := 1) hx hb dX4_nextToken_192 (by decide) ?_
                  refine lv_goto (tgt := 197) hx hb dX4_nextToken_193 (by decide) ?_
                  refine tp (show (1) = b2i (gon T n (skp T n e1) (i + 1) = true) from (b2i_t (gon_s.mpr ⟨Or.inr c_168, c_189⟩)).symm) ?_
                  exact J_197 () trivial H13 locs13 ls6 hP13 hD13 hS13 (lv_sub hl6 [0, 1] rfl)
          refine lv_aload_n hx hb dX4_nextToken_105 rfl (lv_at hl5 1 rfl) ?_
          refine va_get (D := D) (ci := 4) (v := .int (tkn T n (skp T n e1))) (C := RX4) (T := TX4) (N := 5) hx hb hw iX4 hown hK hP9 0 rfl rfl 3 (by decide) (hw _ kw_1_233) (fun _ h9 => h9) rfl dX4_nextToken_106 ?_
          refine lv_iconst (v := 2) hx hb dX4_nextToken_109 (by decide) ?_
          refine lv_icmp_ne (tgt := 145) hx hb dX4_nextToken_110 (by decide) (fun c_110 => ?_) (fun c_110 => ?_)
          · have hq9 : ([eO cy ee (nI (skp T n e1)) (nI (skp T n e1 + i)) (tkn T n (skp T n e1)) (if tkn T n (skp T n e1) = 2 then nI (nvC T (skp T n e1) i) else 0), pO cy ee (nI n), ia cy (ee 2) 120 T]) = ([eO cy ee (nI (skp T n e1)) (nI (skp T n e1 + i)) (tkn T n (skp T n e1)) (if tkn T n (skp T n e1) = 2 then nI (nvC T (skp T n e1) (i + 1)) else 0), pO cy ee (nI n), ia cy (ee 2) 120 T]) := congrArg (fun z9 => [eO cy ee (nI (skp T n e1)) (nI (skp T n e1 + i)) (tkn T n (skp T n e1)) z9, pO cy ee (nI n), ia cy (ee 2) 120 T]) (show (if tkn T n (skp T n e1) = 2 then nI (nvC T (skp T n e1) i) else 0) = (if tkn T n (skp T n e1) = 2 then nI (nvC T (skp T n e1) (i + 1)) else 0) from (if_neg c_110).trans (if_neg c_110).symm)
            replace hP9 := (congrArg (fun z9 => va_P D vwCl z9 _) hq9).mp hP9
            replace hD9 := (congrArg (fun z9 => va_D _ z9) hq9).mp hD9
            clear hq9
            exact J_145 () trivial H9 locs9 ls5 hP9 hD9 hS9 (lv_sub hl5 [0, 1] rfl)
          · have hd9 : isD (bt T n (skp T n e1 + i)) := tkn_2.mp ((gon_k c_88).trans c_110)
            have hc9 := nvC_le T (skp T n e1) i
            have hl9 := (dg_9 hd9).2.2
            have hq9 : ([eO cy ee (nI (skp T n e1)) (nI (skp T n e1 + i)) (tkn T n (skp T n e1)) (if tkn T n (skp T n e1) = 2 then nI (nvC T (skp T n e1) i) else 0), pO cy ee (nI n), ia cy (ee 2) 120 T]) = ([eO cy ee (nI (skp T n e1)) (nI (skp T n e1 + i)) (tkn T n (skp T n e1)) (nI (nvC T (skp T n e1) i)), pO cy ee (nI n), ia cy (ee 2) 120 T]) := congrArg (fun z9 => [eO cy ee (nI (skp T n e1)) (nI (skp T n e1 + i)) (tkn T n (skp T n e1)) z9, pO cy ee (nI n), ia cy (ee 2) 120 T]) (show (if tkn T n (skp T n e1) = 2 then nI (nvC T (skp T n e1) i) else 0) = (nI (nvC T (skp T n e1) i)) from if_pos c_110)
            replace hP9 := (congrArg (fun z9 => va_P D vwCl z9 _) hq9).mp hP9
            replace hD9 := (congrArg (fun z9 => va_D _ z9) hq9).mp hD9
            clear hq9
            refine lv_aload_n hx hb dX4_nextToken_113 rfl (lv_at hl5 1 rfl) ?_
            refine lv_aload_n hx hb dX4_nextToken_114 rfl (lv_at hl5 1 rfl) ?_
            refine va_get (D := D) (ci := 4) (v := .int (nI (nvC T (skp T n e1) i))) (C := RX4) (T := TX4) (N := 5) hx hb hw iX4 hown hK hP9 0 rfl rfl 4 (by decide) (hw _ kw_1_234) (fun _ h9 => h9) rfl dX4_nextToken_115 ?_
            refine lv_bipush (v := 10) hx hb dX4_nextToken_118 (by decide) ?_
            refine lv_imul hx hb dX4_nextToken_120 ?_
            refine tp (show ((nI (nvC T (skp T n e1) i)) * 10) = nI ((nvC T (skp T n e1) i) * 10) from pk_mul _ _) ?_
            refine lv_aload_n hx hb dX4_nextToken_121 rfl (lv_at hl5 1 rfl) ?_
            refine va_get (D := D) (ci := 4) (v := .ref (ee 1)) (C := RX4) (T := TX4) (N := 5) hx hb hw iX4 hown hK hP9 0 rfl rfl 0 (by decide) (hw _ kw_1_228) (fun _ h9 => h9) rfl dX4_nextToken_122 ?_
            refine lv_aload_n hx hb dX4_nextToken_125 rfl (lv_at hl5 1 rfl) ?_
            refine va_get (D := D) (ci := 4) (v := .int (nI (skp T n e1 + i))) (C := RX4) (T := TX4) (N := 5) hx hb hw iX4 hown hK hP9 0 rfl rfl 2 (by decide) (hw _ kw_1_232) (fun _ h9 => h9) rfl dX4_nextToken_126 ?_
            refine rV_i (wc := [pO cy ee (nI n), ia cy (ee 2) 120 T]) (rest := [.int (nI ((nvC T (skp T n e1) i) * 10)), .ref (ee 0)]) hx hb hml hown hw hG hK hP9 hS9 hA hl5 kc_X3_at kw_2_171 [.int (nI (skp T n e1 + i))] (c_X3_at l D cy G H9.size ee n T (skp T n e1 + i) (by first | omega | assumption) (by first | omega | assumption)) [1, 2] rfl 0 rfl rfl rfl rfl rfl (Nat.le_of_ble_eq_true rfl) ⟨Nat.le_of_ble_eq_true rfl, Nat.le_of_ble_eq_true rfl⟩ dX4_nextToken_129 ⟨Nat.le_of_ble_eq_true rfl, Nat.le_of_ble_eq_true rfl⟩ (fun r_129 H10 locs10 hr_129 hP10 hS10 => ?_)
            have hD10 := hD9
            clear hP9 hD9 hS9 locs9 H9
            subst hr_129
            refine lv_bipush (v := 48) hx hb dX4_nextToken_132 (by decide) ?_
            refine lv_isub hx hb dX4_nextToken_134 ?_
            refine tp (show ((bt T n (skp T n e1 + i)) - 48) = nI (dg T (skp T n e1 + i)) from dg_n hd9) ?_
            refine lv_iadd hx hb dX4_nextToken_135 ?_
            refine tp (show ((nI ((nvC T (skp T n e1) i) * 10)) + (nI (dg T (skp T n e1 + i)))) = nI ((nvC T (skp T n e1) i) * 10 + dg T (skp T n e1 + i)) from nI_add _ _) ?_
            refine lv_sipush (v := 1000) hx hb dX4_nextToken_136 (by decide) ?_
            refine va_mmin hx hb (by rw [hml]; exact hl5.1.symm) hown (hw _ kw_2_178) (hw _ kw_2_179) (hw _ kw_1_10) (hw _ kwm_min) (Nat.le_of_ble_eq_true rfl) (Nat.le_of_ble_eq_true rfl) (Nat.le_of_ble_eq_true rfl) (Nat.le_of_ble_eq_true rfl) dX4_nextToken_139 ?_
            refine tp (show (if 1000 < (nI ((nvC T (skp T n e1) i) * 10 + dg T (skp T n e1 + i))) then 1000 else (nI ((nvC T (skp T n e1) i) * 10 + dg T (skp T n e1 + i)))) = nI (nvC T (skp T n e1) (i + 1)) from nvC_n hl9) ?_
            refine pt (D := D) (ci := 4) (v := .int (nI (nvC T (skp T n e1) (i + 1)))) (ty := .int) (C := RX4) (T := TX4) (N := 5) (ws' := [eO cy ee (nI (skp T n e1)) (nI (skp T n e1 + i)) (tkn T n (skp T n e1)) (nI (nvC T (skp T n e1) (i + 1))), pO cy ee (nI n), ia cy (ee 2) 120 T]) hx hb hw iX4 tyX4 tyX4_ok nmX4 hown hK hP10 hD10 hS10 0 rfl rfl 4 (by decide) kw_1_234 (fun _ h9 => h9) rfl (by decide +kernel) rfl rfl (Nat.le_of_ble_eq_true rfl) rfl dX4_nextToken_142 (fun H11 locs11 hP11 hD11 hS11 => ?_)
            clear hP10 hD10 hS10 locs10 H10
            have hq9 : ([eO cy ee (nI (skp T n e1)) (nI (skp T n e1 + i)) (tkn T n (skp T n e1)) (nI (nvC T (skp T n e1) (i + 1))), pO cy ee (nI n), ia cy (ee 2) 120 T]) = ([eO cy ee (nI (skp T n e1)) (nI (skp T n e1 + i)) (tkn T n (skp T n e1)) (if tkn T n (skp T n e1) = 2 then nI (nvC T (skp T n e1) (i + 1)) else 0), pO cy ee (nI n), ia cy (ee 2) 120 T]) := congrArg (fun z9 => [eO cy ee (nI (skp T n e1)) (nI (skp T n e1 + i)) (tkn T n (skp T n e1)) z9, pO cy ee (nI n), ia cy (ee 2) 120 T]) (show (nI (nvC T (skp T n e1) (i + 1))) = (if tkn T n (skp T n e1) = 2 then nI (nvC T (skp T n e1) (i + 1)) else 0) from (if_pos c_110).symm)
            replace hP11 := (congrArg (fun z9 => va_P D vwCl z9 _) hq9).mp hP11
            replace hD11 := (congrArg (fun z9 => va_D _ z9) hq9).mp hD11
            clear hq9
            exact J_145 () trivial H11 locs11 ls5 hP11 hD11 hS11 (lv_sub hl5 [0, 1] rfl)
    refine lv_aload_n hx hb dX4_nextToken_74 rfl (lv_at hl2 0 rfl) ?_
    refine va_get (D := D) (ci := 4) (v := .int (tkn T n (skp T n e1))) (C := RX4) (T := TX4) (N := 5) hx hb hw iX4 hown hK hP7 0 rfl rfl 3 (by decide) (hw _ kw_1_233) (fun _ h9 => h9) rfl dX4_nextToken_75 ?_
    refine lv_if_eq (tgt := 85) hx hb dX4_nextToken_78 (by decide) (fun c_78 => ?_) (fun c_78 => ?_)
    · refine lv_iconst (v := 0) hx hb dX4_nextToken_85 (by decide) ?_
      refine tp (show (0) = b2i (gon T n (skp T n e1) 0 = true) from (b2i_f (fun z9 => gon_0.mp z9 c_78)).symm) ?_
      exact J_86 () trivial H7 locs7 ls2 hP7 hD7 hS7 (lv_sub hl2 [0] rfl)
    · refine lv_iconst (v := 1) hx hb dX4_nextToken_81 (by decide) ?_
      refine lv_goto (tgt := 86) hx hb dX4_nextToken_82 (by decide) ?_
      refine tp (show (1) = b2i (gon T n (skp T n e1) 0 = true) from (b2i_t (gon_0.mpr c_78)).symm) ?_
      exact J_86 () trivial H7 locs7 ls2 hP7 hD7 hS7 (lv_sub hl2 [0] rfl)
  refine lv_aload_n hx hb dX4_nextToken_4 rfl (lv_at hl1 0 rfl) ?_
  refine va_get (D := D) (ci := 4) (v := .ref (ee 1)) (C := RX4) (T := TX4) (N := 5) hx hb hw iX4 hown hK hP1 0 rfl rfl 0 (by decide) (hw _ kw_1_228) (fun _ h9 => h9) rfl dX4_nextToken_5 ?_
  refine va_get (D := D) (ci := 3) (v := .int (nI n)) (C := RX3) (T := TX3) (N := 2) hx hb hw iX3 hown hK hP1 1 rfl rfl 1 (by decide) (hw _ kw_1_222) (fun _ h9 => h9) rfl dX4_nextToken_8 ?_
  refine ln_ge (tgt := 43) k n rfl rfl (by omega) (by omega) hx hb dX4_nextToken_11 (by decide) (fun c_11 => ?_) (fun c_11 => ?_)
  · have hq9 : ([eO cy ee sa (nI k) tk va, pO cy ee (nI n), ia cy (ee 2) 120 T]) = ([eO cy ee sa (nI (skp T n e1)) tk va, pO cy ee (nI n), ia cy (ee 2) 120 T]) := congrArg (fun z9 => [eO cy ee sa z9 tk va, pO cy ee (nI n), ia cy (ee 2) 120 T]) (show (nI k) = (nI (skp T n e1)) from congrArg nI (skp_eq h1 h2 hall (not32 c_11)).symm)
    replace hP1 := (congrArg (fun z9 => va_P D vwCl z9 _) hq9).mp hP1
    replace hD1 := (congrArg (fun z9 => va_D _ z9) hq9).mp hD1
    clear hq9
    exact J_43 () trivial H1 locs1 ls1 hP1 hD1 hS1 (lv_sub hl1 [0] rfl)
  · refine lv_aload_n hx hb dX4_nextToken_14 rfl (lv_at hl1 0 rfl) ?_
    refine va_get (D := D) (ci := 4) (v := .ref (ee 1)) (C := RX4) (T := TX4) (N := 5) hx hb hw iX4 hown hK hP1 0 rfl rfl 0 (by decide) (hw _ kw_1_228) (fun _ h9 => h9) rfl dX4_nextToken_15 ?_
    refine lv_aload_n hx hb dX4_nextToken_18 rfl (lv_at hl1 0 rfl) ?_
    refine va_get (D := D) (ci := 4) (v := .int (nI k)) (C := RX4) (T := TX4) (N := 5) hx hb hw iX4 hown hK hP1 0 rfl rfl 2 (by decide) (hw _ kw_1_232) (fun _ h9 => h9) rfl dX4_nextToken_19 ?_
    refine rV_i (wc := [pO cy ee (nI n), ia cy (ee 2) 120 T]) (rest := []) hx hb hml hown hw hG hK hP1 hS1 hA hl1 kc_X3_at kw_2_171 [.int (nI k)] (c_X3_at l D cy G H1.size ee n T k (by first | omega | assumption) (by first | omega | assumption)) [1, 2] rfl 0 rfl rfl rfl rfl rfl (Nat.le_of_ble_eq_true rfl) ⟨Nat.le_of_ble_eq_true rfl, Nat.le_of_ble_eq_true rfl⟩ dX4_nextToken_22 ⟨Nat.le_of_ble_eq_true rfl, Nat.le_of_ble_eq_true rfl⟩ (fun r_22 H2 locs2 hr_22 hP2 hS2 => ?_)
    have hD2 := hD1
    clear hP1 hD1 hS1 locs1 H1
    subst hr_22
    refine lv_bipush (v := 32) hx hb dX4_nextToken_25 (by decide) ?_
    refine lv_icmp_ne (tgt := 43) hx hb dX4_nextToken_27 (by decide) (fun c_27 => ?_) (fun c_27 => ?_)
    · have hq9 : ([eO cy ee sa (nI k) tk va, pO cy ee (nI n), ia cy (ee 2) 120 T]) = ([eO cy ee sa (nI (skp T n e1)) tk va, pO cy ee (nI n), ia cy (ee 2) 120 T]) := congrArg (fun z9 => [eO cy ee sa z9 tk va, pO cy ee (nI n), ia cy (ee 2) 120 T]) (show (nI k) = (nI (skp T n e1)) from congrArg nI (skp_eq h1 h2 hall c_27).symm)
      replace hP2 := (congrArg (fun z9 => va_P D vwCl z9 _) hq9).mp hP2
      replace hD2 := (congrArg (fun z9 => va_D _ z9) hq9).mp hD2
      clear hq9
      exact J_43 () trivial H2 locs2 ls1 hP2 hD2 hS2 (lv_sub hl1 [0] rfl)
    · refine lv_aload_n hx hb dX4_nextToken_30 rfl (lv_at hl1 0 rfl) ?_
      refine lv_dup hx hb dX4_nextToken_31 rfl ?_
      refine va_get (D := D) (ci := 4) (v := .int (nI k)) (C := RX4) (T := TX4) (N := 5) hx hb hw iX4 hown hK hP2 0 rfl rfl 2 (by decide) (hw _ kw_1_232) (fun _ h9 => h9) rfl dX4_nextToken_32 ?_
      refine lv_iconst (v := 1) hx hb dX4_nextToken_35 (by decide) ?_
      refine lv_iadd hx hb dX4_nextToken_36 ?_
      refine tp (show ((nI k) + 1) = nI (k + 1) from nI_add _ _) ?_
      refine pt (D := D) (ci := 4) (v := .int (nI (k + 1))) (ty := .int) (C := RX4) (T := TX4) (N := 5) (ws' := [eO cy ee sa (nI (k + 1)) tk va, pO cy ee (nI n), ia cy (ee 2) 120 T]) hx hb hw iX4 tyX4 tyX4_ok nmX4 hown hK hP2 hD2 hS2 0 rfl rfl 2 (by decide) kw_1_232 (fun _ h9 => h9) rfl (by decide +kernel) rfl rfl (Nat.le_of_ble_eq_true rfl) rfl dX4_nextToken_37 (fun H3 locs3 hP3 hD3 hS3 => ?_)
      clear hP2 hD2 hS2 locs2 H2
      refine lv_goto (tgt := 0) hx hb dX4_nextToken_40 (by decide) ?_
      exact ih_0 (k + 1) (⟨(by (try dsimp only); omega), (by (try dsimp only); omega), fun j9 a9 b9 => by
          by_cases e9 : j9 = k
          · subst e9; exact c_27
          · exact hall j9 a9 (by omega)⟩) (by (try dsimp only); omega) H3 locs3 ls1 hP3 hD3 hS3 (lv_sub hl1 [0] rfl)

theorem kc_X4_isWord : kV yX4_isWord cX4_isWord 3 (some .boolean) 1 := ⟨kw_2_188, kw_s_5, kw_1_5, kw_2_189, by decide, by decide, by decide +kernel⟩
set_option maxHeartbeats 4000000 in
set_option maxRecDepth 100000 in
theorem c_X4_isWord (l : Launch) (D : va_G) (cy : Nat → ClassId) (G : Nat → Nat) (sz : Nat) (ee : Nat → Nat) (n : Nat) (T : Nat → Int32) (ps : Nat) (va : Int32) (i : Nat) (hn : n ≤ 120) (hs : ps ≤ n) (hi : i < 14) : Met l yX4_isWord (wm yX4_isWord cX4_isWord 3 (some .boolean)) { frames := 5, cells := 0, slots := 0, locals := 106 } (va_Pc [.ref (ee 0), .ref (G (10 + i))] (pd D (TY cy) G ([eO cy ee (nI ps) (nI (te T n ps)) (tkn T n ps) va, pO cy ee (nI n), ia cy (ee 2) 120 T]) sz)) (va_Qi (fun r (_ : Unit) => r = b2i (isW T n ps i = true)) (fun _ _ => True) (va_A [] sz)) 0 0 (va_A [] sz) := by
  refine mk_rd (by decide) RX4 rfl (Nat.le_of_ble_eq_true rfl) [(0, .ref (ee 0)), (1, .ref (G (10 + i)))] rfl ?_
  intro p e s m below meth c hx hb hml hown hr hlocks hw hsz hA hG hK H0 locs0 hP0 hS0 ls0 hl0
  have hw7 := wn_37 i hi
  have hte := te_b (T := T) hs
  refine lv_aload_n hx hb dX4_isWord_0 rfl (lv_at hl0 0 rfl) ?_
  refine va_get (D := D) (ci := 4) (v := .int (tkn T n ps)) (C := RX4) (T := TX4) (N := 5) hx hb hw iX4 hown hK hP0 0 rfl rfl 3 (by decide) (hw _ kw_1_233) (fun _ h9 => h9) rfl dX4_isWord_1 ?_
  refine lv_iconst (v := 1) hx hb dX4_isWord_4 (by decide) ?_
  refine lv_icmp_ne (tgt := 24) hx hb dX4_isWord_5 (by decide) (fun c_5 => ?_) (fun c_5 => ?_)
  · refine lv_iconst (v := 0) hx hb dX4_isWord_24 (by decide) ?_
    exact rd_z hx hb hr hlocks hS0 dX4_isWord_25 rfl ((b2i_f (fun z9 => c_5 (tkn_1.mpr (isW_L hi z9)))).symm)
  · refine lv_aload_n hx hb dX4_isWord_8 rfl (lv_at hl0 0 rfl) ?_
    refine va_get (D := D) (ci := 4) (v := .int (nI (te T n ps))) (C := RX4) (T := TX4) (N := 5) hx hb hw iX4 hown hK hP0 0 rfl rfl 2 (by decide) (hw _ kw_1_232) (fun _ h9 => h9) rfl dX4_isWord_9 ?_
    refine lv_aload_n hx hb dX4_isWord_12 rfl (lv_at hl0 0 rfl) ?_
    refine va_get (D := D) (ci := 4) (v := .int (nI ps)) (C := RX4) (T := TX4) (N := 5) hx hb hw iX4 hown hK hP0 0 rfl rfl 1 (by decide) (hw _ kw_1_230) (fun _ h9 => h9) rfl dX4_isWord_13 ?_
    refine lv_isub hx hb dX4_isWord_16 ?_
    refine tp (show ((nI (te T n ps)) - (nI ps)) = nI (te T n ps - ps) from pk_sub hte.1) ?_
    refine lv_aload_n hx hb dX4_isWord_17 rfl (lv_at hl0 1 rfl) ?_
    refine rS_i (rest := [.int (nI (te T n ps - ps))]) hx hb hml hown hw hG hK hP0 hS0 hA hl0 kc_J0_length_8abf5 kw_2_190 [] (i := i) hi rfl (c_J0_length_8abf5 l D cy G H0.size i (by first | omega | assumption)) rfl rfl (Nat.le_of_ble_eq_true rfl) ⟨Nat.le_of_ble_eq_true rfl, Nat.le_of_ble_eq_true rfl⟩ dX4_isWord_18 ⟨Nat.le_of_ble_eq_true rfl, Nat.le_of_ble_eq_true rfl⟩ (fun r_18 H1 locs1 hr_18 hP1 hS1 => ?_)
    clear hP0 hS0 locs0 H0
    subst hr_18
    refine ln_eq (tgt := 26) (te T n ps - ps) (wn i) rfl rfl (by omega) (by omega) hx hb dX4_isWord_21 (by decide) (fun c_21 => ?_) (fun c_21 => ?_)
    · refine lv_iconst (v := 0) hx hb dX4_isWord_26 (by decide) ?_
      refine lv_istore_n (lv' := [(2, .int 0), (0, .ref (ee 0)), (1, .ref (G (10 + i)))]) hx hb dX4_isWord_27 rfl hl0 (by decide) rfl (fun ls1 hl1 => ?_)
      clear hl0 ls0
      refine rlp (ι := Nat) (nL := 3) (ws := [eO cy ee (nI ps) (nI (te T n ps)) (tkn T n ps) va, pO cy ee (nI n), ia cy (ee 2) 120 T]) (fun x9 => (x9 ≤ wn i) ∧ (wEq T n ps i x9 = true)) (fun x9 => [(2, .int (nI x9)), (0, .ref (ee 0)), (1, .ref (G (10 + i)))]) (fun x9 => []) (fun x9 => wn i - x9) 28 ?_ 0 (⟨Nat.zero_le _, rfl⟩) rfl hP1 hS1 (lv_sub hl1 [0, 1, 2] rfl)
      clear hP1 hS1 locs1 H1 hl1 ls1
      intro x9 hI ih_28 H2 locs2 ls2 hP2 hS2 hl2
      obtain ⟨k, rfl⟩ : ∃ z9, z9 = x9 := ⟨_, rfl⟩
      obtain ⟨hk, hq⟩ := hI
      replace hk : k ≤ wn i := hk
      replace hq : wEq T n ps i k = true := hq
      replace hP2 : va_P D vwCl ([eO cy ee (nI ps) (nI (te T n ps)) (tkn T n ps) va, pO cy ee (nI n), ia cy (ee 2) 120 T]) H2 := hP2
      replace hl2 : lv_has ls2 3 [(2, .int (nI k)), (0, .ref (ee 0)), (1, .ref (G (10 + i)))] := hl2
      show W p l e _ s m _ below meth c _ _ _ _ _ (F0 m 28 ls2 [])
      refine lv_iload_n hx hb dX4_isWord_28 rfl (lv_at hl2 0 rfl) ?_
      refine lv_aload_n hx hb dX4_isWord_29 rfl (lv_at hl2 2 rfl) ?_
      refine rS_i (rest := [.int (nI k)]) hx hb hml hown hw hG hK hP2 hS2 hA hl2 kc_J0_length_8abf5 kw_2_190 [] (i := i) hi rfl (c_J0_length_8abf5 l D cy G H2.size i (by first | omega | assumption)) rfl rfl (Nat.le_of_ble_eq_true rfl) ⟨Nat.le_of_ble_eq_true rfl, Nat.le_of_ble_eq_true rfl⟩ dX4_isWord_30 ⟨Nat.le_of_ble_eq_true rfl, Nat.le_of_ble_eq_true rfl⟩ (fun r_30 H3 locs3 hr_30 hP3 hS3 => ?_)
      clear hP2 hS2 locs2 H2
      subst hr_30
      refine ln_ge (tgt := 65) k (wn i) rfl rfl (by omega) (by omega) hx hb dX4_isWord_33 (by decide) (fun c_33 => ?_) (fun c_33 => ?_)
      · refine lv_iconst (v := 1) hx hb dX4_isWord_65 (by decide) ?_
        exact rd_z hx hb hr hlocks hS3 dX4_isWord_66 rfl ((b2i_t (by unfold isW; obtain rfl : wn i = k := (by omega); rw [hq]; simp; omega)).symm)
      · refine lv_aload_n hx hb dX4_isWord_36 rfl (lv_at hl2 1 rfl) ?_
        refine va_get (D := D) (ci := 4) (v := .ref (ee 1)) (C := RX4) (T := TX4) (N := 5) hx hb hw iX4 hown hK hP3 0 rfl rfl 0 (by decide) (hw _ kw_1_228) (fun _ h9 => h9) rfl dX4_isWord_37 ?_
        refine lv_aload_n hx hb dX4_isWord_40 rfl (lv_at hl2 1 rfl) ?_
        refine va_get (D := D) (ci := 4) (v := .int (nI ps)) (C := RX4) (T := TX4) (N := 5) hx hb hw iX4 hown hK hP3 0 rfl rfl 1 (by decide) (hw _ kw_1_230) (fun _ h9 => h9) rfl dX4_isWord_41 ?_
        refine lv_iload_n hx hb dX4_isWord_44 rfl (lv_at hl2 0 rfl) ?_
        refine lv_iadd hx hb dX4_isWord_45 ?_
        refine tp (show ((nI ps) + (nI k)) = nI (ps + k) from nI_add _ _) ?_
        refine rV_i (wc := [pO cy ee (nI n), ia cy (ee 2) 120 T]) (rest := []) hx hb hml hown hw hG hK hP3 hS3 hA hl2 kc_X3_at kw_2_171 [.int (nI (ps + k))] (c_X3_at l D cy G H3.size ee n T (ps + k) (by first | omega | assumption) (by first | omega | assumption)) [1, 2] rfl 0 rfl rfl rfl rfl rfl (Nat.le_of_ble_eq_true rfl) ⟨Nat.le_of_ble_eq_true rfl, Nat.le_of_ble_eq_true rfl⟩ dX4_isWord_46 ⟨Nat.le_of_ble_eq_true rfl, Nat.le_of_ble_eq_true rfl⟩ (fun r_46 H4 locs4 hr_46 hP4 hS4 => ?_)
        clear hP3 hS3 locs3 H3
        subst hr_46
        refine lv_aload_n hx hb dX4_isWord_49 rfl (lv_at hl2 2 rfl) ?_
        refine lv_iload_n hx hb dX4_isWord_50 rfl (lv_at hl2 0 rfl) ?_
        refine rS_i (rest := [.int (bt T n (ps + k))]) hx hb hml hown hw hG hK hP4 hS4 hA hl2 kc_J0_charAt_5068e kw_2_200 [.int (nI k)] (i := i) hi rfl (c_J0_charAt_5068e l D cy G H4.size i k (by first | omega | assumption) (by first | omega | assumption)) rfl rfl (Nat.le_of_ble_eq_true rfl) ⟨Nat.le_of_ble_eq_true rfl, Nat.le_of_ble_eq_true rfl⟩ dX4_isWord_51 ⟨Nat.le_of_ble_eq_true rfl, Nat.le_of_ble_eq_true rfl⟩ (fun r_51 H5 locs5 hr_51 hP5 hS5 => ?_)
        clear hP4 hS4 locs4 H4
        subst hr_51
        refine lv_icmp_eq (tgt := 59) hx hb dX4_isWord_54 (by decide) (fun c_54 => ?_) (fun c_54 => ?_)
        · refine lv_iinc (v := nI (k + 1)) (lv' := [(2, .int (nI (k + 1))), (0, .ref (ee 0)), (1, .ref (G (10 + i)))]) hx hb dX4_isWord_59 hl2 (k := 0) rfl (nI_inc _) (by decide) rfl (fun ls3 hl3 => ?_)
          clear hl2 ls2
          refine lv_goto (tgt := 28) hx hb dX4_isWord_62 (by decide) ?_
          exact ih_28 (k + 1) (⟨(by (try dsimp only); omega), by show (wEq T n ps i k && decide (bt T n (ps + k) = wl i k)) = true; rw [hq, c_54]; simp⟩) (by (try dsimp only); omega) H5 locs5 ls3 hP5 hS5 (lv_sub hl3 [0, 1, 2] rfl)
        · refine lv_iconst (v := 0) hx hb dX4_isWord_57 (by decide) ?_
          exact rd_z hx hb hr hlocks hS5 dX4_isWord_58 rfl ((b2i_f (fun z9 => c_54 ((isW_iff.mp z9).2 k (by omega)))).symm)
    · refine lv_iconst (v := 0) hx hb dX4_isWord_24 (by decide) ?_
      exact rd_z hx hb hr hlocks hS1 dX4_isWord_25 rfl ((b2i_f (fun z9 => absurd (isW_iff.mp z9).1 (by omega))).symm)

theorem kc_X4_takeNumber : kV yX4_takeNumber cX4_takeNumber 3 (some .int) 1 := ⟨kw_3_19, kw_s_9, kw_1_5, kw_3_20, by decide, by decide, by decide +kernel⟩
set_option maxHeartbeats 4000000 in
set_option maxRecDepth 100000 in
theorem c_X4_takeNumber (l : Launch) (D : va_G) (cy : Nat → ClassId) (G : Nat → Nat) (sz : Nat) (ee : Nat → Nat) (n : Nat) (T : Nat → Int32) (ps : Nat) (va : Int32) (x1 : Int32) (hn : n ≤ 120) (hs : ps ≤ n) (hv : tkn T n ps = 2 → va = nI (numV T n ps)) (htp : tpOk T n) : Met l yX4_takeNumber (wm yX4_takeNumber cX4_takeNumber 3 (some .int)) { frames := 2, cells := 0, slots := 0, locals := 42 } (va_Pc [.ref (ee 0), .int x1] (pr D (TY cy) G ([eO cy ee (nI ps) (nI (te T n ps)) (tkn T n ps) va, pO cy ee (nI n), ia cy (ee 2) 120 T]) sz)) (va_Qi (fun (r : Int32) (u : Int32) => (r = if okN T n ps x1 then nI (numV T n ps) else -1) ∧ (tkn T n (tnP T n x1 ps) = 2 → u = nI (numV T n (tnP T n x1 ps)))) (fun (u : Int32) t => po D (va_A ([eO cy ee (nI ps) (nI (te T n ps)) (tkn T n ps) va, pO cy ee (nI n), ia cy (ee 2) 120 T]) sz) ([eO cy ee (nI (tnP T n x1 ps)) (nI (te T n (tnP T n x1 ps))) (tkn T n (tnP T n x1 ps)) u, pO cy ee (nI n), ia cy (ee 2) 120 T]) t) (va_A ([eO cy ee (nI ps) (nI (te T n ps)) (tkn T n ps) va, pO cy ee (nI n), ia cy (ee 2) 120 T]) sz)) 0 0 (va_A ([eO cy ee (nI ps) (nI (te T n ps)) (tkn T n ps) va, pO cy ee (nI n), ia cy (ee 2) 120 T]) sz) := by
  refine mk_rw (by decide) RX4 rfl (Nat.le_of_ble_eq_true rfl) [(0, .ref (ee 0)), (1, .int x1)] rfl ?_
  intro p e s m below meth c hx hb hml hown hr hlocks hin hw hsz hA hG hK H0 locs0 hP0 hD0 hS0 ls0 hl0
  clear hin
  have hte := te_b (T := T) hs
  refine lv_aload_n hx hb dX4_takeNumber_0 rfl (lv_at hl0 0 rfl) ?_
  refine va_get (D := D) (ci := 4) (v := .int (tkn T n ps)) (C := RX4) (T := TX4) (N := 5) hx hb hw iX4 hown hK hP0 0 rfl rfl 3 (by decide) (hw _ kw_1_233) (fun _ h9 => h9) rfl dX4_takeNumber_1 ?_
  refine lv_iconst (v := 2) hx hb dX4_takeNumber_4 (by decide) ?_
  refine lv_icmp_ne (tgt := 16) hx hb dX4_takeNumber_5 (by decide) (fun c_5 => ?_) (fun c_5 => ?_)
  · have hk9 : ¬ okN T n ps x1 := fun z9 => c_5 (tkn_2.mpr z9.1)
    have hp9 : tnP T n x1 ps = ps := if_neg hk9
    refine lv_iconst (v := (-1)) hx hb dX4_takeNumber_16 (by decide) ?_
    have hq9 : ([eO cy ee (nI ps) (nI (te T n ps)) (tkn T n ps) va, pO cy ee (nI n), ia cy (ee 2) 120 T]) = [eO cy ee (nI (tnP T n x1 ps)) (nI (te T n (tnP T n x1 ps))) (tkn T n (tnP T n x1 ps)) va, pO cy ee (nI n), ia cy (ee 2) 120 T] := by rw [hp9]
    replace hP0 := (congrArg (fun z9 => va_P D vwCl z9 _) hq9).mp hP0
    replace hD0 := (congrArg (fun z9 => va_D _ z9) hq9).mp hD0
    refine re_i va hx hb hr hlocks hP0 hD0 hS0 dX4_takeNumber_17 ?_
    exact (⟨(if_neg hk9).symm, fun z9 => by rw [hp9] at z9 ⊢; exact hv z9⟩)
  · refine lv_aload_n hx hb dX4_takeNumber_8 rfl (lv_at hl0 0 rfl) ?_
    refine va_get (D := D) (ci := 4) (v := .int va) (C := RX4) (T := TX4) (N := 5) hx hb hw iX4 hown hK hP0 0 rfl rfl 4 (by decide) (hw _ kw_1_234) (fun _ h9 => h9) rfl dX4_takeNumber_9 ?_
    refine lv_iload_n hx hb dX4_takeNumber_12 rfl (lv_at hl0 1 rfl) ?_
    refine lv_icmp_le (tgt := 18) hx hb dX4_takeNumber_13 (by decide) (fun c_13 => ?_) (fun c_13 => ?_)
    · have hk9 : okN T n ps x1 := ⟨tkn_2.mp c_5, by rw [← hv c_5]; exact c_13⟩
      have hp9 : nxt T n ps = tnP T n x1 ps := (if_pos hk9).symm
      have hve := hv c_5
      refine lv_aload_n hx hb dX4_takeNumber_18 rfl (lv_at hl0 0 rfl) ?_
      refine va_get (D := D) (ci := 4) (v := .int va) (C := RX4) (T := TX4) (N := 5) hx hb hw iX4 hown hK hP0 0 rfl rfl 4 (by decide) (hw _ kw_1_234) (fun _ h9 => h9) rfl dX4_takeNumber_19 ?_
      refine lv_istore_n (lv' := [(2, .int va), (0, .ref (ee 0)), (1, .int x1)]) hx hb dX4_takeNumber_22 rfl hl0 (by decide) rfl (fun ls1 hl1 => ?_)
      clear hl0 ls0
      refine lv_aload_n hx hb dX4_takeNumber_23 rfl (lv_at hl1 1 rfl) ?_
      refine cV_v (wc := [eO cy ee (nI ps) (nI (te T n ps)) (tkn T n ps) va, pO cy ee (nI n), ia cy (ee 2) 120 T]) (wr := []) (rest := []) hx hb hml hown hw hG hK hP0 hD0 hS0 hA hl1 kc_X4_nextToken kw_2_167 [] (c_X4_nextToken l D cy G H0.size ee n T (nI ps) (tkn T n ps) va (te T n ps) (by first | omega | assumption) (by first | omega | assumption) (by first | omega | assumption)) [0, 1, 2] [] rfl rfl rfl rfl rfl 0 rfl rfl rfl rfl rfl (Nat.le_of_ble_eq_true rfl) ⟨Nat.le_of_ble_eq_true rfl, Nat.le_of_ble_eq_true rfl⟩ dX4_takeNumber_24 ⟨Nat.le_of_ble_eq_true rfl, Nat.le_of_ble_eq_true rfl⟩ (fun u9 H1 locs1 hu9 hP1 hD1 hS1 => ?_)
      clear hP0 hD0 hS0 locs0 H0
      obtain ⟨va1_24, rfl⟩ : ∃ z9, z9 = u9 := ⟨_, rfl⟩
      have hv_24 := hu9
      replace hv_24 : tkn T n (skp T n (te T n ps)) = 2 → va1_24 = nI (numV T n (skp T n (te T n ps))) := hv_24
      replace hP1 : va_P D vwCl ([eO cy ee (nI (skp T n (te T n ps))) (nI (te T n (skp T n (te T n ps)))) (tkn T n (skp T n (te T n ps))) va1_24, pO cy ee (nI n), ia cy (ee 2) 120 T]) H1 := hP1
      replace hD1 : va_D (va_A _ sz) ([eO cy ee (nI (skp T n (te T n ps))) (nI (te T n (skp T n (te T n ps)))) (tkn T n (skp T n (te T n ps))) va1_24, pO cy ee (nI n), ia cy (ee 2) 120 T]) := hD1
      have hq9 : ([eO cy ee (nI (skp T n (te T n ps))) (nI (te T n (skp T n (te T n ps)))) (tkn T n (skp T n (te T n ps))) va1_24, pO cy ee (nI n), ia cy (ee 2) 120 T]) = ([eO cy ee (nI (nxt T n ps)) (nI (te T n (skp T n (te T n ps)))) (tkn T n (skp T n (te T n ps))) va1_24, pO cy ee (nI n), ia cy (ee 2) 120 T]) := congrArg (fun z9 => [eO cy ee z9 (nI (te T n (skp T n (te T n ps)))) (tkn T n (skp T n (te T n ps))) va1_24, pO cy ee (nI n), ia cy (ee 2) 120 T]) (show (nI (skp T n (te T n ps))) = (nI (nxt T n ps)) from rfl)
      replace hP1 := (congrArg (fun z9 => va_P D vwCl z9 _) hq9).mp hP1
      replace hD1 := (congrArg (fun z9 => va_D _ z9) hq9).mp hD1
      clear hq9
      have hq9 : ([eO cy ee (nI (nxt T n ps)) (nI (te T n (skp T n (te T n ps)))) (tkn T n (skp T n (te T n ps))) va1_24, pO cy ee (nI n), ia cy (ee 2) 120 T]) = ([eO cy ee (nI (nxt T n ps)) (nI (te T n (nxt T n ps))) (tkn T n (skp T n (te T n ps))) va1_24, pO cy ee (nI n), ia cy (ee 2) 120 T]) := congrArg (fun z9 => [eO cy ee (nI (nxt T n ps)) z9 (tkn T n (skp T n (te T n ps))) va1_24, pO cy ee (nI n), ia cy (ee 2) 120 T]) (show (nI (te T n (skp T n (te T n ps)))) = (nI (te T n (nxt T n ps))) from rfl)
      replace hP1 := (congrArg (fun z9 => va_P D vwCl z9 _) hq9).mp hP1
      replace hD1 := (congrArg (fun z9 => va_D _ z9) hq9).mp hD1
      clear hq9
      have hq9 : ([eO cy ee (nI (nxt T n ps)) (nI (te T n (nxt T n ps))) (tkn T n (skp T n (te T n ps))) va1_24, pO cy ee (nI n), ia cy (ee 2) 120 T]) = ([eO cy ee (nI (nxt T n ps)) (nI (te T n (nxt T n ps))) (tkn T n (nxt T n ps)) va1_24, pO cy ee (nI n), ia cy (ee 2) 120 T]) := congrArg (fun z9 => [eO cy ee (nI (nxt T n ps)) (nI (te T n (nxt T n ps))) z9 va1_24, pO cy ee (nI n), ia cy (ee 2) 120 T]) (show (tkn T n (skp T n (te T n ps))) = (tkn T n (nxt T n ps)) from rfl)
      replace hP1 := (congrArg (fun z9 => va_P D vwCl z9 _) hq9).mp hP1
      replace hD1 := (congrArg (fun z9 => va_D _ z9) hq9).mp hD1
      clear hq9
      refine lv_iload_n hx hb dX4_takeNumber_27 rfl (lv_at hl1 0 rfl) ?_
      have hq9 : ([eO cy ee (nI (nxt T n ps)) (nI (te T n (nxt T n ps))) (tkn T n (nxt T n ps)) va1_24, pO cy ee (nI n), ia cy (ee 2) 120 T]) = [eO cy ee (nI (tnP T n x1 ps)) (nI (te T n (tnP T n x1 ps))) (tkn T n (tnP T n x1 ps)) va1_24, pO cy ee (nI n), ia cy (ee 2) 120 T] := by rw [hp9]
      replace hP1 := (congrArg (fun z9 => va_P D vwCl z9 _) hq9).mp hP1
      replace hD1 := (congrArg (fun z9 => va_D _ z9) hq9).mp hD1
      refine re_i va1_24 hx hb hr hlocks hP1 hD1 hS1 dX4_takeNumber_28 ?_
      exact (⟨by rw [if_pos hk9]; exact hve, by rw [← hp9]; exact hv_24⟩)
    · have hk9 : ¬ okN T n ps x1 := fun z9 => c_13 (by rw [hv c_5]; exact z9.2)
      have hp9 : tnP T n x1 ps = ps := if_neg hk9
      refine lv_iconst (v := (-1)) hx hb dX4_takeNumber_16 (by decide) ?_
      have hq9 : ([eO cy ee (nI ps) (nI (te T n ps)) (tkn T n ps) va, pO cy ee (nI n), ia cy (ee 2) 120 T]) = [eO cy ee (nI (tnP T n x1 ps)) (nI (te T n (tnP T n x1 ps))) (tkn T n (tnP T n x1 ps)) va, pO cy ee (nI n), ia cy (ee 2) 120 T] := by rw [hp9]
      replace hP0 := (congrArg (fun z9 => va_P D vwCl z9 _) hq9).mp hP0
      replace hD0 := (congrArg (fun z9 => va_D _ z9) hq9).mp hD0
      refine re_i va hx hb hr hlocks hP0 hD0 hS0 dX4_takeNumber_17 ?_
      exact (⟨(if_neg hk9).symm, fun z9 => by rw [hp9] at z9 ⊢; exact hv z9⟩)
