theorem kc_X4_isLetter : kT yX4_isLetter cX4_isLetter 1 (some .boolean) 1 := ⟨kw_2_176, kw_1_5, kw_2_177, by decide, by decide, by decide +kernel⟩
set_option maxHeartbeats 4000000 in
set_option maxRecDepth 100000 in
theorem c_X4_isLetter (l : Launch) (D : va_G) (cy : Nat → ClassId) (G : Nat → Nat) (sz : Nat) (f : Int32)  : Met l yX4_isLetter (wm yX4_isLetter cX4_isLetter 1 (some .boolean)) { frames := 0, cells := 0, slots := 0, locals := 0 } (va_Pc [.int f] (pd D (TY cy) G ([]) sz)) (va_Qi (fun r (_ : Unit) => r = b2i (97 ≤ f ∧ f ≤ 122)) (fun _ _ => True) (va_A [] sz)) 0 0 (va_A [] sz) := by
  refine mk_rd (by decide) RX4 rfl (Nat.le_of_ble_eq_true rfl) [(0, .int f)] rfl ?_
  intro p e s m below meth c hx hb hml hown hr hlocks hw hsz hA hG hK H0 locs0 hP0 hS0 ls0 hl0
  refine lv_iload_n hx hb dX4_isLetter_0 rfl (lv_at hl0 0 rfl) ?_
  refine lv_bipush (v := 97) hx hb dX4_isLetter_1 (by decide) ?_
  refine lv_icmp_lt (tgt := 16) hx hb dX4_isLetter_3 (by decide) (fun c_3 => ?_) (fun c_3 => ?_)
  · refine lv_iconst (v := 0) hx hb dX4_isLetter_16 (by decide) ?_
    exact rd_z hx hb hr hlocks hS0 dX4_isLetter_17 rfl (by clear hx hb hml hown hr hlocks hw hsz hA hG hK hP0 hS0 hl0; grind [b2i])
  · refine lv_iload_n hx hb dX4_isLetter_6 rfl (lv_at hl0 0 rfl) ?_
    refine lv_bipush (v := 122) hx hb dX4_isLetter_7 (by decide) ?_
    refine lv_icmp_gt (tgt := 16) hx hb dX4_isLetter_9 (by decide) (fun c_9 => ?_) (fun c_9 => ?_)
    · refine lv_iconst (v := 0) hx hb dX4_isLetter_16 (by decide) ?_
      exact rd_z hx hb hr hlocks hS0 dX4_isLetter_17 rfl (by clear hx hb hml hown hr hlocks hw hsz hA hG hK hP0 hS0 hl0; grind [b2i])
    · refine lv_iconst (v := 1) hx hb dX4_isLetter_12 (by decide) ?_
      refine lv_goto (tgt := 17) hx hb dX4_isLetter_13 (by decide) ?_
      exact rd_z hx hb hr hlocks hS0 dX4_isLetter_17 rfl (by clear hx hb hml hown hr hlocks hw hsz hA hG hK hP0 hS0 hl0; grind [b2i])

theorem kc_X4_isDigit : kT yX4_isDigit cX4_isDigit 1 (some .boolean) 1 := ⟨kw_2_183, kw_1_5, kw_2_184, by decide, by decide, by decide +kernel⟩
set_option maxHeartbeats 4000000 in
set_option maxRecDepth 100000 in
theorem c_X4_isDigit (l : Launch) (D : va_G) (cy : Nat → ClassId) (G : Nat → Nat) (sz : Nat) (f : Int32)  : Met l yX4_isDigit (wm yX4_isDigit cX4_isDigit 1 (some .boolean)) { frames := 0, cells := 0, slots := 0, locals := 0 } (va_Pc [.int f] (pd D (TY cy) G ([]) sz)) (va_Qi (fun r (_ : Unit) => r = b2i (48 ≤ f ∧ f ≤ 57)) (fun _ _ => True) (va_A [] sz)) 0 0 (va_A [] sz) := by
  refine mk_rd (by decide) RX4 rfl (Nat.le_of_ble_eq_true rfl) [(0, .int f)] rfl ?_
  intro p e s m below meth c hx hb hml hown hr hlocks hw hsz hA hG hK H0 locs0 hP0 hS0 ls0 hl0
  refine lv_iload_n hx hb dX4_isDigit_0 rfl (lv_at hl0 0 rfl) ?_
  refine lv_bipush (v := 48) hx hb dX4_isDigit_1 (by decide) ?_
  refine lv_icmp_lt (tgt := 16) hx hb dX4_isDigit_3 (by decide) (fun c_3 => ?_) (fun c_3 => ?_)
  · refine lv_iconst (v := 0) hx hb dX4_isDigit_16 (by decide) ?_
    exact rd_z hx hb hr hlocks hS0 dX4_isDigit_17 rfl (by clear hx hb hml hown hr hlocks hw hsz hA hG hK hP0 hS0 hl0; grind [b2i])
  · refine lv_iload_n hx hb dX4_isDigit_6 rfl (lv_at hl0 0 rfl) ?_
    refine lv_bipush (v := 57) hx hb dX4_isDigit_7 (by decide) ?_
    refine lv_icmp_gt (tgt := 16) hx hb dX4_isDigit_9 (by decide) (fun c_9 => ?_) (fun c_9 => ?_)
    · refine lv_iconst (v := 0) hx hb dX4_isDigit_16 (by decide) ?_
      exact rd_z hx hb hr hlocks hS0 dX4_isDigit_17 rfl (by clear hx hb hml hown hr hlocks hw hsz hA hG hK hP0 hS0 hl0; grind [b2i])
    · refine lv_iconst (v := 1) hx hb dX4_isDigit_12 (by decide) ?_
      refine lv_goto (tgt := 17) hx hb dX4_isDigit_13 (by decide) ?_
      exact rd_z hx hb hr hlocks hS0 dX4_isDigit_17 rfl (by clear hx hb hml hown hr hlocks hw hsz hA hG hK hP0 hS0 hl0; grind [b2i])

theorem kc_X4_passWord : kV yX4_passWord cX4_passWord 1 none 0 := ⟨kw_2_180, kw_s_4, kw_1_5, kw_2_181, by decide, by decide, by decide +kernel⟩
set_option maxHeartbeats 4000000 in
set_option maxRecDepth 100000 in
theorem c_X4_passWord (l : Launch) (D : va_G) (cy : Nat → ClassId) (G : Nat → Nat) (sz : Nat) (ee : Nat → Nat) (n : Nat) (T : Nat → Int32) (ps : Nat) (sa : Int32) (tk : Int32) (va : Int32) (hn : n ≤ 120) (hs : ps < n) (hL : isL (bt T n ps)) : Met l yX4_passWord (wm yX4_passWord cX4_passWord 1 none) { frames := 1, cells := 0, slots := 0, locals := 21 } (va_Pc [.ref (ee 0)] (pr D (TY cy) G ([eO cy ee sa (nI ps) tk va, pO cy ee (nI n), ia cy (ee 2) 120 T]) sz)) (va_Qv (fun (u : Unit) => True) (fun (u : Unit) t => po D (va_A ([eO cy ee sa (nI ps) tk va, pO cy ee (nI n), ia cy (ee 2) 120 T]) sz) ([eO cy ee sa (nI (te T n ps)) 1 va, pO cy ee (nI n), ia cy (ee 2) 120 T]) t) (va_A ([eO cy ee sa (nI ps) tk va, pO cy ee (nI n), ia cy (ee 2) 120 T]) sz)) 0 0 (va_A ([eO cy ee sa (nI ps) tk va, pO cy ee (nI n), ia cy (ee 2) 120 T]) sz) := by
  refine mk_rw (by decide) RX4 rfl (Nat.le_of_ble_eq_true rfl) [(0, .ref (ee 0))] rfl ?_
  intro p e s m below meth c hx hb hml hown hr hlocks hin hw hsz hA hG hK H0 locs0 hP0 hD0 hS0 ls0 hl0
  clear hin
  refine lv_aload_n hx hb dX4_passWord_0 rfl (lv_at hl0 0 rfl) ?_
  refine lv_iconst (v := 1) hx hb dX4_passWord_1 (by decide) ?_
  refine pt (D := D) (ci := 4) (v := .int 1) (ty := .int) (C := RX4) (T := TX4) (N := 5) (ws' := [eO cy ee sa (nI ps) 1 va, pO cy ee (nI n), ia cy (ee 2) 120 T]) hx hb hw iX4 tyX4 tyX4_ok nmX4 hown hK hP0 hD0 hS0 0 rfl rfl 3 (by decide) kw_1_233 (fun _ h9 => h9) rfl (by decide +kernel) rfl rfl (Nat.le_of_ble_eq_true rfl) rfl dX4_passWord_2 (fun H1 locs1 hP1 hD1 hS1 => ?_)
  clear hP0 hD0 hS0 locs0 H0
  refine wlp (ι := Nat) (nL := 1) (fun x9 => (ps ≤ x9) ∧ (x9 ≤ n) ∧ (∀ j, ps ≤ j → j < x9 → isL (bt T n j))) (fun x9 => [eO cy ee sa (nI x9) 1 va, pO cy ee (nI n), ia cy (ee 2) 120 T]) (fun x9 => [(0, .ref (ee 0))]) (fun x9 => []) (fun x9 => n - x9) 5 ?_ ps (⟨Nat.le_refl _, (by omega), fun j9 a9 b9 => absurd b9 (by omega)⟩) rfl hP1 hD1 hS1 (lv_sub hl0 [0] rfl)
  clear hP1 hD1 hS1 locs1 H1 hl0 ls0
  intro x9 hI ih_5 H2 locs2 ls1 hP2 hD2 hS2 hl1
  obtain ⟨k, rfl⟩ : ∃ z9, z9 = x9 := ⟨_, rfl⟩
  obtain ⟨h1, h2, hall⟩ := hI
  replace h1 : ps ≤ k := h1
  replace h2 : k ≤ n := h2
  replace hall : ∀ j, ps ≤ j → j < k → isL (bt T n j) := hall
  replace hP2 : va_P D vwCl ([eO cy ee sa (nI k) 1 va, pO cy ee (nI n), ia cy (ee 2) 120 T]) H2 := hP2
  replace hD2 : va_D (va_A _ sz) ([eO cy ee sa (nI k) 1 va, pO cy ee (nI n), ia cy (ee 2) 120 T]) := hD2
  replace hl1 : lv_has ls1 1 [(0, .ref (ee 0))] := hl1
  show W p l e _ s m _ below meth c _ _ _ _ _ (F0 m 5 ls1 [])
  refine lv_aload_n hx hb dX4_passWord_5 rfl (lv_at hl1 0 rfl) ?_
  refine va_get (D := D) (ci := 4) (v := .int (nI k)) (C := RX4) (T := TX4) (N := 5) hx hb hw iX4 hown hK hP2 0 rfl rfl 2 (by decide) (hw _ kw_1_232) (fun _ h9 => h9) rfl dX4_passWord_6 ?_
  refine lv_aload_n hx hb dX4_passWord_9 rfl (lv_at hl1 0 rfl) ?_
  refine va_get (D := D) (ci := 4) (v := .ref (ee 1)) (C := RX4) (T := TX4) (N := 5) hx hb hw iX4 hown hK hP2 0 rfl rfl 0 (by decide) (hw _ kw_1_228) (fun _ h9 => h9) rfl dX4_passWord_10 ?_
  refine va_get (D := D) (ci := 3) (v := .int (nI n)) (C := RX3) (T := TX3) (N := 2) hx hb hw iX3 hown hK hP2 1 rfl rfl 1 (by decide) (hw _ kw_1_222) (fun _ h9 => h9) rfl dX4_passWord_13 ?_
  refine ln_ge (tgt := 49) k n rfl rfl (by omega) (by omega) hx hb dX4_passWord_16 (by decide) (fun c_16 => ?_) (fun c_16 => ?_)
  · have hq9 : ([eO cy ee sa (nI k) 1 va, pO cy ee (nI n), ia cy (ee 2) 120 T]) = ([eO cy ee sa (nI (te T n ps)) 1 va, pO cy ee (nI n), ia cy (ee 2) 120 T]) := congrArg (fun z9 => [eO cy ee sa z9 1 va, pO cy ee (nI n), ia cy (ee 2) 120 T]) (show (nI k) = (nI (te T n ps)) from congrArg nI (te_w hs hL h1 h2 hall (notL c_16)).symm)
    replace hP2 := (congrArg (fun z9 => va_P D vwCl z9 _) hq9).mp hP2
    replace hD2 := (congrArg (fun z9 => va_D _ z9) hq9).mp hD2
    clear hq9
    refine re_v () hx hb hr hlocks hP2 hD2 hS2 dX4_passWord_49 ?_
    exact (trivial)
  · refine lv_aload_n hx hb dX4_passWord_19 rfl (lv_at hl1 0 rfl) ?_
    refine va_get (D := D) (ci := 4) (v := .ref (ee 1)) (C := RX4) (T := TX4) (N := 5) hx hb hw iX4 hown hK hP2 0 rfl rfl 0 (by decide) (hw _ kw_1_228) (fun _ h9 => h9) rfl dX4_passWord_20 ?_
    refine lv_aload_n hx hb dX4_passWord_23 rfl (lv_at hl1 0 rfl) ?_
    refine va_get (D := D) (ci := 4) (v := .int (nI k)) (C := RX4) (T := TX4) (N := 5) hx hb hw iX4 hown hK hP2 0 rfl rfl 2 (by decide) (hw _ kw_1_232) (fun _ h9 => h9) rfl dX4_passWord_24 ?_
    refine rV_i (wc := [pO cy ee (nI n), ia cy (ee 2) 120 T]) (rest := []) hx hb hml hown hw hG hK hP2 hS2 hA hl1 kc_X3_at kw_2_171 [.int (nI k)] (c_X3_at l D cy G H2.size ee n T k (by first | omega | assumption) (by first | omega | assumption)) [1, 2] rfl 0 rfl rfl rfl rfl rfl (Nat.le_of_ble_eq_true rfl) ⟨Nat.le_of_ble_eq_true rfl, Nat.le_of_ble_eq_true rfl⟩ dX4_passWord_27 ⟨Nat.le_of_ble_eq_true rfl, Nat.le_of_ble_eq_true rfl⟩ (fun r_27 H3 locs3 hr_27 hP3 hS3 => ?_)
    have hD3 := hD2
    clear hP2 hD2 hS2 locs2 H2
    subst hr_27
    refine rT_i (wc := []) (rest := []) hx hb hml hown hw hG hK hP3 hS3 hA hl1 kc_X4_isLetter kw_2_175 [.int (bt T n k)] (c_X4_isLetter l D cy G H3.size (bt T n k)) [] rfl rfl rfl (Nat.le_of_ble_eq_true rfl) ⟨Nat.le_of_ble_eq_true rfl, Nat.le_of_ble_eq_true rfl⟩ dX4_passWord_30 ⟨Nat.le_of_ble_eq_true rfl, Nat.le_of_ble_eq_true rfl⟩ (fun r_30 H4 locs4 hr_30 hP4 hS4 => ?_)
    have hD4 := hD3
    clear hP3 hD3 hS3 locs3 H3
    subst hr_30
    refine lb_eq (tgt := 49) hx hb dX4_passWord_33 (by decide) (fun c_33 => ?_) (fun c_33 => ?_)
    · have hq9 : ([eO cy ee sa (nI k) 1 va, pO cy ee (nI n), ia cy (ee 2) 120 T]) = ([eO cy ee sa (nI (te T n ps)) 1 va, pO cy ee (nI n), ia cy (ee 2) 120 T]) := congrArg (fun z9 => [eO cy ee sa z9 1 va, pO cy ee (nI n), ia cy (ee 2) 120 T]) (show (nI k) = (nI (te T n ps)) from congrArg nI (te_w hs hL h1 h2 hall c_33).symm)
      replace hP4 := (congrArg (fun z9 => va_P D vwCl z9 _) hq9).mp hP4
      replace hD4 := (congrArg (fun z9 => va_D _ z9) hq9).mp hD4
      clear hq9
      refine re_v () hx hb hr hlocks hP4 hD4 hS4 dX4_passWord_49 ?_
      exact (trivial)
    · refine lv_aload_n hx hb dX4_passWord_36 rfl (lv_at hl1 0 rfl) ?_
      refine lv_dup hx hb dX4_passWord_37 rfl ?_
      refine va_get (D := D) (ci := 4) (v := .int (nI k)) (C := RX4) (T := TX4) (N := 5) hx hb hw iX4 hown hK hP4 0 rfl rfl 2 (by decide) (hw _ kw_1_232) (fun _ h9 => h9) rfl dX4_passWord_38 ?_
      refine lv_iconst (v := 1) hx hb dX4_passWord_41 (by decide) ?_
      refine lv_iadd hx hb dX4_passWord_42 ?_
      refine tp (show ((nI k) + 1) = nI (k + 1) from nI_add _ _) ?_
      refine pt (D := D) (ci := 4) (v := .int (nI (k + 1))) (ty := .int) (C := RX4) (T := TX4) (N := 5) (ws' := [eO cy ee sa (nI (k + 1)) 1 va, pO cy ee (nI n), ia cy (ee 2) 120 T]) hx hb hw iX4 tyX4 tyX4_ok nmX4 hown hK hP4 hD4 hS4 0 rfl rfl 2 (by decide) kw_1_232 (fun _ h9 => h9) rfl (by decide +kernel) rfl rfl (Nat.le_of_ble_eq_true rfl) rfl dX4_passWord_43 (fun H5 locs5 hP5 hD5 hS5 => ?_)
      clear hP4 hD4 hS4 locs4 H4
      refine lv_goto (tgt := 5) hx hb dX4_passWord_46 (by decide) ?_
      exact ih_5 (k + 1) (⟨(by (try dsimp only); omega), (by (try dsimp only); omega), fun j9 a9 b9 => by
          by_cases e9 : j9 = k
          · subst e9; exact c_33
          · exact hall j9 a9 (by omega)⟩) (by (try dsimp only); omega) H5 locs5 ls1 hP5 hD5 hS5 (lv_sub hl1 [0] rfl)

theorem kc_X4_passNumber : kV yX4_passNumber cX4_passNumber 1 none 0 := ⟨kw_2_187, kw_s_5, kw_1_5, kw_2_188, by decide, by decide, by decide +kernel⟩
set_option maxHeartbeats 4000000 in
set_option maxRecDepth 100000 in
theorem c_X4_passNumber (l : Launch) (D : va_G) (cy : Nat → ClassId) (G : Nat → Nat) (sz : Nat) (ee : Nat → Nat) (n : Nat) (T : Nat → Int32) (ps : Nat) (sa : Int32) (tk : Int32) (va : Int32) (hn : n ≤ 120) (hs : ps < n) (hL : isD (bt T n ps)) : Met l yX4_passNumber (wm yX4_passNumber cX4_passNumber 1 none) { frames := 1, cells := 0, slots := 0, locals := 21 } (va_Pc [.ref (ee 0)] (pr D (TY cy) G ([eO cy ee sa (nI ps) tk va, pO cy ee (nI n), ia cy (ee 2) 120 T]) sz)) (va_Qv (fun (u : Unit) => True) (fun (u : Unit) t => po D (va_A ([eO cy ee sa (nI ps) tk va, pO cy ee (nI n), ia cy (ee 2) 120 T]) sz) ([eO cy ee sa (nI (te T n ps)) 2 (nI (numV T n ps)), pO cy ee (nI n), ia cy (ee 2) 120 T]) t) (va_A ([eO cy ee sa (nI ps) tk va, pO cy ee (nI n), ia cy (ee 2) 120 T]) sz)) 0 0 (va_A ([eO cy ee sa (nI ps) tk va, pO cy ee (nI n), ia cy (ee 2) 120 T]) sz) := by
  refine mk_rw (by decide) RX4 rfl (Nat.le_of_ble_eq_true rfl) [(0, .ref (ee 0))] rfl ?_
  intro p e s m below meth c hx hb hml hown hr hlocks hin hw hsz hA hG hK H0 locs0 hP0 hD0 hS0 ls0 hl0
  clear hin
  refine lv_aload_n hx hb dX4_passNumber_0 rfl (lv_at hl0 0 rfl) ?_
  refine lv_iconst (v := 2) hx hb dX4_passNumber_1 (by decide) ?_
  refine pt (D := D) (ci := 4) (v := .int 2) (ty := .int) (C := RX4) (T := TX4) (N := 5) (ws' := [eO cy ee sa (nI ps) 2 va, pO cy ee (nI n), ia cy (ee 2) 120 T]) hx hb hw iX4 tyX4 tyX4_ok nmX4 hown hK hP0 hD0 hS0 0 rfl rfl 3 (by decide) kw_1_233 (fun _ h9 => h9) rfl (by decide +kernel) rfl rfl (Nat.le_of_ble_eq_true rfl) rfl dX4_passNumber_2 (fun H1 locs1 hP1 hD1 hS1 => ?_)
  clear hP0 hD0 hS0 locs0 H0
  refine lv_aload_n hx hb dX4_passNumber_5 rfl (lv_at hl0 0 rfl) ?_
  refine lv_iconst (v := 0) hx hb dX4_passNumber_6 (by decide) ?_
  refine pt (D := D) (ci := 4) (v := .int 0) (ty := .int) (C := RX4) (T := TX4) (N := 5) (ws' := [eO cy ee sa (nI ps) 2 0, pO cy ee (nI n), ia cy (ee 2) 120 T]) hx hb hw iX4 tyX4 tyX4_ok nmX4 hown hK hP1 hD1 hS1 0 rfl rfl 4 (by decide) kw_1_234 (fun _ h9 => h9) rfl (by decide +kernel) rfl rfl (Nat.le_of_ble_eq_true rfl) rfl dX4_passNumber_7 (fun H2 locs2 hP2 hD2 hS2 => ?_)
  clear hP1 hD1 hS1 locs1 H1
  have hq9 : ([eO cy ee sa (nI ps) 2 0, pO cy ee (nI n), ia cy (ee 2) 120 T]) = ([eO cy ee sa (nI (ps + 0)) 2 0, pO cy ee (nI n), ia cy (ee 2) 120 T]) := congrArg (fun z9 => [eO cy ee sa z9 2 0, pO cy ee (nI n), ia cy (ee 2) 120 T]) (show (nI ps) = (nI (ps + 0)) from rfl)
  replace hP2 := (congrArg (fun z9 => va_P D vwCl z9 _) hq9).mp hP2
  replace hD2 := (congrArg (fun z9 => va_D _ z9) hq9).mp hD2
  clear hq9
  have hq9 : ([eO cy ee sa (nI (ps + 0)) 2 0, pO cy ee (nI n), ia cy (ee 2) 120 T]) = ([eO cy ee sa (nI (ps + 0)) 2 (nI (nvC T ps 0)), pO cy ee (nI n), ia cy (ee 2) 120 T]) := congrArg (fun z9 => [eO cy ee sa (nI (ps + 0)) 2 z9, pO cy ee (nI n), ia cy (ee 2) 120 T]) (show 0 = (nI (nvC T ps 0)) from rfl)
  replace hP2 := (congrArg (fun z9 => va_P D vwCl z9 _) hq9).mp hP2
  replace hD2 := (congrArg (fun z9 => va_D _ z9) hq9).mp hD2
  clear hq9
  refine wlp (ι := Nat) (nL := 1) (fun x9 => (ps + x9 ≤ n) ∧ (∀ j, ps ≤ j → j < ps + x9 → isD (bt T n j))) (fun x9 => [eO cy ee sa (nI (ps + x9)) 2 (nI (nvC T ps x9)), pO cy ee (nI n), ia cy (ee 2) 120 T]) (fun x9 => [(0, .ref (ee 0))]) (fun x9 => []) (fun x9 => n - (ps + x9)) 10 ?_ 0 (⟨(by (try dsimp only); omega), fun j9 a9 b9 => absurd b9 (by (try dsimp only); omega)⟩) rfl hP2 hD2 hS2 (lv_sub hl0 [0] rfl)
  clear hP2 hD2 hS2 locs2 H2 hl0 ls0
  intro x9 hI ih_10 H3 locs3 ls1 hP3 hD3 hS3 hl1
  obtain ⟨i, rfl⟩ : ∃ z9, z9 = x9 := ⟨_, rfl⟩
  obtain ⟨h2, hall⟩ := hI
  replace h2 : ps + i ≤ n := h2
  replace hall : ∀ j, ps ≤ j → j < ps + i → isD (bt T n j) := hall
  replace hP3 : va_P D vwCl ([eO cy ee sa (nI (ps + i)) 2 (nI (nvC T ps i)), pO cy ee (nI n), ia cy (ee 2) 120 T]) H3 := hP3
  replace hD3 : va_D (va_A _ sz) ([eO cy ee sa (nI (ps + i)) 2 (nI (nvC T ps i)), pO cy ee (nI n), ia cy (ee 2) 120 T]) := hD3
  replace hl1 : lv_has ls1 1 [(0, .ref (ee 0))] := hl1
  show W p l e _ s m _ below meth c _ _ _ _ _ (F0 m 10 ls1 [])
  refine lv_aload_n hx hb dX4_passNumber_10 rfl (lv_at hl1 0 rfl) ?_
  refine va_get (D := D) (ci := 4) (v := .int (nI (ps + i))) (C := RX4) (T := TX4) (N := 5) hx hb hw iX4 hown hK hP3 0 rfl rfl 2 (by decide) (hw _ kw_1_232) (fun _ h9 => h9) rfl dX4_passNumber_11 ?_
  refine lv_aload_n hx hb dX4_passNumber_14 rfl (lv_at hl1 0 rfl) ?_
  refine va_get (D := D) (ci := 4) (v := .ref (ee 1)) (C := RX4) (T := TX4) (N := 5) hx hb hw iX4 hown hK hP3 0 rfl rfl 0 (by decide) (hw _ kw_1_228) (fun _ h9 => h9) rfl dX4_passNumber_15 ?_
  refine va_get (D := D) (ci := 3) (v := .int (nI n)) (C := RX3) (T := TX3) (N := 2) hx hb hw iX3 hown hK hP3 1 rfl rfl 1 (by decide) (hw _ kw_1_222) (fun _ h9 => h9) rfl dX4_passNumber_18 ?_
  refine ln_ge (tgt := 86) (ps + i) n rfl rfl (by omega) (by omega) hx hb dX4_passNumber_21 (by decide) (fun c_21 => ?_) (fun c_21 => ?_)
  · have hte : te T n ps = ps + i := te_d hs hL (by omega) h2 hall (notD c_21)
    have hnv : numV T n ps = nvC T ps i := by unfold numV; rw [hte, Nat.add_sub_cancel_left]
    have hq9 : ([eO cy ee sa (nI (ps + i)) 2 (nI (nvC T ps i)), pO cy ee (nI n), ia cy (ee 2) 120 T]) = ([eO cy ee sa (nI (te T n ps)) 2 (nI (nvC T ps i)), pO cy ee (nI n), ia cy (ee 2) 120 T]) := congrArg (fun z9 => [eO cy ee sa z9 2 (nI (nvC T ps i)), pO cy ee (nI n), ia cy (ee 2) 120 T]) (show (nI (ps + i)) = (nI (te T n ps)) from by rw [hte])
    replace hP3 := (congrArg (fun z9 => va_P D vwCl z9 _) hq9).mp hP3
    replace hD3 := (congrArg (fun z9 => va_D _ z9) hq9).mp hD3
    clear hq9
    have hq9 : ([eO cy ee sa (nI (te T n ps)) 2 (nI (nvC T ps i)), pO cy ee (nI n), ia cy (ee 2) 120 T]) = ([eO cy ee sa (nI (te T n ps)) 2 (nI (numV T n ps)), pO cy ee (nI n), ia cy (ee 2) 120 T]) := congrArg (fun z9 => [eO cy ee sa (nI (te T n ps)) 2 z9, pO cy ee (nI n), ia cy (ee 2) 120 T]) (show (nI (nvC T ps i)) = (nI (numV T n ps)) from by rw [hnv])
    replace hP3 := (congrArg (fun z9 => va_P D vwCl z9 _) hq9).mp hP3
    replace hD3 := (congrArg (fun z9 => va_D _ z9) hq9).mp hD3
    clear hq9
    refine re_v () hx hb hr hlocks hP3 hD3 hS3 dX4_passNumber_86 ?_
    exact (trivial)
  · refine lv_aload_n hx hb dX4_passNumber_24 rfl (lv_at hl1 0 rfl) ?_
    refine va_get (D := D) (ci := 4) (v := .ref (ee 1)) (C := RX4) (T := TX4) (N := 5) hx hb hw iX4 hown hK hP3 0 rfl rfl 0 (by decide) (hw _ kw_1_228) (fun _ h9 => h9) rfl dX4_passNumber_25 ?_
    refine lv_aload_n hx hb dX4_passNumber_28 rfl (lv_at hl1 0 rfl) ?_
    refine va_get (D := D) (ci := 4) (v := .int (nI (ps + i))) (C := RX4) (T := TX4) (N := 5) hx hb hw iX4 hown hK hP3 0 rfl rfl 2 (by decide) (hw _ kw_1_232) (fun _ h9 => h9) rfl dX4_passNumber_29 ?_
    refine rV_i (wc := [pO cy ee (nI n), ia cy (ee 2) 120 T]) (rest := []) hx hb hml hown hw hG hK hP3 hS3 hA hl1 kc_X3_at kw_2_171 [.int (nI (ps + i))] (c_X3_at l D cy G H3.size ee n T (ps + i) (by first | omega | assumption) (by first | omega | assumption)) [1, 2] rfl 0 rfl rfl rfl rfl rfl (Nat.le_of_ble_eq_true rfl) ⟨Nat.le_of_ble_eq_true rfl, Nat.le_of_ble_eq_true rfl⟩ dX4_passNumber_32 ⟨Nat.le_of_ble_eq_true rfl, Nat.le_of_ble_eq_true rfl⟩ (fun r_32 H4 locs4 hr_32 hP4 hS4 => ?_)
    have hD4 := hD3
    clear hP3 hD3 hS3 locs3 H3
    subst hr_32
    refine rT_i (wc := []) (rest := []) hx hb hml hown hw hG hK hP4 hS4 hA hl1 kc_X4_isDigit kw_2_182 [.int (bt T n (ps + i))] (c_X4_isDigit l D cy G H4.size (bt T n (ps + i))) [] rfl rfl rfl (Nat.le_of_ble_eq_true rfl) ⟨Nat.le_of_ble_eq_true rfl, Nat.le_of_ble_eq_true rfl⟩ dX4_passNumber_35 ⟨Nat.le_of_ble_eq_true rfl, Nat.le_of_ble_eq_true rfl⟩ (fun r_35 H5 locs5 hr_35 hP5 hS5 => ?_)
    have hD5 := hD4
    clear hP4 hD4 hS4 locs4 H4
    subst hr_35
    refine lb_eq (tgt := 86) hx hb dX4_passNumber_38 (by decide) (fun c_38 => ?_) (fun c_38 => ?_)
    · have hte : te T n ps = ps + i := te_d hs hL (by omega) h2 hall c_38
      have hnv : numV T n ps = nvC T ps i := by unfold numV; rw [hte, Nat.add_sub_cancel_left]
      have hq9 : ([eO cy ee sa (nI (ps + i)) 2 (nI (nvC T ps i)), pO cy ee (nI n), ia cy (ee 2) 120 T]) = ([eO cy ee sa (nI (te T n ps)) 2 (nI (nvC T ps i)), pO cy ee (nI n), ia cy (ee 2) 120 T]) := congrArg (fun z9 => [eO cy ee sa z9 2 (nI (nvC T ps i)), pO cy ee (nI n), ia cy (ee 2) 120 T]) (show (nI (ps + i)) = (nI (te T n ps)) from by rw [hte])
      replace hP5 := (congrArg (fun z9 => va_P D vwCl z9 _) hq9).mp hP5
      replace hD5 := (congrArg (fun z9 => va_D _ z9) hq9).mp hD5
      clear hq9
      have hq9 : ([eO cy ee sa (nI (te T n ps)) 2 (nI (nvC T ps i)), pO cy ee (nI n), ia cy (ee 2) 120 T]) = ([eO cy ee sa (nI (te T n ps)) 2 (nI (numV T n ps)), pO cy ee (nI n), ia cy (ee 2) 120 T]) := congrArg (fun z9 => [eO cy ee sa (nI (te T n ps)) 2 z9, pO cy ee (nI n), ia cy (ee 2) 120 T]) (show (nI (nvC T ps i)) = (nI (numV T n ps)) from by rw [hnv])
      replace hP5 := (congrArg (fun z9 => va_P D vwCl z9 _) hq9).mp hP5
      replace hD5 := (congrArg (fun z9 => va_D _ z9) hq9).mp hD5
      clear hq9
      refine re_v () hx hb hr hlocks hP5 hD5 hS5 dX4_passNumber_86 ?_
      exact (trivial)
    · have hd9 := (dg_9 c_38).2.2
      have hc9 := nvC_le T ps i
      refine lv_aload_n hx hb dX4_passNumber_41 rfl (lv_at hl1 0 rfl) ?_
      refine lv_aload_n hx hb dX4_passNumber_42 rfl (lv_at hl1 0 rfl) ?_
      refine va_get (D := D) (ci := 4) (v := .int (nI (nvC T ps i))) (C := RX4) (T := TX4) (N := 5) hx hb hw iX4 hown hK hP5 0 rfl rfl 4 (by decide) (hw _ kw_1_234) (fun _ h9 => h9) rfl dX4_passNumber_43 ?_
      refine lv_bipush (v := 10) hx hb dX4_passNumber_46 (by decide) ?_
      refine lv_imul hx hb dX4_passNumber_48 ?_
      refine tp (show ((nI (nvC T ps i)) * 10) = nI ((nvC T ps i) * 10) from pk_mul _ _) ?_
      refine lv_aload_n hx hb dX4_passNumber_49 rfl (lv_at hl1 0 rfl) ?_
      refine va_get (D := D) (ci := 4) (v := .ref (ee 1)) (C := RX4) (T := TX4) (N := 5) hx hb hw iX4 hown hK hP5 0 rfl rfl 0 (by decide) (hw _ kw_1_228) (fun _ h9 => h9) rfl dX4_passNumber_50 ?_
      refine lv_aload_n hx hb dX4_passNumber_53 rfl (lv_at hl1 0 rfl) ?_
      refine va_get (D := D) (ci := 4) (v := .int (nI (ps + i))) (C := RX4) (T := TX4) (N := 5) hx hb hw iX4 hown hK hP5 0 rfl rfl 2 (by decide) (hw _ kw_1_232) (fun _ h9 => h9) rfl dX4_passNumber_54 ?_
      refine rV_i (wc := [pO cy ee (nI n), ia cy (ee 2) 120 T]) (rest := [.int (nI ((nvC T ps i) * 10)), .ref (ee 0)]) hx hb hml hown hw hG hK hP5 hS5 hA hl1 kc_X3_at kw_2_171 [.int (nI (ps + i))] (c_X3_at l D cy G H5.size ee n T (ps + i) (by first | omega | assumption) (by first | omega | assumption)) [1, 2] rfl 0 rfl rfl rfl rfl rfl (Nat.le_of_ble_eq_true rfl) ⟨Nat.le_of_ble_eq_true rfl, Nat.le_of_ble_eq_true rfl⟩ dX4_passNumber_57 ⟨Nat.le_of_ble_eq_true rfl, Nat.le_of_ble_eq_true rfl⟩ (fun r_57 H6 locs6 hr_57 hP6 hS6 => ?_)
      have hD6 := hD5
      clear hP5 hD5 hS5 locs5 H5
      subst hr_57
      refine lv_bipush (v := 48) hx hb dX4_passNumber_60 (by decide) ?_
      refine lv_isub hx hb dX4_passNumber_62 ?_
      refine tp (show ((bt T n (ps + i)) - 48) = nI (dg T (ps + i)) from dg_n c_38) ?_
      refine lv_iadd hx hb dX4_passNumber_63 ?_
      refine tp (show ((nI ((nvC T ps i) * 10)) + (nI (dg T (ps + i)))) = nI ((nvC T ps i) * 10 + dg T (ps + i)) from nI_add _ _) ?_
      refine lv_sipush (v := 1000) hx hb dX4_passNumber_64 (by decide) ?_
      refine va_mmin hx hb (by rw [hml]; exact hl1.1.symm) hown (hw _ kw_2_189) (hw _ kw_2_190) (hw _ kw_1_10) (hw _ kwm_min) (Nat.le_of_ble_eq_true rfl) (Nat.le_of_ble_eq_true rfl) (Nat.le_of_ble_eq_true rfl) (Nat.le_of_ble_eq_true rfl) dX4_passNumber_67 ?_
      refine tp (show (if 1000 < (nI ((nvC T ps i) * 10 + dg T (ps + i))) then 1000 else (nI ((nvC T ps i) * 10 + dg T (ps + i)))) = nI (nvC T ps (i + 1)) from nvC_n hd9) ?_
      refine pt (D := D) (ci := 4) (v := .int (nI (nvC T ps (i + 1)))) (ty := .int) (C := RX4) (T := TX4) (N := 5) (ws' := [eO cy ee sa (nI (ps + i)) 2 (nI (nvC T ps (i + 1))), pO cy ee (nI n), ia cy (ee 2) 120 T]) hx hb hw iX4 tyX4 tyX4_ok nmX4 hown hK hP6 hD6 hS6 0 rfl rfl 4 (by decide) kw_1_234 (fun _ h9 => h9) rfl (by decide +kernel) rfl rfl (Nat.le_of_ble_eq_true rfl) rfl dX4_passNumber_70 (fun H7 locs7 hP7 hD7 hS7 => ?_)
      clear hP6 hD6 hS6 locs6 H6
      refine lv_aload_n hx hb dX4_passNumber_73 rfl (lv_at hl1 0 rfl) ?_
      refine lv_dup hx hb dX4_passNumber_74 rfl ?_
      refine va_get (D := D) (ci := 4) (v := .int (nI (ps + i))) (C := RX4) (T := TX4) (N := 5) hx hb hw iX4 hown hK hP7 0 rfl rfl 2 (by decide) (hw _ kw_1_232) (fun _ h9 => h9) rfl dX4_passNumber_75 ?_
      refine lv_iconst (v := 1) hx hb dX4_passNumber_78 (by decide) ?_
      refine lv_iadd hx hb dX4_passNumber_79 ?_
      refine tp (show ((nI (ps + i)) + 1) = nI (ps + i + 1) from nI_add _ _) ?_
      refine pt (D := D) (ci := 4) (v := .int (nI (ps + i + 1))) (ty := .int) (C := RX4) (T := TX4) (N := 5) (ws' := [eO cy ee sa (nI (ps + i + 1)) 2 (nI (nvC T ps (i + 1))), pO cy ee (nI n), ia cy (ee 2) 120 T]) hx hb hw iX4 tyX4 tyX4_ok nmX4 hown hK hP7 hD7 hS7 0 rfl rfl 2 (by decide) kw_1_232 (fun _ h9 => h9) rfl (by decide +kernel) rfl rfl (Nat.le_of_ble_eq_true rfl) rfl dX4_passNumber_80 (fun H8 locs8 hP8 hD8 hS8 => ?_)
      clear hP7 hD7 hS7 locs7 H7
      have hq9 : ([eO cy ee sa (nI (ps + i + 1)) 2 (nI (nvC T ps (i + 1))), pO cy ee (nI n), ia cy (ee 2) 120 T]) = ([eO cy ee sa (nI (ps + (i + 1))) 2 (nI (nvC T ps (i + 1))), pO cy ee (nI n), ia cy (ee 2) 120 T]) := congrArg (fun z9 => [eO cy ee sa z9 2 (nI (nvC T ps (i + 1))), pO cy ee (nI n), ia cy (ee 2) 120 T]) (show (nI (ps + i + 1)) = (nI (ps + (i + 1))) from rfl)
      replace hP8 := (congrArg (fun z9 => va_P D vwCl z9 _) hq9).mp hP8
      replace hD8 := (congrArg (fun z9 => va_D _ z9) hq9).mp hD8
      clear hq9
      refine lv_goto (tgt := 10) hx hb dX4_passNumber_83 (by decide) ?_
      exact ih_10 (i + 1) (⟨(by (try dsimp only); omega), fun j9 a9 b9 => by
          try dsimp only at b9
          by_cases e9 : j9 = ps + i
          · subst e9; exact c_38
          · exact hall j9 a9 (by omega)⟩) (by (try dsimp only); omega) H8 locs8 ls1 hP8 hD8 hS8 (lv_sub hl1 [0] rfl)

theorem kc_X4_nextToken : kV yX4_nextToken cX4_nextToken 1 none 0 := ⟨kw_2_169, kw_s_3, kw_1_5, kw_2_170, by decide, by decide, by decide +kernel⟩
set_option maxHeartbeats 4000000 in
set_option maxRecDepth 100000 in
theorem c_X4_nextToken (l : Launch) (D : va_G) (cy : Nat → ClassId) (G : Nat → Nat) (sz : Nat) (ee : Nat → Nat) (n : Nat) (T : Nat → Int32) (sa : Int32) (tk : Int32) (va : Int32) (e1 : Nat) (hn : n ≤ 120) (he : e1 ≤ n) : Met l yX4_nextToken (wm yX4_nextToken cX4_nextToken 1 none) { frames := 2, cells := 0, slots := 0, locals := 41 } (va_Pc [.ref (ee 0)] (pr D (TY cy) G ([eO cy ee sa (nI e1) tk va, pO cy ee (nI n), ia cy (ee 2) 120 T]) sz)) (va_Qv (fun (u : Int32) => tkn T n (skp T n e1) = 2 → u = nI (numV T n (skp T n e1))) (fun (u : Int32) t => po D (va_A ([eO cy ee sa (nI e1) tk va, pO cy ee (nI n), ia cy (ee 2) 120 T]) sz) ([eO cy ee (nI (skp T n e1)) (nI (te T n (skp T n e1))) (tkn T n (skp T n e1)) u, pO cy ee (nI n), ia cy (ee 2) 120 T]) t) (va_A ([eO cy ee sa (nI e1) tk va, pO cy ee (nI n), ia cy (ee 2) 120 T]) sz)) 0 0 (va_A ([eO cy ee sa (nI e1) tk va, pO cy ee (nI n), ia cy (ee 2) 120 T]) sz) := by
  refine mk_rw (by decide) RX4 rfl (Nat.le_of_ble_eq_true rfl) [(0, .ref (ee 0))] rfl ?_
  intro p e s m below meth c hx hb hml hown hr hlocks hin hw hsz hA hG hK H0 locs0 hP0 hD0 hS0 ls0 hl0
  clear hin
  refine lv_aload_n hx hb dX4_nextToken_0 rfl (lv_at hl0 0 rfl) ?_
  refine lv_aload_n hx hb dX4_nextToken_1 rfl (lv_at hl0 0 rfl) ?_
  refine va_get (D := D) (ci := 4) (v := .int (nI e1)) (C := RX4) (T := TX4) (N := 5) hx hb hw iX4 hown hK hP0 0 rfl rfl 2 (by decide) (hw _ kw_1_232) (fun _ h9 => h9) rfl dX4_nextToken_2 ?_
  refine pt (D := D) (ci := 4) (v := .int (nI e1)) (ty := .int) (C := RX4) (T := TX4) (N := 5) (ws' := [eO cy ee (nI e1) (nI e1) tk va, pO cy ee (nI n), ia cy (ee 2) 120 T]) hx hb hw iX4 tyX4 tyX4_ok nmX4 hown hK hP0 hD0 hS0 0 rfl rfl 1 (by decide) kw_1_230 (fun _ h9 => h9) rfl (by decide +kernel) rfl rfl (Nat.le_of_ble_eq_true rfl) rfl dX4_nextToken_5 (fun H1 locs1 hP1 hD1 hS1 => ?_)
  clear hP0 hD0 hS0 locs0 H0
  refine wlp (ι := Nat) (nL := 1) (fun x9 => (e1 ≤ x9) ∧ (x9 ≤ n) ∧ (∀ j, e1 ≤ j → j < x9 → bt T n j = 32)) (fun x9 => [eO cy ee (nI x9) (nI e1) tk va, pO cy ee (nI n), ia cy (ee 2) 120 T]) (fun x9 => [(0, .ref (ee 0))]) (fun x9 => []) (fun x9 => n - x9) 8 ?_ e1 (⟨Nat.le_refl _, (by omega), fun j9 a9 b9 => absurd b9 (by omega)⟩) rfl hP1 hD1 hS1 (lv_sub hl0 [0] rfl)
  clear hP1 hD1 hS1 locs1 H1 hl0 ls0
  intro x9 hI ih_8 H2 locs2 ls1 hP2 hD2 hS2 hl1
  obtain ⟨k, rfl⟩ : ∃ z9, z9 = x9 := ⟨_, rfl⟩
  obtain ⟨h1, h2, hall⟩ := hI
  replace h1 : e1 ≤ k := h1
  replace h2 : k ≤ n := h2
  replace hall : ∀ j, e1 ≤ j → j < k → bt T n j = 32 := hall
  replace hP2 : va_P D vwCl ([eO cy ee (nI k) (nI e1) tk va, pO cy ee (nI n), ia cy (ee 2) 120 T]) H2 := hP2
  replace hD2 : va_D (va_A _ sz) ([eO cy ee (nI k) (nI e1) tk va, pO cy ee (nI n), ia cy (ee 2) 120 T]) := hD2
  replace hl1 : lv_has ls1 1 [(0, .ref (ee 0))] := hl1
  show W p l e _ s m _ below meth c _ _ _ _ _ (F0 m 8 ls1 [])
  refine lv_aload_n hx hb dX4_nextToken_8 rfl (lv_at hl1 0 rfl) ?_
  refine va_get (D := D) (ci := 4) (v := .int (nI k)) (C := RX4) (T := TX4) (N := 5) hx hb hw iX4 hown hK hP2 0 rfl rfl 1 (by decide) (hw _ kw_1_230) (fun _ h9 => h9) rfl dX4_nextToken_9 ?_
  refine lv_aload_n hx hb dX4_nextToken_12 rfl (lv_at hl1 0 rfl) ?_
  refine va_get (D := D) (ci := 4) (v := .ref (ee 1)) (C := RX4) (T := TX4) (N := 5) hx hb hw iX4 hown hK hP2 0 rfl rfl 0 (by decide) (hw _ kw_1_228) (fun _ h9 => h9) rfl dX4_nextToken_13 ?_
  refine va_get (D := D) (ci := 3) (v := .int (nI n)) (C := RX3) (T := TX3) (N := 2) hx hb hw iX3 hown hK hP2 1 rfl rfl 1 (by decide) (hw _ kw_1_222) (fun _ h9 => h9) rfl dX4_nextToken_16 ?_
  refine ln_ge (tgt := 51) k n rfl rfl (by omega) (by omega) hx hb dX4_nextToken_19 (by decide) (fun c_19 => ?_) (fun c_19 => ?_)
  · have hsk : k = skp T n e1 := (skp_eq h1 h2 hall (not32 c_19)).symm
    refine lv_aload_n hx hb dX4_nextToken_51 rfl (lv_at hl1 0 rfl) ?_
    refine lv_aload_n hx hb dX4_nextToken_52 rfl (lv_at hl1 0 rfl) ?_
    refine va_get (D := D) (ci := 4) (v := .int (nI k)) (C := RX4) (T := TX4) (N := 5) hx hb hw iX4 hown hK hP2 0 rfl rfl 1 (by decide) (hw _ kw_1_230) (fun _ h9 => h9) rfl dX4_nextToken_53 ?_
    refine pt (D := D) (ci := 4) (v := .int (nI k)) (ty := .int) (C := RX4) (T := TX4) (N := 5) (ws' := [eO cy ee (nI k) (nI k) tk va, pO cy ee (nI n), ia cy (ee 2) 120 T]) hx hb hw iX4 tyX4 tyX4_ok nmX4 hown hK hP2 hD2 hS2 0 rfl rfl 2 (by decide) kw_1_232 (fun _ h9 => h9) rfl (by decide +kernel) rfl rfl (Nat.le_of_ble_eq_true rfl) rfl dX4_nextToken_56 (fun H3 locs3 hP3 hD3 hS3 => ?_)
    clear hP2 hD2 hS2 locs2 H2
    refine lv_aload_n hx hb dX4_nextToken_59 rfl (lv_at hl1 0 rfl) ?_
    refine va_get (D := D) (ci := 4) (v := .int (nI k)) (C := RX4) (T := TX4) (N := 5) hx hb hw iX4 hown hK hP3 0 rfl rfl 1 (by decide) (hw _ kw_1_230) (fun _ h9 => h9) rfl dX4_nextToken_60 ?_
    refine lv_aload_n hx hb dX4_nextToken_63 rfl (lv_at hl1 0 rfl) ?_
    refine va_get (D := D) (ci := 4) (v := .ref (ee 1)) (C := RX4) (T := TX4) (N := 5) hx hb hw iX4 hown hK hP3 0 rfl rfl 0 (by decide) (hw _ kw_1_228) (fun _ h9 => h9) rfl dX4_nextToken_64 ?_
    refine va_get (D := D) (ci := 3) (v := .int (nI n)) (C := RX3) (T := TX3) (N := 2) hx hb hw iX3 hown hK hP3 1 rfl rfl 1 (by decide) (hw _ kw_1_222) (fun _ h9 => h9) rfl dX4_nextToken_67 ?_
    refine ln_lt (tgt := 81) k n rfl rfl (by omega) (by omega) hx hb dX4_nextToken_70 (by decide) (fun c_70 => ?_) (fun c_70 => ?_)
    · refine lv_aload_n hx hb dX4_nextToken_81 rfl (lv_at hl1 0 rfl) ?_
      refine va_get (D := D) (ci := 4) (v := .ref (ee 1)) (C := RX4) (T := TX4) (N := 5) hx hb hw iX4 hown hK hP3 0 rfl rfl 0 (by decide) (hw _ kw_1_228) (fun _ h9 => h9) rfl dX4_nextToken_82 ?_
      refine lv_aload_n hx hb dX4_nextToken_85 rfl (lv_at hl1 0 rfl) ?_
      refine va_get (D := D) (ci := 4) (v := .int (nI k)) (C := RX4) (T := TX4) (N := 5) hx hb hw iX4 hown hK hP3 0 rfl rfl 1 (by decide) (hw _ kw_1_230) (fun _ h9 => h9) rfl dX4_nextToken_86 ?_
      refine rV_i (wc := [pO cy ee (nI n), ia cy (ee 2) 120 T]) (rest := []) hx hb hml hown hw hG hK hP3 hS3 hA hl1 kc_X3_at kw_2_171 [.int (nI k)] (c_X3_at l D cy G H3.size ee n T k (by first | omega | assumption) (by first | omega | assumption)) [1, 2] rfl 0 rfl rfl rfl rfl rfl (Nat.le_of_ble_eq_true rfl) ⟨Nat.le_of_ble_eq_true rfl, Nat.le_of_ble_eq_true rfl⟩ dX4_nextToken_89 ⟨Nat.le_of_ble_eq_true rfl, Nat.le_of_ble_eq_true rfl⟩ (fun r_89 H4 locs4 hr_89 hP4 hS4 => ?_)
      have hD4 := hD3
      clear hP3 hD3 hS3 locs3 H3
      subst hr_89
      refine rT_i (wc := []) (rest := []) hx hb hml hown hw hG hK hP4 hS4 hA hl1 kc_X4_isLetter kw_2_175 [.int (bt T n k)] (c_X4_isLetter l D cy G H4.size (bt T n k)) [] rfl rfl rfl (Nat.le_of_ble_eq_true rfl) ⟨Nat.le_of_ble_eq_true rfl, Nat.le_of_ble_eq_true rfl⟩ dX4_nextToken_92 ⟨Nat.le_of_ble_eq_true rfl, Nat.le_of_ble_eq_true rfl⟩ (fun r_92 H5 locs5 hr_92 hP5 hS5 => ?_)
      have hD5 := hD4
      clear hP4 hD4 hS4 locs4 H4
      subst hr_92
      refine lb_eq (tgt := 105) hx hb dX4_nextToken_95 (by decide) (fun c_95 => ?_) (fun c_95 => ?_)
      · refine lv_aload_n hx hb dX4_nextToken_105 rfl (lv_at hl1 0 rfl) ?_
        refine va_get (D := D) (ci := 4) (v := .ref (ee 1)) (C := RX4) (T := TX4) (N := 5) hx hb hw iX4 hown hK hP5 0 rfl rfl 0 (by decide) (hw _ kw_1_228) (fun _ h9 => h9) rfl dX4_nextToken_106 ?_
        refine lv_aload_n hx hb dX4_nextToken_109 rfl (lv_at hl1 0 rfl) ?_
        refine va_get (D := D) (ci := 4) (v := .int (nI k)) (C := RX4) (T := TX4) (N := 5) hx hb hw iX4 hown hK hP5 0 rfl rfl 1 (by decide) (hw _ kw_1_230) (fun _ h9 => h9) rfl dX4_nextToken_110 ?_
        refine rV_i (wc := [pO cy ee (nI n), ia cy (ee 2) 120 T]) (rest := []) hx hb hml hown hw hG hK hP5 hS5 hA hl1 kc_X3_at kw_2_171 [.int (nI k)] (c_X3_at l D cy G H5.size ee n T k (by first | omega | assumption) (by first | omega | assumption)) [1, 2] rfl 0 rfl rfl rfl rfl rfl (Nat.le_of_ble_eq_true rfl) ⟨Nat.le_of_ble_eq_true rfl, Nat.le_of_ble_eq_true rfl⟩ dX4_nextToken_113 ⟨Nat.le_of_ble_eq_true rfl, Nat.le_of_ble_eq_true rfl⟩ (fun r_113 H6 locs6 hr_113 hP6 hS6 => ?_)
        have hD6 := hD5
        clear hP5 hD5 hS5 locs5 H5
        subst hr_113
        refine rT_i (wc := []) (rest := []) hx hb hml hown hw hG hK hP6 hS6 hA hl1 kc_X4_isDigit kw_2_182 [.int (bt T n k)] (c_X4_isDigit l D cy G H6.size (bt T n k)) [] rfl rfl rfl (Nat.le_of_ble_eq_true rfl) ⟨Nat.le_of_ble_eq_true rfl, Nat.le_of_ble_eq_true rfl⟩ dX4_nextToken_116 ⟨Nat.le_of_ble_eq_true rfl, Nat.le_of_ble_eq_true rfl⟩ (fun r_116 H7 locs7 hr_116 hP7 hS7 => ?_)
        have hD7 := hD6
        clear hP6 hD6 hS6 locs6 H6
        subst hr_116
        refine lb_eq (tgt := 129) hx hb dX4_nextToken_119 (by decide) (fun c_119 => ?_) (fun c_119 => ?_)
        · refine lv_aload_n hx hb dX4_nextToken_129 rfl (lv_at hl1 0 rfl) ?_
          refine lv_aload_n hx hb dX4_nextToken_130 rfl (lv_at hl1 0 rfl) ?_
          refine va_get (D := D) (ci := 4) (v := .ref (ee 1)) (C := RX4) (T := TX4) (N := 5) hx hb hw iX4 hown hK hP7 0 rfl rfl 0 (by decide) (hw _ kw_1_228) (fun _ h9 => h9) rfl dX4_nextToken_131 ?_
          refine lv_aload_n hx hb dX4_nextToken_134 rfl (lv_at hl1 0 rfl) ?_
          refine va_get (D := D) (ci := 4) (v := .int (nI k)) (C := RX4) (T := TX4) (N := 5) hx hb hw iX4 hown hK hP7 0 rfl rfl 1 (by decide) (hw _ kw_1_230) (fun _ h9 => h9) rfl dX4_nextToken_135 ?_
          refine rV_i (wc := [pO cy ee (nI n), ia cy (ee 2) 120 T]) (rest := [.ref (ee 0)]) hx hb hml hown hw hG hK hP7 hS7 hA hl1 kc_X3_at kw_2_171 [.int (nI k)] (c_X3_at l D cy G H7.size ee n T k (by first | omega | assumption) (by first | omega | assumption)) [1, 2] rfl 0 rfl rfl rfl rfl rfl (Nat.le_of_ble_eq_true rfl) ⟨Nat.le_of_ble_eq_true rfl, Nat.le_of_ble_eq_true rfl⟩ dX4_nextToken_138 ⟨Nat.le_of_ble_eq_true rfl, Nat.le_of_ble_eq_true rfl⟩ (fun r_138 H8 locs8 hr_138 hP8 hS8 => ?_)
          have hD8 := hD7
          clear hP7 hD7 hS7 locs7 H7
          subst hr_138
          refine lv_bipush (v := 44) hx hb dX4_nextToken_141 (by decide) ?_
          refine lv_icmp_ne (tgt := 150) hx hb dX4_nextToken_143 (by decide) (fun c_143 => ?_) (fun c_143 => ?_)
          · refine lv_iconst (v := 4) hx hb dX4_nextToken_150 (by decide) ?_
            refine pt (D := D) (ci := 4) (v := .int 4) (ty := .int) (C := RX4) (T := TX4) (N := 5) (ws' := [eO cy ee (nI k) (nI k) 4 va, pO cy ee (nI n), ia cy (ee 2) 120 T]) hx hb hw iX4 tyX4 tyX4_ok nmX4 hown hK hP8 hD8 hS8 0 rfl rfl 3 (by decide) kw_1_233 (fun _ h9 => h9) rfl (by decide +kernel) rfl rfl (Nat.le_of_ble_eq_true rfl) rfl dX4_nextToken_151 (fun H9 locs9 hP9 hD9 hS9 => ?_)
            clear hP8 hD8 hS8 locs8 H8
            refine lv_aload_n hx hb dX4_nextToken_154 rfl (lv_at hl1 0 rfl) ?_
            refine lv_aload_n hx hb dX4_nextToken_155 rfl (lv_at hl1 0 rfl) ?_
            refine va_get (D := D) (ci := 4) (v := .int (nI k)) (C := RX4) (T := TX4) (N := 5) hx hb hw iX4 hown hK hP9 0 rfl rfl 1 (by decide) (hw _ kw_1_230) (fun _ h9 => h9) rfl dX4_nextToken_156 ?_
            refine lv_iconst (v := 1) hx hb dX4_nextToken_159 (by decide) ?_
            refine lv_iadd hx hb dX4_nextToken_160 ?_
            refine tp (show ((nI k) + 1) = nI (k + 1) from nI_add _ _) ?_
            refine pt (D := D) (ci := 4) (v := .int (nI (k + 1))) (ty := .int) (C := RX4) (T := TX4) (N := 5) (ws' := [eO cy ee (nI k) (nI (k + 1)) 4 va, pO cy ee (nI n), ia cy (ee 2) 120 T]) hx hb hw iX4 tyX4 tyX4_ok nmX4 hown hK hP9 hD9 hS9 0 rfl rfl 2 (by decide) kw_1_232 (fun _ h9 => h9) rfl (by decide +kernel) rfl rfl (Nat.le_of_ble_eq_true rfl) rfl dX4_nextToken_161 (fun H10 locs10 hP10 hD10 hS10 => ?_)
            clear hP9 hD9 hS9 locs9 H9
            have hq9 : ([eO cy ee (nI k) (nI (k + 1)) 4 va, pO cy ee (nI n), ia cy (ee 2) 120 T]) = ([eO cy ee (nI k) (nI (te T n k)) 4 va, pO cy ee (nI n), ia cy (ee 2) 120 T]) := congrArg (fun z9 => [eO cy ee (nI k) z9 4 va, pO cy ee (nI n), ia cy (ee 2) 120 T]) (show (nI (k + 1)) = (nI (te T n k)) from congrArg nI (te_o c_70 c_95 c_119).symm)
            replace hP10 := (congrArg (fun z9 => va_P D vwCl z9 _) hq9).mp hP10
            replace hD10 := (congrArg (fun z9 => va_D _ z9) hq9).mp hD10
            clear hq9
            have hq9 : ([eO cy ee (nI k) (nI (te T n k)) 4 va, pO cy ee (nI n), ia cy (ee 2) 120 T]) = ([eO cy ee (nI k) (nI (te T n k)) (tkn T n k) va, pO cy ee (nI n), ia cy (ee 2) 120 T]) := congrArg (fun z9 => [eO cy ee (nI k) (nI (te T n k)) z9 va, pO cy ee (nI n), ia cy (ee 2) 120 T]) (show 4 = (tkn T n k) from (tkn_4 c_70 c_95 c_119 c_143).symm)
            replace hP10 := (congrArg (fun z9 => va_P D vwCl z9 _) hq9).mp hP10
            replace hD10 := (congrArg (fun z9 => va_D _ z9) hq9).mp hD10
            clear hq9
            subst hsk
            refine re_v va hx hb hr hlocks hP10 hD10 hS10 dX4_nextToken_164 ?_
            exact (fun z9 => absurd ((tkn_4 c_70 c_95 c_119 c_143).symm.trans z9) (by decide))
          · refine lv_iconst (v := 3) hx hb dX4_nextToken_146 (by decide) ?_
            refine lv_goto (tgt := 151) hx hb dX4_nextToken_147 (by decide) ?_
            refine pt (D := D) (ci := 4) (v := .int 3) (ty := .int) (C := RX4) (T := TX4) (N := 5) (ws' := [eO cy ee (nI k) (nI k) 3 va, pO cy ee (nI n), ia cy (ee 2) 120 T]) hx hb hw iX4 tyX4 tyX4_ok nmX4 hown hK hP8 hD8 hS8 0 rfl rfl 3 (by decide) kw_1_233 (fun _ h9 => h9) rfl (by decide +kernel) rfl rfl (Nat.le_of_ble_eq_true rfl) rfl dX4_nextToken_151 (fun H9 locs9 hP9 hD9 hS9 => ?_)
            clear hP8 hD8 hS8 locs8 H8
            refine lv_aload_n hx hb dX4_nextToken_154 rfl (lv_at hl1 0 rfl) ?_
            refine lv_aload_n hx hb dX4_nextToken_155 rfl (lv_at hl1 0 rfl) ?_
            refine va_get (D := D) (ci := 4) (v := .int (nI k)) (C := RX4) (T := TX4) (N := 5) hx hb hw iX4 hown hK hP9 0 rfl rfl 1 (by decide) (hw _ kw_1_230) (fun _ h9 => h9) rfl dX4_nextToken_156 ?_
            refine lv_iconst (v := 1) hx hb dX4_nextToken_159 (by decide) ?_
            refine lv_iadd hx hb dX4_nextToken_160 ?_
            refine tp (show ((nI k) + 1) = nI (k + 1) from nI_add _ _) ?_
            refine pt (D := D) (ci := 4) (v := .int (nI (k + 1))) (ty := .int) (C := RX4) (T := TX4) (N := 5) (ws' := [eO cy ee (nI k) (nI (k + 1)) 3 va, pO cy ee (nI n), ia cy (ee 2) 120 T]) hx hb hw iX4 tyX4 tyX4_ok nmX4 hown hK hP9 hD9 hS9 0 rfl rfl 2 (by decide) kw_1_232 (fun _ h9 => h9) rfl (by decide +kernel) rfl rfl (Nat.le_of_ble_eq_true rfl) rfl dX4_nextToken_161 (fun H10 locs10 hP10 hD10 hS10 => ?_)
            clear hP9 hD9 hS9 locs9 H9
            have hq9 : ([eO cy ee (nI k) (nI (k + 1)) 3 va, pO cy ee (nI n), ia cy (ee 2) 120 T]) = ([eO cy ee (nI k) (nI (te T n k)) 3 va, pO cy ee (nI n), ia cy (ee 2) 120 T]) := congrArg (fun z9 => [eO cy ee (nI k) z9 3 va, pO cy ee (nI n), ia cy (ee 2) 120 T]) (show (nI (k + 1)) = (nI (te T n k)) from congrArg nI (te_o c_70 c_95 c_119).symm)
            replace hP10 := (congrArg (fun z9 => va_P D vwCl z9 _) hq9).mp hP10
            replace hD10 := (congrArg (fun z9 => va_D _ z9) hq9).mp hD10
            clear hq9
            have hq9 : ([eO cy ee (nI k) (nI (te T n k)) 3 va, pO cy ee (nI n), ia cy (ee 2) 120 T]) = ([eO cy ee (nI k) (nI (te T n k)) (tkn T n k) va, pO cy ee (nI n), ia cy (ee 2) 120 T]) := congrArg (fun z9 => [eO cy ee (nI k) (nI (te T n k)) z9 va, pO cy ee (nI n), ia cy (ee 2) 120 T]) (show 3 = (tkn T n k) from (tkn_3 c_70 c_95 c_119 c_143).symm)
            replace hP10 := (congrArg (fun z9 => va_P D vwCl z9 _) hq9).mp hP10
            replace hD10 := (congrArg (fun z9 => va_D _ z9) hq9).mp hD10
            clear hq9
            subst hsk
            refine re_v va hx hb hr hlocks hP10 hD10 hS10 dX4_nextToken_164 ?_
            exact (fun z9 => absurd ((tkn_3 c_70 c_95 c_119 c_143).symm.trans z9) (by decide))
        · refine lv_aload_n hx hb dX4_nextToken_122 rfl (lv_at hl1 0 rfl) ?_
          refine cV_v (wc := [eO cy ee (nI k) (nI k) tk va, pO cy ee (nI n), ia cy (ee 2) 120 T]) (wr := []) (rest := []) hx hb hml hown hw hG hK hP7 hD7 hS7 hA hl1 kc_X4_passNumber kw_2_185 [] (c_X4_passNumber l D cy G H7.size ee n T k (nI k) tk va (by first | omega | assumption) c_70 c_119) [0, 1, 2] [] rfl rfl rfl rfl rfl 0 rfl rfl rfl rfl rfl (Nat.le_of_ble_eq_true rfl) ⟨Nat.le_of_ble_eq_true rfl, Nat.le_of_ble_eq_true rfl⟩ dX4_nextToken_123 ⟨Nat.le_of_ble_eq_true rfl, Nat.le_of_ble_eq_true rfl⟩ (fun u9 H8 locs8 hu9 hP8 hD8 hS8 => ?_)
          clear hP7 hD7 hS7 locs7 H7
          replace hP8 : va_P D vwCl ([eO cy ee (nI k) (nI (te T n k)) 2 (nI (numV T n k)), pO cy ee (nI n), ia cy (ee 2) 120 T]) H8 := hP8
          replace hD8 : va_D (va_A _ sz) ([eO cy ee (nI k) (nI (te T n k)) 2 (nI (numV T n k)), pO cy ee (nI n), ia cy (ee 2) 120 T]) := hD8
          refine lv_goto (tgt := 164) hx hb dX4_nextToken_126 (by decide) ?_
          have hq9 : ([eO cy ee (nI k) (nI (te T n k)) 2 (nI (numV T n k)), pO cy ee (nI n), ia cy (ee 2) 120 T]) = ([eO cy ee (nI k) (nI (te T n k)) (tkn T n k) (nI (numV T n k)), pO cy ee (nI n), ia cy (ee 2) 120 T]) := congrArg (fun z9 => [eO cy ee (nI k) (nI (te T n k)) z9 (nI (numV T n k)), pO cy ee (nI n), ia cy (ee 2) 120 T]) (show 2 = (tkn T n k) from (tkn_D c_70 c_119).symm)
          replace hP8 := (congrArg (fun z9 => va_P D vwCl z9 _) hq9).mp hP8
          replace hD8 := (congrArg (fun z9 => va_D _ z9) hq9).mp hD8
          clear hq9
          subst hsk
          refine re_v (nI (numV T n (skp T n e1))) hx hb hr hlocks hP8 hD8 hS8 dX4_nextToken_164 ?_
          exact (fun _ => rfl)
      · refine lv_aload_n hx hb dX4_nextToken_98 rfl (lv_at hl1 0 rfl) ?_
        refine cV_v (wc := [eO cy ee (nI k) (nI k) tk va, pO cy ee (nI n), ia cy (ee 2) 120 T]) (wr := []) (rest := []) hx hb hml hown hw hG hK hP5 hD5 hS5 hA hl1 kc_X4_passWord kw_2_178 [] (c_X4_passWord l D cy G H5.size ee n T k (nI k) tk va (by first | omega | assumption) c_70 c_95) [0, 1, 2] [] rfl rfl rfl rfl rfl 0 rfl rfl rfl rfl rfl (Nat.le_of_ble_eq_true rfl) ⟨Nat.le_of_ble_eq_true rfl, Nat.le_of_ble_eq_true rfl⟩ dX4_nextToken_99 ⟨Nat.le_of_ble_eq_true rfl, Nat.le_of_ble_eq_true rfl⟩ (fun u9 H6 locs6 hu9 hP6 hD6 hS6 => ?_)
        clear hP5 hD5 hS5 locs5 H5
        replace hP6 : va_P D vwCl ([eO cy ee (nI k) (nI (te T n k)) 1 va, pO cy ee (nI n), ia cy (ee 2) 120 T]) H6 := hP6
        replace hD6 : va_D (va_A _ sz) ([eO cy ee (nI k) (nI (te T n k)) 1 va, pO cy ee (nI n), ia cy (ee 2) 120 T]) := hD6
        refine lv_goto (tgt := 164) hx hb dX4_nextToken_102 (by decide) ?_
        have hq9 : ([eO cy ee (nI k) (nI (te T n k)) 1 va, pO cy ee (nI n), ia cy (ee 2) 120 T]) = ([eO cy ee (nI k) (nI (te T n k)) (tkn T n k) va, pO cy ee (nI n), ia cy (ee 2) 120 T]) := congrArg (fun z9 => [eO cy ee (nI k) (nI (te T n k)) z9 va, pO cy ee (nI n), ia cy (ee 2) 120 T]) (show 1 = (tkn T n k) from (tkn_L c_70 c_95).symm)
        replace hP6 := (congrArg (fun z9 => va_P D vwCl z9 _) hq9).mp hP6
        replace hD6 := (congrArg (fun z9 => va_D _ z9) hq9).mp hD6
        clear hq9
        subst hsk
        refine re_v va hx hb hr hlocks hP6 hD6 hS6 dX4_nextToken_164 ?_
        exact (fun z9 => absurd ((tkn_L c_70 c_95).symm.trans z9) (by decide))
    · refine lv_aload_n hx hb dX4_nextToken_73 rfl (lv_at hl1 0 rfl) ?_
      refine lv_iconst (v := 0) hx hb dX4_nextToken_74 (by decide) ?_
      refine pt (D := D) (ci := 4) (v := .int 0) (ty := .int) (C := RX4) (T := TX4) (N := 5) (ws' := [eO cy ee (nI k) (nI k) 0 va, pO cy ee (nI n), ia cy (ee 2) 120 T]) hx hb hw iX4 tyX4 tyX4_ok nmX4 hown hK hP3 hD3 hS3 0 rfl rfl 3 (by decide) kw_1_233 (fun _ h9 => h9) rfl (by decide +kernel) rfl rfl (Nat.le_of_ble_eq_true rfl) rfl dX4_nextToken_75 (fun H4 locs4 hP4 hD4 hS4 => ?_)
      clear hP3 hD3 hS3 locs3 H3
      refine lv_goto (tgt := 164) hx hb dX4_nextToken_78 (by decide) ?_
      have hq9 : ([eO cy ee (nI k) (nI k) 0 va, pO cy ee (nI n), ia cy (ee 2) 120 T]) = ([eO cy ee (nI k) (nI (te T n k)) 0 va, pO cy ee (nI n), ia cy (ee 2) 120 T]) := congrArg (fun z9 => [eO cy ee (nI k) z9 0 va, pO cy ee (nI n), ia cy (ee 2) 120 T]) (show (nI k) = (nI (te T n k)) from congrArg nI (te_e c_70).symm)
      replace hP4 := (congrArg (fun z9 => va_P D vwCl z9 _) hq9).mp hP4
      replace hD4 := (congrArg (fun z9 => va_D _ z9) hq9).mp hD4
      clear hq9
      have hq9 : ([eO cy ee (nI k) (nI (te T n k)) 0 va, pO cy ee (nI n), ia cy (ee 2) 120 T]) = ([eO cy ee (nI k) (nI (te T n k)) (tkn T n k) va, pO cy ee (nI n), ia cy (ee 2) 120 T]) := congrArg (fun z9 => [eO cy ee (nI k) (nI (te T n k)) z9 va, pO cy ee (nI n), ia cy (ee 2) 120 T]) (show 0 = (tkn T n k) from (tkn_e c_70).symm)
      replace hP4 := (congrArg (fun z9 => va_P D vwCl z9 _) hq9).mp hP4
      replace hD4 := (congrArg (fun z9 => va_D _ z9) hq9).mp hD4
      clear hq9
      subst hsk
      refine re_v va hx hb hr hlocks hP4 hD4 hS4 dX4_nextToken_164 ?_
      exact (fun z9 => absurd ((tkn_e c_70).symm.trans z9) (by decide))
  · refine lv_aload_n hx hb dX4_nextToken_22 rfl (lv_at hl1 0 rfl) ?_
    refine va_get (D := D) (ci := 4) (v := .ref (ee 1)) (C := RX4) (T := TX4) (N := 5) hx hb hw iX4 hown hK hP2 0 rfl rfl 0 (by decide) (hw _ kw_1_228) (fun _ h9 => h9) rfl dX4_nextToken_23 ?_
    refine lv_aload_n hx hb dX4_nextToken_26 rfl (lv_at hl1 0 rfl) ?_
    refine va_get (D := D) (ci := 4) (v := .int (nI k)) (C := RX4) (T := TX4) (N := 5) hx hb hw iX4 hown hK hP2 0 rfl rfl 1 (by decide) (hw _ kw_1_230) (fun _ h9 => h9) rfl dX4_nextToken_27 ?_
    refine rV_i (wc := [pO cy ee (nI n), ia cy (ee 2) 120 T]) (rest := []) hx hb hml hown hw hG hK hP2 hS2 hA hl1 kc_X3_at kw_2_171 [.int (nI k)] (c_X3_at l D cy G H2.size ee n T k (by first | omega | assumption) (by first | omega | assumption)) [1, 2] rfl 0 rfl rfl rfl rfl rfl (Nat.le_of_ble_eq_true rfl) ⟨Nat.le_of_ble_eq_true rfl, Nat.le_of_ble_eq_true rfl⟩ dX4_nextToken_30 ⟨Nat.le_of_ble_eq_true rfl, Nat.le_of_ble_eq_true rfl⟩ (fun r_30 H3 locs3 hr_30 hP3 hS3 => ?_)
    have hD3 := hD2
    clear hP2 hD2 hS2 locs2 H2
    subst hr_30
    refine lv_bipush (v := 32) hx hb dX4_nextToken_33 (by decide) ?_
    refine lv_icmp_ne (tgt := 51) hx hb dX4_nextToken_35 (by decide) (fun c_35 => ?_) (fun c_35 => ?_)
    · have hsk : k = skp T n e1 := (skp_eq h1 h2 hall c_35).symm
      refine lv_aload_n hx hb dX4_nextToken_51 rfl (lv_at hl1 0 rfl) ?_
      refine lv_aload_n hx hb dX4_nextToken_52 rfl (lv_at hl1 0 rfl) ?_
      refine va_get (D := D) (ci := 4) (v := .int (nI k)) (C := RX4) (T := TX4) (N := 5) hx hb hw iX4 hown hK hP3 0 rfl rfl 1 (by decide) (hw _ kw_1_230) (fun _ h9 => h9) rfl dX4_nextToken_53 ?_
      refine pt (D := D) (ci := 4) (v := .int (nI k)) (ty := .int) (C := RX4) (T := TX4) (N := 5) (ws' := [eO cy ee (nI k) (nI k) tk va, pO cy ee (nI n), ia cy (ee 2) 120 T]) hx hb hw iX4 tyX4 tyX4_ok nmX4 hown hK hP3 hD3 hS3 0 rfl rfl 2 (by decide) kw_1_232 (fun _ h9 => h9) rfl (by decide +kernel) rfl rfl (Nat.le_of_ble_eq_true rfl) rfl dX4_nextToken_56 (fun H4 locs4 hP4 hD4 hS4 => ?_)
      clear hP3 hD3 hS3 locs3 H3
      refine lv_aload_n hx hb dX4_nextToken_59 rfl (lv_at hl1 0 rfl) ?_
      refine va_get (D := D) (ci := 4) (v := .int (nI k)) (C := RX4) (T := TX4) (N := 5) hx hb hw iX4 hown hK hP4 0 rfl rfl 1 (by decide) (hw _ kw_1_230) (fun _ h9 => h9) rfl dX4_nextToken_60 ?_
      refine lv_aload_n hx hb dX4_nextToken_63 rfl (lv_at hl1 0 rfl) ?_
      refine va_get (D := D) (ci := 4) (v := .ref (ee 1)) (C := RX4) (T := TX4) (N := 5) hx hb hw iX4 hown hK hP4 0 rfl rfl 0 (by decide) (hw _ kw_1_228) (fun _ h9 => h9) rfl dX4_nextToken_64 ?_
      refine va_get (D := D) (ci := 3) (v := .int (nI n)) (C := RX3) (T := TX3) (N := 2) hx hb hw iX3 hown hK hP4 1 rfl rfl 1 (by decide) (hw _ kw_1_222) (fun _ h9 => h9) rfl dX4_nextToken_67 ?_
      refine ln_lt (tgt := 81) k n rfl rfl (by omega) (by omega) hx hb dX4_nextToken_70 (by decide) (fun c_70 => ?_) (fun c_70 => ?_)
      · refine lv_aload_n hx hb dX4_nextToken_81 rfl (lv_at hl1 0 rfl) ?_
        refine va_get (D := D) (ci := 4) (v := .ref (ee 1)) (C := RX4) (T := TX4) (N := 5) hx hb hw iX4 hown hK hP4 0 rfl rfl 0 (by decide) (hw _ kw_1_228) (fun _ h9 => h9) rfl dX4_nextToken_82 ?_
        refine lv_aload_n hx hb dX4_nextToken_85 rfl (lv_at hl1 0 rfl) ?_
        refine va_get (D := D) (ci := 4) (v := .int (nI k)) (C := RX4) (T := TX4) (N := 5) hx hb hw iX4 hown hK hP4 0 rfl rfl 1 (by decide) (hw _ kw_1_230) (fun _ h9 => h9) rfl dX4_nextToken_86 ?_
        refine rV_i (wc := [pO cy ee (nI n), ia cy (ee 2) 120 T]) (rest := []) hx hb hml hown hw hG hK hP4 hS4 hA hl1 kc_X3_at kw_2_171 [.int (nI k)] (c_X3_at l D cy G H4.size ee n T k (by first | omega | assumption) (by first | omega | assumption)) [1, 2] rfl 0 rfl rfl rfl rfl rfl (Nat.le_of_ble_eq_true rfl) ⟨Nat.le_of_ble_eq_true rfl, Nat.le_of_ble_eq_true rfl⟩ dX4_nextToken_89 ⟨Nat.le_of_ble_eq_true rfl, Nat.le_of_ble_eq_true rfl⟩ (fun r_89 H5 locs5 hr_89 hP5 hS5 => ?_)
        have hD5 := hD4
        clear hP4 hD4 hS4 locs4 H4
        subst hr_89
        refine rT_i (wc := []) (rest := []) hx hb hml hown hw hG hK hP5 hS5 hA hl1 kc_X4_isLetter kw_2_175 [.int (bt T n k)] (c_X4_isLetter l D cy G H5.size (bt T n k)) [] rfl rfl rfl (Nat.le_of_ble_eq_true rfl) ⟨Nat.le_of_ble_eq_true rfl, Nat.le_of_ble_eq_true rfl⟩ dX4_nextToken_92 ⟨Nat.le_of_ble_eq_true rfl, Nat.le_of_ble_eq_true rfl⟩ (fun r_92 H6 locs6 hr_92 hP6 hS6 => ?_)
        have hD6 := hD5
        clear hP5 hD5 hS5 locs5 H5
        subst hr_92
        refine lb_eq (tgt := 105) hx hb dX4_nextToken_95 (by decide) (fun c_95 => ?_) (fun c_95 => ?_)
        · refine lv_aload_n hx hb dX4_nextToken_105 rfl (lv_at hl1 0 rfl) ?_
          refine va_get (D := D) (ci := 4) (v := .ref (ee 1)) (C := RX4) (T := TX4) (N := 5) hx hb hw iX4 hown hK hP6 0 rfl rfl 0 (by decide) (hw _ kw_1_228) (fun _ h9 => h9) rfl dX4_nextToken_106 ?_
          refine lv_aload_n hx hb dX4_nextToken_109 rfl (lv_at hl1 0 rfl) ?_
          refine va_get (D := D) (ci := 4) (v := .int (nI k)) (C := RX4) (T := TX4) (N := 5) hx hb hw iX4 hown hK hP6 0 rfl rfl 1 (by decide) (hw _ kw_1_230) (fun _ h9 => h9) rfl dX4_nextToken_110 ?_
          refine rV_i (wc := [pO cy ee (nI n), ia cy (ee 2) 120 T]) (rest := []) hx hb hml hown hw hG hK hP6 hS6 hA hl1 kc_X3_at kw_2_171 [.int (nI k)] (c_X3_at l D cy G H6.size ee n T k (by first | omega | assumption) (by first | omega | assumption)) [1, 2] rfl 0 rfl rfl rfl rfl rfl (Nat.le_of_ble_eq_true rfl) ⟨Nat.le_of_ble_eq_true rfl, Nat.le_of_ble_eq_true rfl⟩ dX4_nextToken_113 ⟨Nat.le_of_ble_eq_true rfl, Nat.le_of_ble_eq_true rfl⟩ (fun r_113 H7 locs7 hr_113 hP7 hS7 => ?_)
          have hD7 := hD6
          clear hP6 hD6 hS6 locs6 H6
          subst hr_113
          refine rT_i (wc := []) (rest := []) hx hb hml hown hw hG hK hP7 hS7 hA hl1 kc_X4_isDigit kw_2_182 [.int (bt T n k)] (c_X4_isDigit l D cy G H7.size (bt T n k)) [] rfl rfl rfl (Nat.le_of_ble_eq_true rfl) ⟨Nat.le_of_ble_eq_true rfl, Nat.le_of_ble_eq_true rfl⟩ dX4_nextToken_116 ⟨Nat.le_of_ble_eq_true rfl, Nat.le_of_ble_eq_true rfl⟩ (fun r_116 H8 locs8 hr_116 hP8 hS8 => ?_)
          have hD8 := hD7
          clear hP7 hD7 hS7 locs7 H7
          subst hr_116
          refine lb_eq (tgt := 129) hx hb dX4_nextToken_119 (by decide) (fun c_119 => ?_) (fun c_119 => ?_)
          · refine lv_aload_n hx hb dX4_nextToken_129 rfl (lv_at hl1 0 rfl) ?_
            refine lv_aload_n hx hb dX4_nextToken_130 rfl (lv_at hl1 0 rfl) ?_
            refine va_get (D := D) (ci := 4) (v := .ref (ee 1)) (C := RX4) (T := TX4) (N := 5) hx hb hw iX4 hown hK hP8 0 rfl rfl 0 (by decide) (hw _ kw_1_228) (fun _ h9 => h9) rfl dX4_nextToken_131 ?_
            refine lv_aload_n hx hb dX4_nextToken_134 rfl (lv_at hl1 0 rfl) ?_
            refine va_get (D := D) (ci := 4) (v := .int (nI k)) (C := RX4) (T := TX4) (N := 5) hx hb hw iX4 hown hK hP8 0 rfl rfl 1 (by decide) (hw _ kw_1_230) (fun _ h9 => h9) rfl dX4_nextToken_135 ?_
            refine rV_i (wc := [pO cy ee (nI n), ia cy (ee 2) 120 T]) (rest := [.ref (ee 0)]) hx hb hml hown hw hG hK hP8 hS8 hA hl1 kc_X3_at kw_2_171 [.int (nI k)] (c_X3_at l D cy G H8.size ee n T k (by first | omega | assumption) (by first | omega | assumption)) [1, 2] rfl 0 rfl rfl rfl rfl rfl (Nat.le_of_ble_eq_true rfl) ⟨Nat.le_of_ble_eq_true rfl, Nat.le_of_ble_eq_true rfl⟩ dX4_nextToken_138 ⟨Nat.le_of_ble_eq_true rfl, Nat.le_of_ble_eq_true rfl⟩ (fun r_138 H9 locs9 hr_138 hP9 hS9 => ?_)
            have hD9 := hD8
            clear hP8 hD8 hS8 locs8 H8
            subst hr_138
            refine lv_bipush (v := 44) hx hb dX4_nextToken_141 (by decide) ?_
            refine lv_icmp_ne (tgt := 150) hx hb dX4_nextToken_143 (by decide) (fun c_143 => ?_) (fun c_143 => ?_)
            · refine lv_iconst (v := 4) hx hb dX4_nextToken_150 (by decide) ?_
              refine pt (D := D) (ci := 4) (v := .int 4) (ty := .int) (C := RX4) (T := TX4) (N := 5) (ws' := [eO cy ee (nI k) (nI k) 4 va, pO cy ee (nI n), ia cy (ee 2) 120 T]) hx hb hw iX4 tyX4 tyX4_ok nmX4 hown hK hP9 hD9 hS9 0 rfl rfl 3 (by decide) kw_1_233 (fun _ h9 => h9) rfl (by decide +kernel) rfl rfl (Nat.le_of_ble_eq_true rfl) rfl dX4_nextToken_151 (fun H10 locs10 hP10 hD10 hS10 => ?_)
              clear hP9 hD9 hS9 locs9 H9
              refine lv_aload_n hx hb dX4_nextToken_154 rfl (lv_at hl1 0 rfl) ?_
              refine lv_aload_n hx hb dX4_nextToken_155 rfl (lv_at hl1 0 rfl) ?_
              refine va_get (D := D) (ci := 4) (v := .int (nI k)) (C := RX4) (T := TX4) (N := 5) hx hb hw iX4 hown hK hP10 0 rfl rfl 1 (by decide) (hw _ kw_1_230) (fun _ h9 => h9) rfl dX4_nextToken_156 ?_
              refine lv_iconst (v := 1) hx hb dX4_nextToken_159 (by decide) ?_
              refine lv_iadd hx hb dX4_nextToken_160 ?_
              refine tp (show ((nI k) + 1) = nI (k + 1) from nI_add _ _) ?_
              refine pt (D := D) (ci := 4) (v := .int (nI (k + 1))) (ty := .int) (C := RX4) (T := TX4) (N := 5) (ws' := [eO cy ee (nI k) (nI (k + 1)) 4 va, pO cy ee (nI n), ia cy (ee 2) 120 T]) hx hb hw iX4 tyX4 tyX4_ok nmX4 hown hK hP10 hD10 hS10 0 rfl rfl 2 (by decide) kw_1_232 (fun _ h9 => h9) rfl (by decide +kernel) rfl rfl (Nat.le_of_ble_eq_true rfl) rfl dX4_nextToken_161 (fun H11 locs11 hP11 hD11 hS11 => ?_)
              clear hP10 hD10 hS10 locs10 H10
              have hq9 : ([eO cy ee (nI k) (nI (k + 1)) 4 va, pO cy ee (nI n), ia cy (ee 2) 120 T]) = ([eO cy ee (nI k) (nI (te T n k)) 4 va, pO cy ee (nI n), ia cy (ee 2) 120 T]) := congrArg (fun z9 => [eO cy ee (nI k) z9 4 va, pO cy ee (nI n), ia cy (ee 2) 120 T]) (show (nI (k + 1)) = (nI (te T n k)) from congrArg nI (te_o c_70 c_95 c_119).symm)
              replace hP11 := (congrArg (fun z9 => va_P D vwCl z9 _) hq9).mp hP11
              replace hD11 := (congrArg (fun z9 => va_D _ z9) hq9).mp hD11
              clear hq9
              have hq9 : ([eO cy ee (nI k) (nI (te T n k)) 4 va, pO cy ee (nI n), ia cy (ee 2) 120 T]) = ([eO cy ee (nI k) (nI (te T n k)) (tkn T n k) va, pO cy ee (nI n), ia cy (ee 2) 120 T]) := congrArg (fun z9 => [eO cy ee (nI k) (nI (te T n k)) z9 va, pO cy ee (nI n), ia cy (ee 2) 120 T]) (show 4 = (tkn T n k) from (tkn_4 c_70 c_95 c_119 c_143).symm)
              replace hP11 := (congrArg (fun z9 => va_P D vwCl z9 _) hq9).mp hP11
              replace hD11 := (congrArg (fun z9 => va_D _ z9) hq9).mp hD11
              clear hq9
              subst hsk
              refine re_v va hx hb hr hlocks hP11 hD11 hS11 dX4_nextToken_164 ?_
              exact (fun z9 => absurd ((tkn_4 c_70 c_95 c_119 c_143).symm.trans z9) (by decide))
            · refine lv_iconst (v := 3) hx hb dX4_nextToken_146 (by decide) ?_
              refine lv_goto (tgt := 151) hx hb dX4_nextToken_147 (by decide) ?_
              refine pt (D := D) (ci := 4) (v := .int 3) (ty := .int) (C := RX4) (T := TX4) (N := 5) (ws' := [eO cy ee (nI k) (nI k) 3 va, pO cy ee (nI n), ia cy (ee 2) 120 T]) hx hb hw iX4 tyX4 tyX4_ok nmX4 hown hK hP9 hD9 hS9 0 rfl rfl 3 (by decide) kw_1_233 (fun _ h9 => h9) rfl (by decide +kernel) rfl rfl (Nat.le_of_ble_eq_true rfl) rfl dX4_nextToken_151 (fun H10 locs10 hP10 hD10 hS10 => ?_)
              clear hP9 hD9 hS9 locs9 H9
              refine lv_aload_n hx hb dX4_nextToken_154 rfl (lv_at hl1 0 rfl) ?_
              refine lv_aload_n hx hb dX4_nextToken_155 rfl (lv_at hl1 0 rfl) ?_
              refine va_get (D := D) (ci := 4) (v := .int (nI k)) (C := RX4) (T := TX4) (N := 5) hx hb hw iX4 hown hK hP10 0 rfl rfl 1 (by decide) (hw _ kw_1_230) (fun _ h9 => h9) rfl dX4_nextToken_156 ?_
              refine lv_iconst (v := 1) hx hb dX4_nextToken_159 (by decide) ?_
              refine lv_iadd hx hb dX4_nextToken_160 ?_
              refine tp (show ((nI k) + 1) = nI (k + 1) from nI_add _ _) ?_
              refine pt (D := D) (ci := 4) (v := .int (nI (k + 1))) (ty := .int) (C := RX4) (T := TX4) (N := 5) (ws' := [eO cy ee (nI k) (nI (k + 1)) 3 va, pO cy ee (nI n), ia cy (ee 2) 120 T]) hx hb hw iX4 tyX4 tyX4_ok nmX4 hown hK hP10 hD10 hS10 0 rfl rfl 2 (by decide) kw_1_232 (fun _ h9 => h9) rfl (by decide +kernel) rfl rfl (Nat.le_of_ble_eq_true rfl) rfl dX4_nextToken_161 (fun H11 locs11 hP11 hD11 hS11 => ?_)
              clear hP10 hD10 hS10 locs10 H10
              have hq9 : ([eO cy ee (nI k) (nI (k + 1)) 3 va, pO cy ee (nI n), ia cy (ee 2) 120 T]) = ([eO cy ee (nI k) (nI (te T n k)) 3 va, pO cy ee (nI n), ia cy (ee 2) 120 T]) := congrArg (fun z9 => [eO cy ee (nI k) z9 3 va, pO cy ee (nI n), ia cy (ee 2) 120 T]) (show (nI (k + 1)) = (nI (te T n k)) from congrArg nI (te_o c_70 c_95 c_119).symm)
              replace hP11 := (congrArg (fun z9 => va_P D vwCl z9 _) hq9).mp hP11
              replace hD11 := (congrArg (fun z9 => va_D _ z9) hq9).mp hD11
              clear hq9
              have hq9 : ([eO cy ee (nI k) (nI (te T n k)) 3 va, pO cy ee (nI n), ia cy (ee 2) 120 T]) = ([eO cy ee (nI k) (nI (te T n k)) (tkn T n k) va, pO cy ee (nI n), ia cy (ee 2) 120 T]) := congrArg (fun z9 => [eO cy ee (nI k) (nI (te T n k)) z9 va, pO cy ee (nI n), ia cy (ee 2) 120 T]) (show 3 = (tkn T n k) from (tkn_3 c_70 c_95 c_119 c_143).symm)
              replace hP11 := (congrArg (fun z9 => va_P D vwCl z9 _) hq9).mp hP11
              replace hD11 := (congrArg (fun z9 => va_D _ z9) hq9).mp hD11
              clear hq9
              subst hsk
              refine re_v va hx hb hr hlocks hP11 hD11 hS11 dX4_nextToken_164 ?_
              exact (fun z9 => absurd ((tkn_3 c_70 c_95 c_119 c_143).symm.trans z9) (by decide))
          · refine lv_aload_n hx hb dX4_nextToken_122 rfl (lv_at hl1 0 rfl) ?_
            refine cV_v (wc := [eO cy ee (nI k) (nI k) tk va, pO cy ee (nI n), ia cy (ee 2) 120 T]) (wr := []) (rest := []) hx hb hml hown hw hG hK hP8 hD8 hS8 hA hl1 kc_X4_passNumber kw_2_185 [] (c_X4_passNumber l D cy G H8.size ee n T k (nI k) tk va (by first | omega | assumption) c_70 c_119) [0, 1, 2] [] rfl rfl rfl rfl rfl 0 rfl rfl rfl rfl rfl (Nat.le_of_ble_eq_true rfl) ⟨Nat.le_of_ble_eq_true rfl, Nat.le_of_ble_eq_true rfl⟩ dX4_nextToken_123 ⟨Nat.le_of_ble_eq_true rfl, Nat.le_of_ble_eq_true rfl⟩ (fun u9 H9 locs9 hu9 hP9 hD9 hS9 => ?_)
            clear hP8 hD8 hS8 locs8 H8
            replace hP9 : va_P D vwCl ([eO cy ee (nI k) (nI (te T n k)) 2 (nI (numV T n k)), pO cy ee (nI n), ia cy (ee 2) 120 T]) H9 := hP9
            replace hD9 : va_D (va_A _ sz) ([eO cy ee (nI k) (nI (te T n k)) 2 (nI (numV T n k)), pO cy ee (nI n), ia cy (ee 2) 120 T]) := hD9
            refine lv_goto (tgt := 164) hx hb dX4_nextToken_126 (by decide) ?_
            have hq9 : ([eO cy ee (nI k) (nI (te T n k)) 2 (nI (numV T n k)), pO cy ee (nI n), ia cy (ee 2) 120 T]) = ([eO cy ee (nI k) (nI (te T n k)) (tkn T n k) (nI (numV T n k)), pO cy ee (nI n), ia cy (ee 2) 120 T]) := congrArg (fun z9 => [eO cy ee (nI k) (nI (te T n k)) z9 (nI (numV T n k)), pO cy ee (nI n), ia cy (ee 2) 120 T]) (show 2 = (tkn T n k) from (tkn_D c_70 c_119).symm)
            replace hP9 := (congrArg (fun z9 => va_P D vwCl z9 _) hq9).mp hP9
            replace hD9 := (congrArg (fun z9 => va_D _ z9) hq9).mp hD9
            clear hq9
            subst hsk
            refine re_v (nI (numV T n (skp T n e1))) hx hb hr hlocks hP9 hD9 hS9 dX4_nextToken_164 ?_
            exact (fun _ => rfl)
        · refine lv_aload_n hx hb dX4_nextToken_98 rfl (lv_at hl1 0 rfl) ?_
          refine cV_v (wc := [eO cy ee (nI k) (nI k) tk va, pO cy ee (nI n), ia cy (ee 2) 120 T]) (wr := []) (rest := []) hx hb hml hown hw hG hK hP6 hD6 hS6 hA hl1 kc_X4_passWord kw_2_178 [] (c_X4_passWord l D cy G H6.size ee n T k (nI k) tk va (by first | omega | assumption) c_70 c_95) [0, 1, 2] [] rfl rfl rfl rfl rfl 0 rfl rfl rfl rfl rfl (Nat.le_of_ble_eq_true rfl) ⟨Nat.le_of_ble_eq_true rfl, Nat.le_of_ble_eq_true rfl⟩ dX4_nextToken_99 ⟨Nat.le_of_ble_eq_true rfl, Nat.le_of_ble_eq_true rfl⟩ (fun u9 H7 locs7 hu9 hP7 hD7 hS7 => ?_)
          clear hP6 hD6 hS6 locs6 H6
          replace hP7 : va_P D vwCl ([eO cy ee (nI k) (nI (te T n k)) 1 va, pO cy ee (nI n), ia cy (ee 2) 120 T]) H7 := hP7
          replace hD7 : va_D (va_A _ sz) ([eO cy ee (nI k) (nI (te T n k)) 1 va, pO cy ee (nI n), ia cy (ee 2) 120 T]) := hD7
          refine lv_goto (tgt := 164) hx hb dX4_nextToken_102 (by decide) ?_
          have hq9 : ([eO cy ee (nI k) (nI (te T n k)) 1 va, pO cy ee (nI n), ia cy (ee 2) 120 T]) = ([eO cy ee (nI k) (nI (te T n k)) (tkn T n k) va, pO cy ee (nI n), ia cy (ee 2) 120 T]) := congrArg (fun z9 => [eO cy ee (nI k) (nI (te T n k)) z9 va, pO cy ee (nI n), ia cy (ee 2) 120 T]) (show 1 = (tkn T n k) from (tkn_L c_70 c_95).symm)
          replace hP7 := (congrArg (fun z9 => va_P D vwCl z9 _) hq9).mp hP7
          replace hD7 := (congrArg (fun z9 => va_D _ z9) hq9).mp hD7
          clear hq9
          subst hsk
          refine re_v va hx hb hr hlocks hP7 hD7 hS7 dX4_nextToken_164 ?_
          exact (fun z9 => absurd ((tkn_L c_70 c_95).symm.trans z9) (by decide))
      · refine lv_aload_n hx hb dX4_nextToken_73 rfl (lv_at hl1 0 rfl) ?_
        refine lv_iconst (v := 0) hx hb dX4_nextToken_74 (by decide) ?_
        refine pt (D := D) (ci := 4) (v := .int 0) (ty := .int) (C := RX4) (T := TX4) (N := 5) (ws' := [eO cy ee (nI k) (nI k) 0 va, pO cy ee (nI n), ia cy (ee 2) 120 T]) hx hb hw iX4 tyX4 tyX4_ok nmX4 hown hK hP4 hD4 hS4 0 rfl rfl 3 (by decide) kw_1_233 (fun _ h9 => h9) rfl (by decide +kernel) rfl rfl (Nat.le_of_ble_eq_true rfl) rfl dX4_nextToken_75 (fun H5 locs5 hP5 hD5 hS5 => ?_)
        clear hP4 hD4 hS4 locs4 H4
        refine lv_goto (tgt := 164) hx hb dX4_nextToken_78 (by decide) ?_
        have hq9 : ([eO cy ee (nI k) (nI k) 0 va, pO cy ee (nI n), ia cy (ee 2) 120 T]) = ([eO cy ee (nI k) (nI (te T n k)) 0 va, pO cy ee (nI n), ia cy (ee 2) 120 T]) := congrArg (fun z9 => [eO cy ee (nI k) z9 0 va, pO cy ee (nI n), ia cy (ee 2) 120 T]) (show (nI k) = (nI (te T n k)) from congrArg nI (te_e c_70).symm)
        replace hP5 := (congrArg (fun z9 => va_P D vwCl z9 _) hq9).mp hP5
        replace hD5 := (congrArg (fun z9 => va_D _ z9) hq9).mp hD5
        clear hq9
        have hq9 : ([eO cy ee (nI k) (nI (te T n k)) 0 va, pO cy ee (nI n), ia cy (ee 2) 120 T]) = ([eO cy ee (nI k) (nI (te T n k)) (tkn T n k) va, pO cy ee (nI n), ia cy (ee 2) 120 T]) := congrArg (fun z9 => [eO cy ee (nI k) (nI (te T n k)) z9 va, pO cy ee (nI n), ia cy (ee 2) 120 T]) (show 0 = (tkn T n k) from (tkn_e c_70).symm)
        replace hP5 := (congrArg (fun z9 => va_P D vwCl z9 _) hq9).mp hP5
        replace hD5 := (congrArg (fun z9 => va_D _ z9) hq9).mp hD5
        clear hq9
        subst hsk
        refine re_v va hx hb hr hlocks hP5 hD5 hS5 dX4_nextToken_164 ?_
        exact (fun z9 => absurd ((tkn_e c_70).symm.trans z9) (by decide))
    · refine lv_aload_n hx hb dX4_nextToken_38 rfl (lv_at hl1 0 rfl) ?_
      refine lv_dup hx hb dX4_nextToken_39 rfl ?_
      refine va_get (D := D) (ci := 4) (v := .int (nI k)) (C := RX4) (T := TX4) (N := 5) hx hb hw iX4 hown hK hP3 0 rfl rfl 1 (by decide) (hw _ kw_1_230) (fun _ h9 => h9) rfl dX4_nextToken_40 ?_
      refine lv_iconst (v := 1) hx hb dX4_nextToken_43 (by decide) ?_
      refine lv_iadd hx hb dX4_nextToken_44 ?_
      refine tp (show ((nI k) + 1) = nI (k + 1) from nI_add _ _) ?_
      refine pt (D := D) (ci := 4) (v := .int (nI (k + 1))) (ty := .int) (C := RX4) (T := TX4) (N := 5) (ws' := [eO cy ee (nI (k + 1)) (nI e1) tk va, pO cy ee (nI n), ia cy (ee 2) 120 T]) hx hb hw iX4 tyX4 tyX4_ok nmX4 hown hK hP3 hD3 hS3 0 rfl rfl 1 (by decide) kw_1_230 (fun _ h9 => h9) rfl (by decide +kernel) rfl rfl (Nat.le_of_ble_eq_true rfl) rfl dX4_nextToken_45 (fun H4 locs4 hP4 hD4 hS4 => ?_)
      clear hP3 hD3 hS3 locs3 H3
      refine lv_goto (tgt := 8) hx hb dX4_nextToken_48 (by decide) ?_
      exact ih_8 (k + 1) (⟨(by (try dsimp only); omega), (by (try dsimp only); omega), fun j9 a9 b9 => by
          by_cases e9 : j9 = k
          · subst e9; exact c_35
          · exact hall j9 a9 (by omega)⟩) (by (try dsimp only); omega) H4 locs4 ls1 hP4 hD4 hS4 (lv_sub hl1 [0] rfl)

theorem kc_X4_isWord : kV yX4_isWord cX4_isWord 3 (some .boolean) 1 := ⟨kw_2_199, kw_s_7, kw_1_5, kw_2_200, by decide, by decide, by decide +kernel⟩
set_option maxHeartbeats 4000000 in
set_option maxRecDepth 100000 in
theorem c_X4_isWord (l : Launch) (D : va_G) (cy : Nat → ClassId) (G : Nat → Nat) (sz : Nat) (ee : Nat → Nat) (n : Nat) (T : Nat → Int32) (ps : Nat) (va : Int32) (i : Nat) (hn : n ≤ 120) (hs : ps ≤ n) (hi : i < 14) : Met l yX4_isWord (wm yX4_isWord cX4_isWord 3 (some .boolean)) { frames := 5, cells := 0, slots := 0, locals := 106 } (va_Pc [.ref (ee 0), .ref (G (10 + i))] (pd D (TY cy) G ([eO cy ee (nI ps) (nI (te T n ps)) (tkn T n ps) va, pO cy ee (nI n), ia cy (ee 2) 120 T]) sz)) (va_Qi (fun r (_ : Unit) => r = b2i (isW T n ps i = true)) (fun _ _ => True) (va_A [] sz)) 0 0 (va_A [] sz) := by
  refine mk_rd (by decide) RX4 rfl (Nat.le_of_ble_eq_true rfl) [(0, .ref (ee 0)), (1, .ref (G (10 + i)))] rfl ?_
  intro p e s m below meth c hx hb hml hown hr hlocks hw hsz hA hG hK H0 locs0 hP0 hS0 ls0 hl0
  have hw7 := wn_37 i hi
  have hte := te_b (T := T) hs
  refine lv_aload_n hx hb dX4_isWord_0 rfl (lv_at hl0 0 rfl) ?_
  refine va_get (D := D) (ci := 4) (v := .int (tkn T n ps)) (C := RX4) (T := TX4) (N := 5) hx hb hw iX4 hown hK hP0 0 rfl rfl 3 (by decide) (hw _ kw_1_233) (fun _ h9 => h9) rfl dX4_isWord_1 ?_
  refine lv_iconst (v := 1) hx hb dX4_isWord_4 (by decide) ?_
  refine lv_icmp_ne (tgt := 24) hx hb dX4_isWord_5 (by decide) (fun c_5 => ?_) (fun c_5 => ?_)
  · refine lv_iconst (v := 0) hx hb dX4_isWord_24 (by decide) ?_
    exact rd_z hx hb hr hlocks hS0 dX4_isWord_25 rfl ((b2i_f (fun z9 => c_5 (tkn_1.mpr (isW_L hi z9)))).symm)
  · refine lv_aload_n hx hb dX4_isWord_8 rfl (lv_at hl0 0 rfl) ?_
    refine va_get (D := D) (ci := 4) (v := .int (nI (te T n ps))) (C := RX4) (T := TX4) (N := 5) hx hb hw iX4 hown hK hP0 0 rfl rfl 2 (by decide) (hw _ kw_1_232) (fun _ h9 => h9) rfl dX4_isWord_9 ?_
    refine lv_aload_n hx hb dX4_isWord_12 rfl (lv_at hl0 0 rfl) ?_
    refine va_get (D := D) (ci := 4) (v := .int (nI ps)) (C := RX4) (T := TX4) (N := 5) hx hb hw iX4 hown hK hP0 0 rfl rfl 1 (by decide) (hw _ kw_1_230) (fun _ h9 => h9) rfl dX4_isWord_13 ?_
    refine lv_isub hx hb dX4_isWord_16 ?_
    refine tp (show ((nI (te T n ps)) - (nI ps)) = nI (te T n ps - ps) from pk_sub hte.1) ?_
    refine lv_aload_n hx hb dX4_isWord_17 rfl (lv_at hl0 1 rfl) ?_
    refine rS_i (rest := [.int (nI (te T n ps - ps))]) hx hb hml hown hw hG hK hP0 hS0 hA hl0 kc_J0_length_8abf5 kw_2_201 [] (i := i) hi rfl (c_J0_length_8abf5 l D cy G H0.size i (by first | omega | assumption)) rfl rfl (Nat.le_of_ble_eq_true rfl) ⟨Nat.le_of_ble_eq_true rfl, Nat.le_of_ble_eq_true rfl⟩ dX4_isWord_18 ⟨Nat.le_of_ble_eq_true rfl, Nat.le_of_ble_eq_true rfl⟩ (fun r_18 H1 locs1 hr_18 hP1 hS1 => ?_)
    clear hP0 hS0 locs0 H0
    subst hr_18
    refine ln_eq (tgt := 26) (te T n ps - ps) (wn i) rfl rfl (by omega) (by omega) hx hb dX4_isWord_21 (by decide) (fun c_21 => ?_) (fun c_21 => ?_)
    · refine lv_iconst (v := 0) hx hb dX4_isWord_26 (by decide) ?_
      refine lv_istore_n (lv' := [(2, .int 0), (0, .ref (ee 0)), (1, .ref (G (10 + i)))]) hx hb dX4_isWord_27 rfl hl0 (by decide) rfl (fun ls1 hl1 => ?_)
      clear hl0 ls0
      refine rlp (ι := Nat) (nL := 3) (ws := [eO cy ee (nI ps) (nI (te T n ps)) (tkn T n ps) va, pO cy ee (nI n), ia cy (ee 2) 120 T]) (fun x9 => (x9 ≤ wn i) ∧ (wEq T n ps i x9 = true)) (fun x9 => [(2, .int (nI x9)), (0, .ref (ee 0)), (1, .ref (G (10 + i)))]) (fun x9 => []) (fun x9 => wn i - x9) 28 ?_ 0 (⟨Nat.zero_le _, rfl⟩) rfl hP1 hS1 (lv_sub hl1 [0, 1, 2] rfl)
      clear hP1 hS1 locs1 H1 hl1 ls1
      intro x9 hI ih_28 H2 locs2 ls2 hP2 hS2 hl2
      obtain ⟨k, rfl⟩ : ∃ z9, z9 = x9 := ⟨_, rfl⟩
      obtain ⟨hk, hq⟩ := hI
      replace hk : k ≤ wn i := hk
      replace hq : wEq T n ps i k = true := hq
      replace hP2 : va_P D vwCl ([eO cy ee (nI ps) (nI (te T n ps)) (tkn T n ps) va, pO cy ee (nI n), ia cy (ee 2) 120 T]) H2 := hP2
      replace hl2 : lv_has ls2 3 [(2, .int (nI k)), (0, .ref (ee 0)), (1, .ref (G (10 + i)))] := hl2
      show W p l e _ s m _ below meth c _ _ _ _ _ (F0 m 28 ls2 [])
      refine lv_iload_n hx hb dX4_isWord_28 rfl (lv_at hl2 0 rfl) ?_
      refine lv_aload_n hx hb dX4_isWord_29 rfl (lv_at hl2 2 rfl) ?_
      refine rS_i (rest := [.int (nI k)]) hx hb hml hown hw hG hK hP2 hS2 hA hl2 kc_J0_length_8abf5 kw_2_201 [] (i := i) hi rfl (c_J0_length_8abf5 l D cy G H2.size i (by first | omega | assumption)) rfl rfl (Nat.le_of_ble_eq_true rfl) ⟨Nat.le_of_ble_eq_true rfl, Nat.le_of_ble_eq_true rfl⟩ dX4_isWord_30 ⟨Nat.le_of_ble_eq_true rfl, Nat.le_of_ble_eq_true rfl⟩ (fun r_30 H3 locs3 hr_30 hP3 hS3 => ?_)
      clear hP2 hS2 locs2 H2
      subst hr_30
      refine ln_ge (tgt := 65) k (wn i) rfl rfl (by omega) (by omega) hx hb dX4_isWord_33 (by decide) (fun c_33 => ?_) (fun c_33 => ?_)
      · refine lv_iconst (v := 1) hx hb dX4_isWord_65 (by decide) ?_
        exact rd_z hx hb hr hlocks hS3 dX4_isWord_66 rfl ((b2i_t (by unfold isW; obtain rfl : wn i = k := (by omega); rw [hq]; simp; omega)).symm)
      · refine lv_aload_n hx hb dX4_isWord_36 rfl (lv_at hl2 1 rfl) ?_
        refine va_get (D := D) (ci := 4) (v := .ref (ee 1)) (C := RX4) (T := TX4) (N := 5) hx hb hw iX4 hown hK hP3 0 rfl rfl 0 (by decide) (hw _ kw_1_228) (fun _ h9 => h9) rfl dX4_isWord_37 ?_
        refine lv_aload_n hx hb dX4_isWord_40 rfl (lv_at hl2 1 rfl) ?_
        refine va_get (D := D) (ci := 4) (v := .int (nI ps)) (C := RX4) (T := TX4) (N := 5) hx hb hw iX4 hown hK hP3 0 rfl rfl 1 (by decide) (hw _ kw_1_230) (fun _ h9 => h9) rfl dX4_isWord_41 ?_
        refine lv_iload_n hx hb dX4_isWord_44 rfl (lv_at hl2 0 rfl) ?_
        refine lv_iadd hx hb dX4_isWord_45 ?_
        refine tp (show ((nI ps) + (nI k)) = nI (ps + k) from nI_add _ _) ?_
        refine rV_i (wc := [pO cy ee (nI n), ia cy (ee 2) 120 T]) (rest := []) hx hb hml hown hw hG hK hP3 hS3 hA hl2 kc_X3_at kw_2_171 [.int (nI (ps + k))] (c_X3_at l D cy G H3.size ee n T (ps + k) (by first | omega | assumption) (by first | omega | assumption)) [1, 2] rfl 0 rfl rfl rfl rfl rfl (Nat.le_of_ble_eq_true rfl) ⟨Nat.le_of_ble_eq_true rfl, Nat.le_of_ble_eq_true rfl⟩ dX4_isWord_46 ⟨Nat.le_of_ble_eq_true rfl, Nat.le_of_ble_eq_true rfl⟩ (fun r_46 H4 locs4 hr_46 hP4 hS4 => ?_)
        clear hP3 hS3 locs3 H3
        subst hr_46
        refine lv_aload_n hx hb dX4_isWord_49 rfl (lv_at hl2 2 rfl) ?_
        refine lv_iload_n hx hb dX4_isWord_50 rfl (lv_at hl2 0 rfl) ?_
        refine rS_i (rest := [.int (bt T n (ps + k))]) hx hb hml hown hw hG hK hP4 hS4 hA hl2 kc_J0_charAt_5068e kw_2_211 [.int (nI k)] (i := i) hi rfl (c_J0_charAt_5068e l D cy G H4.size i k (by first | omega | assumption) (by first | omega | assumption)) rfl rfl (Nat.le_of_ble_eq_true rfl) ⟨Nat.le_of_ble_eq_true rfl, Nat.le_of_ble_eq_true rfl⟩ dX4_isWord_51 ⟨Nat.le_of_ble_eq_true rfl, Nat.le_of_ble_eq_true rfl⟩ (fun r_51 H5 locs5 hr_51 hP5 hS5 => ?_)
        clear hP4 hS4 locs4 H4
        subst hr_51
        refine lv_icmp_eq (tgt := 59) hx hb dX4_isWord_54 (by decide) (fun c_54 => ?_) (fun c_54 => ?_)
        · refine lv_iinc (v := nI (k + 1)) (lv' := [(2, .int (nI (k + 1))), (0, .ref (ee 0)), (1, .ref (G (10 + i)))]) hx hb dX4_isWord_59 hl2 (k := 0) rfl (nI_inc _) (by decide) rfl (fun ls3 hl3 => ?_)
          clear hl2 ls2
          refine lv_goto (tgt := 28) hx hb dX4_isWord_62 (by decide) ?_
          exact ih_28 (k + 1) (⟨(by (try dsimp only); omega), by show (wEq T n ps i k && decide (bt T n (ps + k) = wl i k)) = true; rw [hq, c_54]; simp⟩) (by (try dsimp only); omega) H5 locs5 ls3 hP5 hS5 (lv_sub hl3 [0, 1, 2] rfl)
        · refine lv_iconst (v := 0) hx hb dX4_isWord_57 (by decide) ?_
          exact rd_z hx hb hr hlocks hS5 dX4_isWord_58 rfl ((b2i_f (fun z9 => c_54 ((isW_iff.mp z9).2 k (by omega)))).symm)
    · refine lv_iconst (v := 0) hx hb dX4_isWord_24 (by decide) ?_
      exact rd_z hx hb hr hlocks hS1 dX4_isWord_25 rfl ((b2i_f (fun z9 => absurd (isW_iff.mp z9).1 (by omega))).symm)

theorem kc_X4_takeNumber : kV yX4_takeNumber cX4_takeNumber 3 (some .int) 1 := ⟨kw_3_30, kw_s_11, kw_1_5, kw_3_31, by decide, by decide, by decide +kernel⟩
set_option maxHeartbeats 4000000 in
set_option maxRecDepth 100000 in
theorem c_X4_takeNumber (l : Launch) (D : va_G) (cy : Nat → ClassId) (G : Nat → Nat) (sz : Nat) (ee : Nat → Nat) (n : Nat) (T : Nat → Int32) (ps : Nat) (va : Int32) (x1 : Int32) (hn : n ≤ 120) (hs : ps ≤ n) (hv : tkn T n ps = 2 → va = nI (numV T n ps)) : Met l yX4_takeNumber (wm yX4_takeNumber cX4_takeNumber 3 (some .int)) { frames := 3, cells := 0, slots := 0, locals := 61 } (va_Pc [.ref (ee 0), .int x1] (pr D (TY cy) G ([eO cy ee (nI ps) (nI (te T n ps)) (tkn T n ps) va, pO cy ee (nI n), ia cy (ee 2) 120 T]) sz)) (va_Qi (fun (r : Int32) (u : Int32) => (r = if okN T n ps x1 then nI (numV T n ps) else -1) ∧ (tkn T n (tnP T n x1 ps) = 2 → u = nI (numV T n (tnP T n x1 ps)))) (fun (u : Int32) t => po D (va_A ([eO cy ee (nI ps) (nI (te T n ps)) (tkn T n ps) va, pO cy ee (nI n), ia cy (ee 2) 120 T]) sz) ([eO cy ee (nI (tnP T n x1 ps)) (nI (te T n (tnP T n x1 ps))) (tkn T n (tnP T n x1 ps)) u, pO cy ee (nI n), ia cy (ee 2) 120 T]) t) (va_A ([eO cy ee (nI ps) (nI (te T n ps)) (tkn T n ps) va, pO cy ee (nI n), ia cy (ee 2) 120 T]) sz)) 0 0 (va_A ([eO cy ee (nI ps) (nI (te T n ps)) (tkn T n ps) va, pO cy ee (nI n), ia cy (ee 2) 120 T]) sz) := by
  refine mk_rw (by decide) RX4 rfl (Nat.le_of_ble_eq_true rfl) [(0, .ref (ee 0)), (1, .int x1)] rfl ?_
  intro p e s m below meth c hx hb hml hown hr hlocks hin hw hsz hA hG hK H0 locs0 hP0 hD0 hS0 ls0 hl0
  clear hin
  have hte := te_b (T := T) hs
  refine lv_aload_n hx hb dX4_takeNumber_0 rfl (lv_at hl0 0 rfl) ?_
  refine va_get (D := D) (ci := 4) (v := .int (tkn T n ps)) (C := RX4) (T := TX4) (N := 5) hx hb hw iX4 hown hK hP0 0 rfl rfl 3 (by decide) (hw _ kw_1_233) (fun _ h9 => h9) rfl dX4_takeNumber_1 ?_
  refine lv_iconst (v := 2) hx hb dX4_takeNumber_4 (by decide) ?_
  refine lv_icmp_ne (tgt := 16) hx hb dX4_takeNumber_5 (by decide) (fun c_5 => ?_) (fun c_5 => ?_)
  · have hk9 : ¬ okN T n ps x1 := fun z9 => c_5 (tkn_2.mpr z9.1)
    have hp9 : tnP T n x1 ps = ps := if_neg hk9
    refine lv_iconst (v := (-1)) hx hb dX4_takeNumber_16 (by decide) ?_
    have hq9 : ([eO cy ee (nI ps) (nI (te T n ps)) (tkn T n ps) va, pO cy ee (nI n), ia cy (ee 2) 120 T]) = [eO cy ee (nI (tnP T n x1 ps)) (nI (te T n (tnP T n x1 ps))) (tkn T n (tnP T n x1 ps)) va, pO cy ee (nI n), ia cy (ee 2) 120 T] := by rw [hp9]
    replace hP0 := (congrArg (fun z9 => va_P D vwCl z9 _) hq9).mp hP0
    replace hD0 := (congrArg (fun z9 => va_D _ z9) hq9).mp hD0
    refine re_i va hx hb hr hlocks hP0 hD0 hS0 dX4_takeNumber_17 ?_
    exact (⟨(if_neg hk9).symm, fun z9 => by rw [hp9] at z9 ⊢; exact hv z9⟩)
  · refine lv_aload_n hx hb dX4_takeNumber_8 rfl (lv_at hl0 0 rfl) ?_
    refine va_get (D := D) (ci := 4) (v := .int va) (C := RX4) (T := TX4) (N := 5) hx hb hw iX4 hown hK hP0 0 rfl rfl 4 (by decide) (hw _ kw_1_234) (fun _ h9 => h9) rfl dX4_takeNumber_9 ?_
    refine lv_iload_n hx hb dX4_takeNumber_12 rfl (lv_at hl0 1 rfl) ?_
    refine lv_icmp_le (tgt := 18) hx hb dX4_takeNumber_13 (by decide) (fun c_13 => ?_) (fun c_13 => ?_)
    · have hk9 : okN T n ps x1 := ⟨tkn_2.mp c_5, by rw [← hv c_5]; exact c_13⟩
      have hp9 : nxt T n ps = tnP T n x1 ps := (if_pos hk9).symm
      have hve := hv c_5
      refine lv_aload_n hx hb dX4_takeNumber_18 rfl (lv_at hl0 0 rfl) ?_
      refine va_get (D := D) (ci := 4) (v := .int va) (C := RX4) (T := TX4) (N := 5) hx hb hw iX4 hown hK hP0 0 rfl rfl 4 (by decide) (hw _ kw_1_234) (fun _ h9 => h9) rfl dX4_takeNumber_19 ?_
      refine lv_istore_n (lv' := [(2, .int va), (0, .ref (ee 0)), (1, .int x1)]) hx hb dX4_takeNumber_22 rfl hl0 (by decide) rfl (fun ls1 hl1 => ?_)
      clear hl0 ls0
      refine lv_aload_n hx hb dX4_takeNumber_23 rfl (lv_at hl1 1 rfl) ?_
      refine cV_v (wc := [eO cy ee (nI ps) (nI (te T n ps)) (tkn T n ps) va, pO cy ee (nI n), ia cy (ee 2) 120 T]) (wr := []) (rest := []) hx hb hml hown hw hG hK hP0 hD0 hS0 hA hl1 kc_X4_nextToken kw_2_167 [] (c_X4_nextToken l D cy G H0.size ee n T (nI ps) (tkn T n ps) va (te T n ps) (by first | omega | assumption) (by first | omega | assumption)) [0, 1, 2] [] rfl rfl rfl rfl rfl 0 rfl rfl rfl rfl rfl (Nat.le_of_ble_eq_true rfl) ⟨Nat.le_of_ble_eq_true rfl, Nat.le_of_ble_eq_true rfl⟩ dX4_takeNumber_24 ⟨Nat.le_of_ble_eq_true rfl, Nat.le_of_ble_eq_true rfl⟩ (fun u9 H1 locs1 hu9 hP1 hD1 hS1 => ?_)
      clear hP0 hD0 hS0 locs0 H0
      obtain ⟨va1_24, rfl⟩ : ∃ z9, z9 = u9 := ⟨_, rfl⟩
      have hv_24 := hu9
      replace hv_24 : tkn T n (skp T n (te T n ps)) = 2 → va1_24 = nI (numV T n (skp T n (te T n ps))) := hv_24
      replace hP1 : va_P D vwCl ([eO cy ee (nI (skp T n (te T n ps))) (nI (te T n (skp T n (te T n ps)))) (tkn T n (skp T n (te T n ps))) va1_24, pO cy ee (nI n), ia cy (ee 2) 120 T]) H1 := hP1
      replace hD1 : va_D (va_A _ sz) ([eO cy ee (nI (skp T n (te T n ps))) (nI (te T n (skp T n (te T n ps)))) (tkn T n (skp T n (te T n ps))) va1_24, pO cy ee (nI n), ia cy (ee 2) 120 T]) := hD1
      have hq9 : ([eO cy ee (nI (skp T n (te T n ps))) (nI (te T n (skp T n (te T n ps)))) (tkn T n (skp T n (te T n ps))) va1_24, pO cy ee (nI n), ia cy (ee 2) 120 T]) = ([eO cy ee (nI (nxt T n ps)) (nI (te T n (skp T n (te T n ps)))) (tkn T n (skp T n (te T n ps))) va1_24, pO cy ee (nI n), ia cy (ee 2) 120 T]) := congrArg (fun z9 => [eO cy ee z9 (nI (te T n (skp T n (te T n ps)))) (tkn T n (skp T n (te T n ps))) va1_24, pO cy ee (nI n), ia cy (ee 2) 120 T]) (show (nI (skp T n (te T n ps))) = (nI (nxt T n ps)) from rfl)
      replace hP1 := (congrArg (fun z9 => va_P D vwCl z9 _) hq9).mp hP1
      replace hD1 := (congrArg (fun z9 => va_D _ z9) hq9).mp hD1
      clear hq9
      have hq9 : ([eO cy ee (nI (nxt T n ps)) (nI (te T n (skp T n (te T n ps)))) (tkn T n (skp T n (te T n ps))) va1_24, pO cy ee (nI n), ia cy (ee 2) 120 T]) = ([eO cy ee (nI (nxt T n ps)) (nI (te T n (nxt T n ps))) (tkn T n (skp T n (te T n ps))) va1_24, pO cy ee (nI n), ia cy (ee 2) 120 T]) := congrArg (fun z9 => [eO cy ee (nI (nxt T n ps)) z9 (tkn T n (skp T n (te T n ps))) va1_24, pO cy ee (nI n), ia cy (ee 2) 120 T]) (show (nI (te T n (skp T n (te T n ps)))) = (nI (te T n (nxt T n ps))) from rfl)
      replace hP1 := (congrArg (fun z9 => va_P D vwCl z9 _) hq9).mp hP1
      replace hD1 := (congrArg (fun z9 => va_D _ z9) hq9).mp hD1
      clear hq9
      have hq9 : ([eO cy ee (nI (nxt T n ps)) (nI (te T n (nxt T n ps))) (tkn T n (skp T n (te T n ps))) va1_24, pO cy ee (nI n), ia cy (ee 2) 120 T]) = ([eO cy ee (nI (nxt T n ps)) (nI (te T n (nxt T n ps))) (tkn T n (nxt T n ps)) va1_24, pO cy ee (nI n), ia cy (ee 2) 120 T]) := congrArg (fun z9 => [eO cy ee (nI (nxt T n ps)) (nI (te T n (nxt T n ps))) z9 va1_24, pO cy ee (nI n), ia cy (ee 2) 120 T]) (show (tkn T n (skp T n (te T n ps))) = (tkn T n (nxt T n ps)) from rfl)
      replace hP1 := (congrArg (fun z9 => va_P D vwCl z9 _) hq9).mp hP1
      replace hD1 := (congrArg (fun z9 => va_D _ z9) hq9).mp hD1
      clear hq9
      refine lv_iload_n hx hb dX4_takeNumber_27 rfl (lv_at hl1 0 rfl) ?_
      have hq9 : ([eO cy ee (nI (nxt T n ps)) (nI (te T n (nxt T n ps))) (tkn T n (nxt T n ps)) va1_24, pO cy ee (nI n), ia cy (ee 2) 120 T]) = [eO cy ee (nI (tnP T n x1 ps)) (nI (te T n (tnP T n x1 ps))) (tkn T n (tnP T n x1 ps)) va1_24, pO cy ee (nI n), ia cy (ee 2) 120 T] := by rw [hp9]
      replace hP1 := (congrArg (fun z9 => va_P D vwCl z9 _) hq9).mp hP1
      replace hD1 := (congrArg (fun z9 => va_D _ z9) hq9).mp hD1
      refine re_i va1_24 hx hb hr hlocks hP1 hD1 hS1 dX4_takeNumber_28 ?_
      exact (⟨by rw [if_pos hk9]; exact hve, by rw [← hp9]; exact hv_24⟩)
    · have hk9 : ¬ okN T n ps x1 := fun z9 => c_13 (by rw [hv c_5]; exact z9.2)
      have hp9 : tnP T n x1 ps = ps := if_neg hk9
      refine lv_iconst (v := (-1)) hx hb dX4_takeNumber_16 (by decide) ?_
      have hq9 : ([eO cy ee (nI ps) (nI (te T n ps)) (tkn T n ps) va, pO cy ee (nI n), ia cy (ee 2) 120 T]) = [eO cy ee (nI (tnP T n x1 ps)) (nI (te T n (tnP T n x1 ps))) (tkn T n (tnP T n x1 ps)) va, pO cy ee (nI n), ia cy (ee 2) 120 T] := by rw [hp9]
      replace hP0 := (congrArg (fun z9 => va_P D vwCl z9 _) hq9).mp hP0
      replace hD0 := (congrArg (fun z9 => va_D _ z9) hq9).mp hD0
      refine re_i va hx hb hr hlocks hP0 hD0 hS0 dX4_takeNumber_17 ?_
      exact (⟨(if_neg hk9).symm, fun z9 => by rw [hp9] at z9 ⊢; exact hv z9⟩)
