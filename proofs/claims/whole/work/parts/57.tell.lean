theorem kc_X4_tellGap : kV yX4_tellGap cX4_tellGap 9 (some .boolean) 2 := ⟨kw_3_15, kw_s_8, kw_1_5, kw_3_16, by decide, by decide, by decide +kernel⟩
set_option maxHeartbeats 4000000 in
set_option maxRecDepth 100000 in
theorem c_X4_tellGap (l : Launch) (D : va_G) (cy : Nat → ClassId) (G : Nat → Nat) (sz : Nat) (ee : Nat → Nat) (n : Nat) (T : Nat → Int32) (ps : Nat) (va : Int32) (dd : Nat → Nat) (X : Nat → Int32) (x1 : Int32) (wf : wf X) (hn : n ≤ 120) (hs : ps ≤ n) (hv : tkn T n ps = 2 → va = nI (numV T n ps)) (htp : tpOk T n) : Met l yX4_tellGap (wm yX4_tellGap cX4_tellGap 9 (some .boolean)) { frames := 7, cells := 0, slots := 0, locals := 151 } (va_Pc [.ref (ee 0), .ref (dd 0), .int x1] (pr D (TY cy) G ([eO cy ee (nI ps) (nI (te T n ps)) (tkn T n ps) va, pO cy ee (nI n), ia cy (ee 2) 120 T] ++ (pS cy dd X)) sz)) (va_Qi (fun (r : Int32) (u : Int32 × (Nat → Int32)) => (r = b2i ((g7 T n X ps).1 = false)) ∧ (tkn T n (g7 T n X ps).2 = 2 → u.1 = nI (numV T n (g7 T n X ps).2)) ∧ (can u.2) ∧ ((g7 T n X ps).1 = false → u.2 = gpS T n X x1 ps)) (fun (u : Int32 × (Nat → Int32)) t => po D (va_A ([eO cy ee (nI ps) (nI (te T n ps)) (tkn T n ps) va, pO cy ee (nI n), ia cy (ee 2) 120 T] ++ (pS cy dd X)) sz) ([eO cy ee (nI ((g7 T n X ps).2)) (nI (te T n ((g7 T n X ps).2))) (tkn T n ((g7 T n X ps).2)) u.1, pO cy ee (nI n), ia cy (ee 2) 120 T] ++ (pS cy dd u.2)) t) (va_A ([eO cy ee (nI ps) (nI (te T n ps)) (tkn T n ps) va, pO cy ee (nI n), ia cy (ee 2) 120 T] ++ (pS cy dd X)) sz)) 0 0 (va_A ([eO cy ee (nI ps) (nI (te T n ps)) (tkn T n ps) va, pO cy ee (nI n), ia cy (ee 2) 120 T] ++ (pS cy dd X)) sz) := by
  refine mk_rw (by decide) RX4 rfl (Nat.le_of_ble_eq_true rfl) [(0, .ref (ee 0)), (1, .ref (dd 0)), (2, .int x1)] rfl ?_
  intro p e s m below meth c hx hb hml hown hr hlocks hin hw hsz hA hG hK H0 locs0 hP0 hD0 hS0 ls0 hl0
  clear hin
  have hte := te_b (T := T) hs
  have hnx := nxt_b (T := T) hs
  have hnx2 := nxt_b (T := T) hnx.2
  have hnx3 := nxt_b (T := T) hnx2.2
  have hg20 := wf_g20 wf
  have hr6 := wf_r6 wf
  have hnl := numV_le T n (nxt T n ps)
  have hnl3 := numV_le T n (nxt T n (nxt T n (nxt T n ps)))
  have hb4 := tnP_b (T := T) (m := 99) hnx3.2
  have hb5 := phP_b (T := T) (i := 8) (m := 9) hb4.2
  have hb6 := phP_b (T := T) (i := 9) (m := 3) hb5.2
  have hn8 := phN_le T n 8 (tnP T n 99 (nxt T n (nxt T n (nxt T n ps))))
  have hn9 := phN_le T n 9 (phP T n 8 9 (tnP T n 99 (nxt T n (nxt T n (nxt T n ps)))))
  have hn10 := phN_le T n 10 (phP T n 9 3 (phP T n 8 9 (tnP T n 99 (nxt T n (nxt T n (nxt T n ps))))))
  refine lv_aload_n hx hb dX4_tellGap_0 rfl (lv_at hl0 1 rfl) ?_
  refine va_get (D := D) (ci := 1) (v := .int (X 1)) (C := RX1) (T := TX1) (N := 12) hx hb hw iX1 hown hK hP0 3 rfl rfl 1 (by decide) (hw _ kw_1_38) (fun _ h9 => h9) rfl dX4_tellGap_1 ?_
  refine tp (show (X 1) = nI (gcN X) from wf_g wf) ?_
  refine lv_bipush (v := 20) hx hb dX4_tellGap_4 (by decide) ?_
  refine ln_lt (tgt := 11) (gcN X) 20 rfl rfl (by omega) (by omega) hx hb dX4_tellGap_6 (by decide) (fun c_6 => ?_) (fun c_6 => ?_)
  · refine lv_aload_n hx hb dX4_tellGap_11 rfl (lv_at hl0 0 rfl) ?_
    refine cV_v (wc := [eO cy ee (nI ps) (nI (te T n ps)) (tkn T n ps) va, pO cy ee (nI n), ia cy (ee 2) 120 T]) (wr := pS cy dd X) (rest := []) hx hb hml hown hw hG hK hP0 hD0 hS0 hA hl0 kc_X4_nextToken kw_2_167 [] (c_X4_nextToken l D cy G H0.size ee n T (nI ps) (tkn T n ps) va (te T n ps) (by first | omega | assumption) (by first | omega | assumption) (by first | omega | assumption)) [0, 1, 2] [3, 4, 5, 6, 7, 8, 9, 10, 11, 12] rfl rfl rfl rfl rfl 0 rfl rfl rfl rfl rfl (Nat.le_of_ble_eq_true rfl) ⟨Nat.le_of_ble_eq_true rfl, Nat.le_of_ble_eq_true rfl⟩ dX4_tellGap_12 ⟨Nat.le_of_ble_eq_true rfl, Nat.le_of_ble_eq_true rfl⟩ (fun u9 H1 locs1 hu9 hP1 hD1 hS1 => ?_)
    clear hP0 hD0 hS0 locs0 H0
    obtain ⟨va1_12, rfl⟩ : ∃ z9, z9 = u9 := ⟨_, rfl⟩
    have hv_12 := hu9
    replace hv_12 : tkn T n (skp T n (te T n ps)) = 2 → va1_12 = nI (numV T n (skp T n (te T n ps))) := hv_12
    replace hP1 : va_P D vwCl (pS cy dd X ++ ([eO cy ee (nI (skp T n (te T n ps))) (nI (te T n (skp T n (te T n ps)))) (tkn T n (skp T n (te T n ps))) va1_12, pO cy ee (nI n), ia cy (ee 2) 120 T])) H1 := hP1
    replace hD1 : va_D (va_A _ sz) (pS cy dd X ++ ([eO cy ee (nI (skp T n (te T n ps))) (nI (te T n (skp T n (te T n ps)))) (tkn T n (skp T n (te T n ps))) va1_12, pO cy ee (nI n), ia cy (ee 2) 120 T])) := hD1
    replace hP1 := hP1.sub (ws' := [eO cy ee (nI (skp T n (te T n ps))) (nI (te T n (skp T n (te T n ps)))) (tkn T n (skp T n (te T n ps))) va1_12, pO cy ee (nI n), ia cy (ee 2) 120 T] ++ (pS cy dd X)) [10, 11, 12, 0, 1, 2, 3, 4, 5, 6, 7, 8, 9] rfl
    replace hD1 := hD1.sub (ws' := [eO cy ee (nI (skp T n (te T n ps))) (nI (te T n (skp T n (te T n ps)))) (tkn T n (skp T n (te T n ps))) va1_12, pO cy ee (nI n), ia cy (ee 2) 120 T] ++ (pS cy dd X)) [10, 11, 12, 0, 1, 2, 3, 4, 5, 6, 7, 8, 9] (by decide) rfl
    have hp9 : skp T n (te T n ps) = (nxt T n ps) := rfl
    have hq9 : ([eO cy ee (nI (skp T n (te T n ps))) (nI (te T n (skp T n (te T n ps)))) (tkn T n (skp T n (te T n ps))) va1_12, pO cy ee (nI n), ia cy (ee 2) 120 T] ++ (pS cy dd X)) = ([eO cy ee (nI (nxt T n ps)) (nI (te T n (skp T n (te T n ps)))) (tkn T n (skp T n (te T n ps))) va1_12, pO cy ee (nI n), ia cy (ee 2) 120 T] ++ (pS cy dd X)) := congrArg (fun z9 => [eO cy ee z9 (nI (te T n (skp T n (te T n ps)))) (tkn T n (skp T n (te T n ps))) va1_12, pO cy ee (nI n), ia cy (ee 2) 120 T] ++ (pS cy dd X)) (show (nI (skp T n (te T n ps))) = (nI (nxt T n ps)) from congrArg (fun z9 => nI z9) hp9)
    replace hP1 := (congrArg (fun z9 => va_P D vwCl z9 _) hq9).mp hP1
    replace hD1 := (congrArg (fun z9 => va_D _ z9) hq9).mp hD1
    clear hq9
    have hq9 : ([eO cy ee (nI (nxt T n ps)) (nI (te T n (skp T n (te T n ps)))) (tkn T n (skp T n (te T n ps))) va1_12, pO cy ee (nI n), ia cy (ee 2) 120 T] ++ (pS cy dd X)) = ([eO cy ee (nI (nxt T n ps)) (nI (te T n (nxt T n ps))) (tkn T n (skp T n (te T n ps))) va1_12, pO cy ee (nI n), ia cy (ee 2) 120 T] ++ (pS cy dd X)) := congrArg (fun z9 => [eO cy ee (nI (nxt T n ps)) z9 (tkn T n (skp T n (te T n ps))) va1_12, pO cy ee (nI n), ia cy (ee 2) 120 T] ++ (pS cy dd X)) (show (nI (te T n (skp T n (te T n ps)))) = (nI (te T n (nxt T n ps))) from congrArg (fun z9 => nI (te T n z9)) hp9)
    replace hP1 := (congrArg (fun z9 => va_P D vwCl z9 _) hq9).mp hP1
    replace hD1 := (congrArg (fun z9 => va_D _ z9) hq9).mp hD1
    clear hq9
    have hq9 : ([eO cy ee (nI (nxt T n ps)) (nI (te T n (nxt T n ps))) (tkn T n (skp T n (te T n ps))) va1_12, pO cy ee (nI n), ia cy (ee 2) 120 T] ++ (pS cy dd X)) = ([eO cy ee (nI (nxt T n ps)) (nI (te T n (nxt T n ps))) (tkn T n (nxt T n ps)) va1_12, pO cy ee (nI n), ia cy (ee 2) 120 T] ++ (pS cy dd X)) := congrArg (fun z9 => [eO cy ee (nI (nxt T n ps)) (nI (te T n (nxt T n ps))) z9 va1_12, pO cy ee (nI n), ia cy (ee 2) 120 T] ++ (pS cy dd X)) (show (tkn T n (skp T n (te T n ps))) = (tkn T n (nxt T n ps)) from congrArg (fun z9 => tkn T n z9) hp9)
    replace hP1 := (congrArg (fun z9 => va_P D vwCl z9 _) hq9).mp hP1
    replace hD1 := (congrArg (fun z9 => va_D _ z9) hq9).mp hD1
    clear hq9
    clear hp9
    refine lv_aload_n hx hb dX4_tellGap_15 rfl (lv_at hl0 0 rfl) ?_
    refine lv_aload_n hx hb dX4_tellGap_16 rfl (lv_at hl0 1 rfl) ?_
    refine va_get (D := D) (ci := 1) (v := .int (X 0)) (C := RX1) (T := TX1) (N := 12) hx hb hw iX1 hown hK hP1 3 rfl rfl 0 (by decide) (hw _ kw_1_33) (fun _ h9 => h9) rfl dX4_tellGap_17 ?_
    refine tp (show (X 0) = nI (rcN X) from wf_r wf) ?_
    refine lv_iconst (v := 1) hx hb dX4_tellGap_20 (by decide) ?_
    refine lv_isub hx hb dX4_tellGap_21 ?_
    refine cV_i (wc := [eO cy ee (nI (nxt T n ps)) (nI (te T n (nxt T n ps))) (tkn T n (nxt T n ps)) va1_12, pO cy ee (nI n), ia cy (ee 2) 120 T]) (wr := pS cy dd X) (rest := []) hx hb hml hown hw hG hK hP1 hD1 hS1 hA hl0 kc_X4_takeNumber kw_3_17 [.int ((nI (rcN X)) - 1)] (c_X4_takeNumber l D cy G H1.size ee n T (nxt T n ps) va1_12 ((nI (rcN X)) - 1) (by first | omega | assumption) hnx.2 hv_12 (by first | omega | assumption)) [0, 1, 2] [3, 4, 5, 6, 7, 8, 9, 10, 11, 12] rfl rfl rfl rfl rfl 0 rfl rfl rfl rfl rfl (Nat.le_of_ble_eq_true rfl) ⟨Nat.le_of_ble_eq_true rfl, Nat.le_of_ble_eq_true rfl⟩ dX4_tellGap_22 ⟨Nat.le_of_ble_eq_true rfl, Nat.le_of_ble_eq_true rfl⟩ (fun r_22 u9 H2 locs2 hu9 hP2 hD2 hS2 => ?_)
    clear hP1 hD1 hS1 locs1 H1
    obtain ⟨va1_22, rfl⟩ : ∃ z9, z9 = u9 := ⟨_, rfl⟩
    obtain ⟨hr_22, hv1_22⟩ := hu9
    replace hv1_22 : tkn T n (tnP T n ((nI (rcN X)) - 1) (nxt T n ps)) = 2 → va1_22 = nI (numV T n (tnP T n ((nI (rcN X)) - 1) (nxt T n ps))) := hv1_22
    replace hP2 : va_P D vwCl (pS cy dd X ++ ([eO cy ee (nI (tnP T n ((nI (rcN X)) - 1) (nxt T n ps))) (nI (te T n (tnP T n ((nI (rcN X)) - 1) (nxt T n ps)))) (tkn T n (tnP T n ((nI (rcN X)) - 1) (nxt T n ps))) va1_22, pO cy ee (nI n), ia cy (ee 2) 120 T])) H2 := hP2
    replace hD2 : va_D (va_A _ sz) (pS cy dd X ++ ([eO cy ee (nI (tnP T n ((nI (rcN X)) - 1) (nxt T n ps))) (nI (te T n (tnP T n ((nI (rcN X)) - 1) (nxt T n ps)))) (tkn T n (tnP T n ((nI (rcN X)) - 1) (nxt T n ps))) va1_22, pO cy ee (nI n), ia cy (ee 2) 120 T])) := hD2
    replace hP2 := hP2.sub (ws' := [eO cy ee (nI (tnP T n ((nI (rcN X)) - 1) (nxt T n ps))) (nI (te T n (tnP T n ((nI (rcN X)) - 1) (nxt T n ps)))) (tkn T n (tnP T n ((nI (rcN X)) - 1) (nxt T n ps))) va1_22, pO cy ee (nI n), ia cy (ee 2) 120 T] ++ (pS cy dd X)) [10, 11, 12, 0, 1, 2, 3, 4, 5, 6, 7, 8, 9] rfl
    replace hD2 := hD2.sub (ws' := [eO cy ee (nI (tnP T n ((nI (rcN X)) - 1) (nxt T n ps))) (nI (te T n (tnP T n ((nI (rcN X)) - 1) (nxt T n ps)))) (tkn T n (tnP T n ((nI (rcN X)) - 1) (nxt T n ps))) va1_22, pO cy ee (nI n), ia cy (ee 2) 120 T] ++ (pS cy dd X)) [10, 11, 12, 0, 1, 2, 3, 4, 5, 6, 7, 8, 9] (by decide) rfl
    subst hr_22
    by_cases h2 : okN T n (nxt T n ps) (nI (rcN X) - 1)
    · refine tp (show (if okN T n (nxt T n ps) ((nI (rcN X)) - 1) then nI (numV T n (nxt T n ps)) else -1) = nI (numV T n (nxt T n ps)) from if_pos h2) ?_
      have hp9 : tnP T n ((nI (rcN X)) - 1) (nxt T n ps) = (nxt T n (nxt T n ps)) := (if_pos h2)
      have hq9 : ([eO cy ee (nI (tnP T n ((nI (rcN X)) - 1) (nxt T n ps))) (nI (te T n (tnP T n ((nI (rcN X)) - 1) (nxt T n ps)))) (tkn T n (tnP T n ((nI (rcN X)) - 1) (nxt T n ps))) va1_22, pO cy ee (nI n), ia cy (ee 2) 120 T] ++ (pS cy dd X)) = ([eO cy ee (nI (nxt T n (nxt T n ps))) (nI (te T n (tnP T n ((nI (rcN X)) - 1) (nxt T n ps)))) (tkn T n (tnP T n ((nI (rcN X)) - 1) (nxt T n ps))) va1_22, pO cy ee (nI n), ia cy (ee 2) 120 T] ++ (pS cy dd X)) := congrArg (fun z9 => [eO cy ee z9 (nI (te T n (tnP T n ((nI (rcN X)) - 1) (nxt T n ps)))) (tkn T n (tnP T n ((nI (rcN X)) - 1) (nxt T n ps))) va1_22, pO cy ee (nI n), ia cy (ee 2) 120 T] ++ (pS cy dd X)) (show (nI (tnP T n ((nI (rcN X)) - 1) (nxt T n ps))) = (nI (nxt T n (nxt T n ps))) from congrArg (fun z9 => nI z9) hp9)
      replace hP2 := (congrArg (fun z9 => va_P D vwCl z9 _) hq9).mp hP2
      replace hD2 := (congrArg (fun z9 => va_D _ z9) hq9).mp hD2
      clear hq9
      have hq9 : ([eO cy ee (nI (nxt T n (nxt T n ps))) (nI (te T n (tnP T n ((nI (rcN X)) - 1) (nxt T n ps)))) (tkn T n (tnP T n ((nI (rcN X)) - 1) (nxt T n ps))) va1_22, pO cy ee (nI n), ia cy (ee 2) 120 T] ++ (pS cy dd X)) = ([eO cy ee (nI (nxt T n (nxt T n ps))) (nI (te T n (nxt T n (nxt T n ps)))) (tkn T n (tnP T n ((nI (rcN X)) - 1) (nxt T n ps))) va1_22, pO cy ee (nI n), ia cy (ee 2) 120 T] ++ (pS cy dd X)) := congrArg (fun z9 => [eO cy ee (nI (nxt T n (nxt T n ps))) z9 (tkn T n (tnP T n ((nI (rcN X)) - 1) (nxt T n ps))) va1_22, pO cy ee (nI n), ia cy (ee 2) 120 T] ++ (pS cy dd X)) (show (nI (te T n (tnP T n ((nI (rcN X)) - 1) (nxt T n ps)))) = (nI (te T n (nxt T n (nxt T n ps)))) from congrArg (fun z9 => nI (te T n z9)) hp9)
      replace hP2 := (congrArg (fun z9 => va_P D vwCl z9 _) hq9).mp hP2
      replace hD2 := (congrArg (fun z9 => va_D _ z9) hq9).mp hD2
      clear hq9
      have hq9 : ([eO cy ee (nI (nxt T n (nxt T n ps))) (nI (te T n (nxt T n (nxt T n ps)))) (tkn T n (tnP T n ((nI (rcN X)) - 1) (nxt T n ps))) va1_22, pO cy ee (nI n), ia cy (ee 2) 120 T] ++ (pS cy dd X)) = ([eO cy ee (nI (nxt T n (nxt T n ps))) (nI (te T n (nxt T n (nxt T n ps)))) (tkn T n (nxt T n (nxt T n ps))) va1_22, pO cy ee (nI n), ia cy (ee 2) 120 T] ++ (pS cy dd X)) := congrArg (fun z9 => [eO cy ee (nI (nxt T n (nxt T n ps))) (nI (te T n (nxt T n (nxt T n ps)))) z9 va1_22, pO cy ee (nI n), ia cy (ee 2) 120 T] ++ (pS cy dd X)) (show (tkn T n (tnP T n ((nI (rcN X)) - 1) (nxt T n ps))) = (tkn T n (nxt T n (nxt T n ps))) from congrArg (fun z9 => tkn T n z9) hp9)
      replace hP2 := (congrArg (fun z9 => va_P D vwCl z9 _) hq9).mp hP2
      replace hD2 := (congrArg (fun z9 => va_D _ z9) hq9).mp hD2
      clear hq9
      clear hp9
      replace hv1_22 : tkn T n (nxt T n (nxt T n ps)) = 2 → va1_22 = nI (numV T n (nxt T n (nxt T n ps))) := fun z9 => by rw [← show _ = (nxt T n (nxt T n ps)) from if_pos h2] at z9 ⊢; exact hv1_22 z9
      refine lv_istore_n (lv' := [(3, .int (nI (numV T n (nxt T n ps)))), (0, .ref (ee 0)), (1, .ref (dd 0)), (2, .int x1)]) hx hb dX4_tellGap_25 rfl hl0 (by decide) rfl (fun ls1 hl1 => ?_)
      clear hl0 ls0
      refine lv_iload_n hx hb dX4_tellGap_26 rfl (lv_at hl1 0 rfl) ?_
      refine lv_if_ge (tgt := 32) hx hb dX4_tellGap_27 (by decide) (fun _ => ?_) (fun c => absurd (nI_pos' (by omega)) c)
      refine lv_aload_n hx hb dX4_tellGap_32 rfl (lv_at hl1 1 rfl) ?_
      refine lv_aload_n hx hb dX4_tellGap_33 rfl (lv_at hl1 2 rfl) ?_
      refine va_get (D := D) (ci := 1) (v := .int (X 0)) (C := RX1) (T := TX1) (N := 12) hx hb hw iX1 hown hK hP2 3 rfl rfl 0 (by decide) (hw _ kw_1_33) (fun _ h9 => h9) rfl dX4_tellGap_34 ?_
      refine tp (show (X 0) = nI (rcN X) from wf_r wf) ?_
      refine lv_iconst (v := 1) hx hb dX4_tellGap_37 (by decide) ?_
      refine lv_isub hx hb dX4_tellGap_38 ?_
      refine lv_iload_n hx hb dX4_tellGap_39 rfl (lv_at hl1 0 rfl) ?_
      refine cV_i (wc := [eO cy ee (nI (nxt T n (nxt T n ps))) (nI (te T n (nxt T n (nxt T n ps)))) (tkn T n (nxt T n (nxt T n ps))) va1_22, pO cy ee (nI n), ia cy (ee 2) 120 T]) (wr := pS cy dd X) (rest := []) hx hb hml hown hw hG hK hP2 hD2 hS2 hA hl1 kc_X4_takeOther kw_3_21 [.int ((nI (rcN X)) - 1), .int (nI (numV T n (nxt T n ps)))] (c_X4_takeOther l D cy G H2.size ee n T (nxt T n (nxt T n ps)) va1_22 ((nI (rcN X)) - 1) (numV T n (nxt T n ps)) (by first | omega | assumption) hnx2.2 hv1_22 (by omega) (by first | omega | assumption)) [0, 1, 2] [3, 4, 5, 6, 7, 8, 9, 10, 11, 12] rfl rfl rfl rfl rfl 0 rfl rfl rfl rfl rfl (Nat.le_of_ble_eq_true rfl) ⟨Nat.le_of_ble_eq_true rfl, Nat.le_of_ble_eq_true rfl⟩ dX4_tellGap_40 ⟨Nat.le_of_ble_eq_true rfl, Nat.le_of_ble_eq_true rfl⟩ (fun r_40 u9 H3 locs3 hu9 hP3 hD3 hS3 => ?_)
      clear hP2 hD2 hS2 locs2 H2
      obtain ⟨va1_40, rfl⟩ : ∃ z9, z9 = u9 := ⟨_, rfl⟩
      obtain ⟨hr_40, hv1_40⟩ := hu9
      replace hv1_40 : tkn T n (oqP T n ((nI (rcN X)) - 1) (numV T n (nxt T n ps)) (nxt T n (nxt T n ps))) = 2 → va1_40 = nI (numV T n (oqP T n ((nI (rcN X)) - 1) (numV T n (nxt T n ps)) (nxt T n (nxt T n ps)))) := hv1_40
      replace hP3 : va_P D vwCl (pS cy dd X ++ ([eO cy ee (nI (oqP T n ((nI (rcN X)) - 1) (numV T n (nxt T n ps)) (nxt T n (nxt T n ps)))) (nI (te T n (oqP T n ((nI (rcN X)) - 1) (numV T n (nxt T n ps)) (nxt T n (nxt T n ps))))) (tkn T n (oqP T n ((nI (rcN X)) - 1) (numV T n (nxt T n ps)) (nxt T n (nxt T n ps)))) va1_40, pO cy ee (nI n), ia cy (ee 2) 120 T])) H3 := hP3
      replace hD3 : va_D (va_A _ sz) (pS cy dd X ++ ([eO cy ee (nI (oqP T n ((nI (rcN X)) - 1) (numV T n (nxt T n ps)) (nxt T n (nxt T n ps)))) (nI (te T n (oqP T n ((nI (rcN X)) - 1) (numV T n (nxt T n ps)) (nxt T n (nxt T n ps))))) (tkn T n (oqP T n ((nI (rcN X)) - 1) (numV T n (nxt T n ps)) (nxt T n (nxt T n ps)))) va1_40, pO cy ee (nI n), ia cy (ee 2) 120 T])) := hD3
      replace hP3 := hP3.sub (ws' := [eO cy ee (nI (oqP T n ((nI (rcN X)) - 1) (numV T n (nxt T n ps)) (nxt T n (nxt T n ps)))) (nI (te T n (oqP T n ((nI (rcN X)) - 1) (numV T n (nxt T n ps)) (nxt T n (nxt T n ps))))) (tkn T n (oqP T n ((nI (rcN X)) - 1) (numV T n (nxt T n ps)) (nxt T n (nxt T n ps)))) va1_40, pO cy ee (nI n), ia cy (ee 2) 120 T] ++ (pS cy dd X)) [10, 11, 12, 0, 1, 2, 3, 4, 5, 6, 7, 8, 9] rfl
      replace hD3 := hD3.sub (ws' := [eO cy ee (nI (oqP T n ((nI (rcN X)) - 1) (numV T n (nxt T n ps)) (nxt T n (nxt T n ps)))) (nI (te T n (oqP T n ((nI (rcN X)) - 1) (numV T n (nxt T n ps)) (nxt T n (nxt T n ps))))) (tkn T n (oqP T n ((nI (rcN X)) - 1) (numV T n (nxt T n ps)) (nxt T n (nxt T n ps)))) va1_40, pO cy ee (nI n), ia cy (ee 2) 120 T] ++ (pS cy dd X)) [10, 11, 12, 0, 1, 2, 3, 4, 5, 6, 7, 8, 9] (by decide) rfl
      subst hr_40
      by_cases h4 : otQ T n (nI (rcN X) - 1) (numV T n (nxt T n ps)) (nxt T n (nxt T n ps))
      · refine tp (show (if otQ T n ((nI (rcN X)) - 1) (numV T n (nxt T n ps)) (nxt T n (nxt T n ps)) then otV T n (nxt T n (nxt T n ps)) else -2) = otV T n (nxt T n (nxt T n ps)) from if_pos h4) ?_
        have hp9 : oqP T n ((nI (rcN X)) - 1) (numV T n (nxt T n ps)) (nxt T n (nxt T n ps)) = (nxt T n (nxt T n (nxt T n ps))) := (if_pos h4)
        have hq9 : ([eO cy ee (nI (oqP T n ((nI (rcN X)) - 1) (numV T n (nxt T n ps)) (nxt T n (nxt T n ps)))) (nI (te T n (oqP T n ((nI (rcN X)) - 1) (numV T n (nxt T n ps)) (nxt T n (nxt T n ps))))) (tkn T n (oqP T n ((nI (rcN X)) - 1) (numV T n (nxt T n ps)) (nxt T n (nxt T n ps)))) va1_40, pO cy ee (nI n), ia cy (ee 2) 120 T] ++ (pS cy dd X)) = ([eO cy ee (nI (nxt T n (nxt T n (nxt T n ps)))) (nI (te T n (oqP T n ((nI (rcN X)) - 1) (numV T n (nxt T n ps)) (nxt T n (nxt T n ps))))) (tkn T n (oqP T n ((nI (rcN X)) - 1) (numV T n (nxt T n ps)) (nxt T n (nxt T n ps)))) va1_40, pO cy ee (nI n), ia cy (ee 2) 120 T] ++ (pS cy dd X)) := congrArg (fun z9 => [eO cy ee z9 (nI (te T n (oqP T n ((nI (rcN X)) - 1) (numV T n (nxt T n ps)) (nxt T n (nxt T n ps))))) (tkn T n (oqP T n ((nI (rcN X)) - 1) (numV T n (nxt T n ps)) (nxt T n (nxt T n ps)))) va1_40, pO cy ee (nI n), ia cy (ee 2) 120 T] ++ (pS cy dd X)) (show (nI (oqP T n ((nI (rcN X)) - 1) (numV T n (nxt T n ps)) (nxt T n (nxt T n ps)))) = (nI (nxt T n (nxt T n (nxt T n ps)))) from congrArg (fun z9 => nI z9) hp9)
        replace hP3 := (congrArg (fun z9 => va_P D vwCl z9 _) hq9).mp hP3
        replace hD3 := (congrArg (fun z9 => va_D _ z9) hq9).mp hD3
        clear hq9
        have hq9 : ([eO cy ee (nI (nxt T n (nxt T n (nxt T n ps)))) (nI (te T n (oqP T n ((nI (rcN X)) - 1) (numV T n (nxt T n ps)) (nxt T n (nxt T n ps))))) (tkn T n (oqP T n ((nI (rcN X)) - 1) (numV T n (nxt T n ps)) (nxt T n (nxt T n ps)))) va1_40, pO cy ee (nI n), ia cy (ee 2) 120 T] ++ (pS cy dd X)) = ([eO cy ee (nI (nxt T n (nxt T n (nxt T n ps)))) (nI (te T n (nxt T n (nxt T n (nxt T n ps))))) (tkn T n (oqP T n ((nI (rcN X)) - 1) (numV T n (nxt T n ps)) (nxt T n (nxt T n ps)))) va1_40, pO cy ee (nI n), ia cy (ee 2) 120 T] ++ (pS cy dd X)) := congrArg (fun z9 => [eO cy ee (nI (nxt T n (nxt T n (nxt T n ps)))) z9 (tkn T n (oqP T n ((nI (rcN X)) - 1) (numV T n (nxt T n ps)) (nxt T n (nxt T n ps)))) va1_40, pO cy ee (nI n), ia cy (ee 2) 120 T] ++ (pS cy dd X)) (show (nI (te T n (oqP T n ((nI (rcN X)) - 1) (numV T n (nxt T n ps)) (nxt T n (nxt T n ps))))) = (nI (te T n (nxt T n (nxt T n (nxt T n ps))))) from congrArg (fun z9 => nI (te T n z9)) hp9)
        replace hP3 := (congrArg (fun z9 => va_P D vwCl z9 _) hq9).mp hP3
        replace hD3 := (congrArg (fun z9 => va_D _ z9) hq9).mp hD3
        clear hq9
        have hq9 : ([eO cy ee (nI (nxt T n (nxt T n (nxt T n ps)))) (nI (te T n (nxt T n (nxt T n (nxt T n ps))))) (tkn T n (oqP T n ((nI (rcN X)) - 1) (numV T n (nxt T n ps)) (nxt T n (nxt T n ps)))) va1_40, pO cy ee (nI n), ia cy (ee 2) 120 T] ++ (pS cy dd X)) = ([eO cy ee (nI (nxt T n (nxt T n (nxt T n ps)))) (nI (te T n (nxt T n (nxt T n (nxt T n ps))))) (tkn T n (nxt T n (nxt T n (nxt T n ps)))) va1_40, pO cy ee (nI n), ia cy (ee 2) 120 T] ++ (pS cy dd X)) := congrArg (fun z9 => [eO cy ee (nI (nxt T n (nxt T n (nxt T n ps)))) (nI (te T n (nxt T n (nxt T n (nxt T n ps))))) z9 va1_40, pO cy ee (nI n), ia cy (ee 2) 120 T] ++ (pS cy dd X)) (show (tkn T n (oqP T n ((nI (rcN X)) - 1) (numV T n (nxt T n ps)) (nxt T n (nxt T n ps)))) = (tkn T n (nxt T n (nxt T n (nxt T n ps)))) from congrArg (fun z9 => tkn T n z9) hp9)
        replace hP3 := (congrArg (fun z9 => va_P D vwCl z9 _) hq9).mp hP3
        replace hD3 := (congrArg (fun z9 => va_D _ z9) hq9).mp hD3
        clear hq9
        clear hp9
        replace hv1_40 : tkn T n (nxt T n (nxt T n (nxt T n ps))) = 2 → va1_40 = nI (numV T n (nxt T n (nxt T n (nxt T n ps)))) := fun z9 => by rw [← show _ = (nxt T n (nxt T n (nxt T n ps))) from if_pos h4] at z9 ⊢; exact hv1_40 z9
        refine lv_istore (lv' := [(4, .int (otV T n (nxt T n (nxt T n ps)))), (3, .int (nI (numV T n (nxt T n ps)))), (0, .ref (ee 0)), (1, .ref (dd 0)), (2, .int x1)]) hx hb dX4_tellGap_43 hl1 (by decide) rfl (fun ls2 hl2 => ?_)
        clear hl1 ls1
        refine lv_iload hx hb dX4_tellGap_45 (lv_at hl2 0 rfl) ?_
        refine lv_iconst (v := (-1)) hx hb dX4_tellGap_47 (by decide) ?_
        refine lv_icmp_ge (tgt := 53) hx hb dX4_tellGap_48 (by decide) (fun c_48 => ?_) (fun c_48 => absurd (otV_ge T n (nxt T n (nxt T n ps))) c_48)
        refine lv_aload_n hx hb dX4_tellGap_53 rfl (lv_at hl2 2 rfl) ?_
        refine lv_bipush (v := 99) hx hb dX4_tellGap_54 (by decide) ?_
        refine cV_i (wc := [eO cy ee (nI (nxt T n (nxt T n (nxt T n ps)))) (nI (te T n (nxt T n (nxt T n (nxt T n ps))))) (tkn T n (nxt T n (nxt T n (nxt T n ps)))) va1_40, pO cy ee (nI n), ia cy (ee 2) 120 T]) (wr := pS cy dd X) (rest := []) hx hb hml hown hw hG hK hP3 hD3 hS3 hA hl2 kc_X4_takeNumber kw_3_17 [.int 99] (c_X4_takeNumber l D cy G H3.size ee n T (nxt T n (nxt T n (nxt T n ps))) va1_40 99 (by first | omega | assumption) hnx3.2 hv1_40 (by first | omega | assumption)) [0, 1, 2] [3, 4, 5, 6, 7, 8, 9, 10, 11, 12] rfl rfl rfl rfl rfl 0 rfl rfl rfl rfl rfl (Nat.le_of_ble_eq_true rfl) ⟨Nat.le_of_ble_eq_true rfl, Nat.le_of_ble_eq_true rfl⟩ dX4_tellGap_56 ⟨Nat.le_of_ble_eq_true rfl, Nat.le_of_ble_eq_true rfl⟩ (fun r_56 u9 H4 locs4 hu9 hP4 hD4 hS4 => ?_)
        clear hP3 hD3 hS3 locs3 H3
        obtain ⟨va1_56, rfl⟩ : ∃ z9, z9 = u9 := ⟨_, rfl⟩
        obtain ⟨hr_56, hv1_56⟩ := hu9
        replace hv1_56 : tkn T n (tnP T n 99 (nxt T n (nxt T n (nxt T n ps)))) = 2 → va1_56 = nI (numV T n (tnP T n 99 (nxt T n (nxt T n (nxt T n ps))))) := hv1_56
        replace hP4 : va_P D vwCl (pS cy dd X ++ ([eO cy ee (nI (tnP T n 99 (nxt T n (nxt T n (nxt T n ps))))) (nI (te T n (tnP T n 99 (nxt T n (nxt T n (nxt T n ps)))))) (tkn T n (tnP T n 99 (nxt T n (nxt T n (nxt T n ps))))) va1_56, pO cy ee (nI n), ia cy (ee 2) 120 T])) H4 := hP4
        replace hD4 : va_D (va_A _ sz) (pS cy dd X ++ ([eO cy ee (nI (tnP T n 99 (nxt T n (nxt T n (nxt T n ps))))) (nI (te T n (tnP T n 99 (nxt T n (nxt T n (nxt T n ps)))))) (tkn T n (tnP T n 99 (nxt T n (nxt T n (nxt T n ps))))) va1_56, pO cy ee (nI n), ia cy (ee 2) 120 T])) := hD4
        replace hP4 := hP4.sub (ws' := [eO cy ee (nI (tnP T n 99 (nxt T n (nxt T n (nxt T n ps))))) (nI (te T n (tnP T n 99 (nxt T n (nxt T n (nxt T n ps)))))) (tkn T n (tnP T n 99 (nxt T n (nxt T n (nxt T n ps))))) va1_56, pO cy ee (nI n), ia cy (ee 2) 120 T] ++ (pS cy dd X)) [10, 11, 12, 0, 1, 2, 3, 4, 5, 6, 7, 8, 9] rfl
        replace hD4 := hD4.sub (ws' := [eO cy ee (nI (tnP T n 99 (nxt T n (nxt T n (nxt T n ps))))) (nI (te T n (tnP T n 99 (nxt T n (nxt T n (nxt T n ps)))))) (tkn T n (tnP T n 99 (nxt T n (nxt T n (nxt T n ps))))) va1_56, pO cy ee (nI n), ia cy (ee 2) 120 T] ++ (pS cy dd X)) [10, 11, 12, 0, 1, 2, 3, 4, 5, 6, 7, 8, 9] (by decide) rfl
        subst hr_56
        by_cases h5 : okN T n (nxt T n (nxt T n (nxt T n ps))) 99
        · refine tp (show (if okN T n (nxt T n (nxt T n (nxt T n ps))) 99 then nI (numV T n (nxt T n (nxt T n (nxt T n ps)))) else -1) = nI (numV T n (nxt T n (nxt T n (nxt T n ps)))) from if_pos h5) ?_
          refine lv_istore (lv' := [(5, .int (nI (numV T n (nxt T n (nxt T n (nxt T n ps)))))), (4, .int (otV T n (nxt T n (nxt T n ps)))), (3, .int (nI (numV T n (nxt T n ps)))), (0, .ref (ee 0)), (1, .ref (dd 0)), (2, .int x1)]) hx hb dX4_tellGap_59 hl2 (by decide) rfl (fun ls3 hl3 => ?_)
          clear hl2 ls2
          refine lv_iload hx hb dX4_tellGap_61 (lv_at hl3 0 rfl) ?_
          refine lv_if_ge (tgt := 70) hx hb dX4_tellGap_63 (by decide) (fun _ => ?_) (fun c => absurd (nI_pos' (by omega)) c)
          refine lv_aload_n hx hb dX4_tellGap_70 rfl (lv_at hl3 3 rfl) ?_
          refine va_ldcS hx hb hown (hG.2.2.2.1 8 (by decide)) dX4_tellGap_71 ?_
          refine lv_bipush (v := 9) hx hb dX4_tellGap_73 (by decide) ?_
          refine cV_i (wc := [eO cy ee (nI (tnP T n 99 (nxt T n (nxt T n (nxt T n ps))))) (nI (te T n (tnP T n 99 (nxt T n (nxt T n (nxt T n ps)))))) (tkn T n (tnP T n 99 (nxt T n (nxt T n (nxt T n ps))))) va1_56, pO cy ee (nI n), ia cy (ee 2) 120 T]) (wr := pS cy dd X) (rest := []) hx hb hml hown hw hG hK hP4 hD4 hS4 hA hl3 kc_X4_takePerhaps kw_3_27 [.ref (G (10 + 8)), .int 9] (c_X4_takePerhaps l D cy G H4.size ee n T (tnP T n 99 (nxt T n (nxt T n (nxt T n ps)))) va1_56 8 9 (by first | omega | assumption) hb4.2 hv1_56 (by decide) (by first | omega | assumption)) [0, 1, 2] [3, 4, 5, 6, 7, 8, 9, 10, 11, 12] rfl rfl rfl rfl rfl 0 rfl rfl rfl rfl rfl (Nat.le_of_ble_eq_true rfl) ⟨Nat.le_of_ble_eq_true rfl, Nat.le_of_ble_eq_true rfl⟩ dX4_tellGap_75 ⟨Nat.le_of_ble_eq_true rfl, Nat.le_of_ble_eq_true rfl⟩ (fun r_75 u9 H5 locs5 hu9 hP5 hD5 hS5 => ?_)
          clear hP4 hD4 hS4 locs4 H4
          obtain ⟨va1_75, rfl⟩ : ∃ z9, z9 = u9 := ⟨_, rfl⟩
          obtain ⟨hr_75, hv1_75⟩ := hu9
          replace hv1_75 : tkn T n (phP T n 8 9 (tnP T n 99 (nxt T n (nxt T n (nxt T n ps))))) = 2 → va1_75 = nI (numV T n (phP T n 8 9 (tnP T n 99 (nxt T n (nxt T n (nxt T n ps)))))) := hv1_75
          replace hP5 : va_P D vwCl (pS cy dd X ++ ([eO cy ee (nI (phP T n 8 9 (tnP T n 99 (nxt T n (nxt T n (nxt T n ps)))))) (nI (te T n (phP T n 8 9 (tnP T n 99 (nxt T n (nxt T n (nxt T n ps))))))) (tkn T n (phP T n 8 9 (tnP T n 99 (nxt T n (nxt T n (nxt T n ps)))))) va1_75, pO cy ee (nI n), ia cy (ee 2) 120 T])) H5 := hP5
          replace hD5 : va_D (va_A _ sz) (pS cy dd X ++ ([eO cy ee (nI (phP T n 8 9 (tnP T n 99 (nxt T n (nxt T n (nxt T n ps)))))) (nI (te T n (phP T n 8 9 (tnP T n 99 (nxt T n (nxt T n (nxt T n ps))))))) (tkn T n (phP T n 8 9 (tnP T n 99 (nxt T n (nxt T n (nxt T n ps)))))) va1_75, pO cy ee (nI n), ia cy (ee 2) 120 T])) := hD5
          replace hP5 := hP5.sub (ws' := [eO cy ee (nI (phP T n 8 9 (tnP T n 99 (nxt T n (nxt T n (nxt T n ps)))))) (nI (te T n (phP T n 8 9 (tnP T n 99 (nxt T n (nxt T n (nxt T n ps))))))) (tkn T n (phP T n 8 9 (tnP T n 99 (nxt T n (nxt T n (nxt T n ps)))))) va1_75, pO cy ee (nI n), ia cy (ee 2) 120 T] ++ (pS cy dd X)) [10, 11, 12, 0, 1, 2, 3, 4, 5, 6, 7, 8, 9] rfl
          replace hD5 := hD5.sub (ws' := [eO cy ee (nI (phP T n 8 9 (tnP T n 99 (nxt T n (nxt T n (nxt T n ps)))))) (nI (te T n (phP T n 8 9 (tnP T n 99 (nxt T n (nxt T n (nxt T n ps))))))) (tkn T n (phP T n 8 9 (tnP T n 99 (nxt T n (nxt T n (nxt T n ps)))))) va1_75, pO cy ee (nI n), ia cy (ee 2) 120 T] ++ (pS cy dd X)) [10, 11, 12, 0, 1, 2, 3, 4, 5, 6, 7, 8, 9] (by decide) rfl
          subst hr_75
          by_cases h6 : phK T n 8 9 (tnP T n 99 (nxt T n (nxt T n (nxt T n ps)))) = true
          · refine tp (show (if phK T n 8 9 (tnP T n 99 (nxt T n (nxt T n (nxt T n ps)))) = true then nI (phN T n 8 (tnP T n 99 (nxt T n (nxt T n (nxt T n ps))))) else -1) = nI (phN T n 8 (tnP T n 99 (nxt T n (nxt T n (nxt T n ps))))) from if_pos h6) ?_
            refine lv_istore (lv' := [(6, .int (nI (phN T n 8 (tnP T n 99 (nxt T n (nxt T n (nxt T n ps))))))), (5, .int (nI (numV T n (nxt T n (nxt T n (nxt T n ps)))))), (4, .int (otV T n (nxt T n (nxt T n ps)))), (3, .int (nI (numV T n (nxt T n ps)))), (0, .ref (ee 0)), (1, .ref (dd 0)), (2, .int x1)]) hx hb dX4_tellGap_78 hl3 (by decide) rfl (fun ls4 hl4 => ?_)
            clear hl3 ls3
            refine lv_iload hx hb dX4_tellGap_80 (lv_at hl4 0 rfl) ?_
            refine lv_if_ge (tgt := 89) hx hb dX4_tellGap_82 (by decide) (fun _ => ?_) (fun c => absurd (nI_pos' (by omega)) c)
            refine lv_aload_n hx hb dX4_tellGap_89 rfl (lv_at hl4 4 rfl) ?_
            refine va_ldcS hx hb hown (hG.2.2.2.1 9 (by decide)) dX4_tellGap_90 ?_
            refine lv_iconst (v := 3) hx hb dX4_tellGap_92 (by decide) ?_
            refine cV_i (wc := [eO cy ee (nI (phP T n 8 9 (tnP T n 99 (nxt T n (nxt T n (nxt T n ps)))))) (nI (te T n (phP T n 8 9 (tnP T n 99 (nxt T n (nxt T n (nxt T n ps))))))) (tkn T n (phP T n 8 9 (tnP T n 99 (nxt T n (nxt T n (nxt T n ps)))))) va1_75, pO cy ee (nI n), ia cy (ee 2) 120 T]) (wr := pS cy dd X) (rest := []) hx hb hml hown hw hG hK hP5 hD5 hS5 hA hl4 kc_X4_takePerhaps kw_3_27 [.ref (G (10 + 9)), .int 3] (c_X4_takePerhaps l D cy G H5.size ee n T (phP T n 8 9 (tnP T n 99 (nxt T n (nxt T n (nxt T n ps))))) va1_75 9 3 (by first | omega | assumption) hb5.2 hv1_75 (by decide) (by first | omega | assumption)) [0, 1, 2] [3, 4, 5, 6, 7, 8, 9, 10, 11, 12] rfl rfl rfl rfl rfl 0 rfl rfl rfl rfl rfl (Nat.le_of_ble_eq_true rfl) ⟨Nat.le_of_ble_eq_true rfl, Nat.le_of_ble_eq_true rfl⟩ dX4_tellGap_93 ⟨Nat.le_of_ble_eq_true rfl, Nat.le_of_ble_eq_true rfl⟩ (fun r_93 u9 H6 locs6 hu9 hP6 hD6 hS6 => ?_)
            clear hP5 hD5 hS5 locs5 H5
            obtain ⟨va1_93, rfl⟩ : ∃ z9, z9 = u9 := ⟨_, rfl⟩
            obtain ⟨hr_93, hv1_93⟩ := hu9
            replace hv1_93 : tkn T n (phP T n 9 3 (phP T n 8 9 (tnP T n 99 (nxt T n (nxt T n (nxt T n ps)))))) = 2 → va1_93 = nI (numV T n (phP T n 9 3 (phP T n 8 9 (tnP T n 99 (nxt T n (nxt T n (nxt T n ps))))))) := hv1_93
            replace hP6 : va_P D vwCl (pS cy dd X ++ ([eO cy ee (nI (phP T n 9 3 (phP T n 8 9 (tnP T n 99 (nxt T n (nxt T n (nxt T n ps))))))) (nI (te T n (phP T n 9 3 (phP T n 8 9 (tnP T n 99 (nxt T n (nxt T n (nxt T n ps)))))))) (tkn T n (phP T n 9 3 (phP T n 8 9 (tnP T n 99 (nxt T n (nxt T n (nxt T n ps))))))) va1_93, pO cy ee (nI n), ia cy (ee 2) 120 T])) H6 := hP6
            replace hD6 : va_D (va_A _ sz) (pS cy dd X ++ ([eO cy ee (nI (phP T n 9 3 (phP T n 8 9 (tnP T n 99 (nxt T n (nxt T n (nxt T n ps))))))) (nI (te T n (phP T n 9 3 (phP T n 8 9 (tnP T n 99 (nxt T n (nxt T n (nxt T n ps)))))))) (tkn T n (phP T n 9 3 (phP T n 8 9 (tnP T n 99 (nxt T n (nxt T n (nxt T n ps))))))) va1_93, pO cy ee (nI n), ia cy (ee 2) 120 T])) := hD6
            replace hP6 := hP6.sub (ws' := [eO cy ee (nI (phP T n 9 3 (phP T n 8 9 (tnP T n 99 (nxt T n (nxt T n (nxt T n ps))))))) (nI (te T n (phP T n 9 3 (phP T n 8 9 (tnP T n 99 (nxt T n (nxt T n (nxt T n ps)))))))) (tkn T n (phP T n 9 3 (phP T n 8 9 (tnP T n 99 (nxt T n (nxt T n (nxt T n ps))))))) va1_93, pO cy ee (nI n), ia cy (ee 2) 120 T] ++ (pS cy dd X)) [10, 11, 12, 0, 1, 2, 3, 4, 5, 6, 7, 8, 9] rfl
            replace hD6 := hD6.sub (ws' := [eO cy ee (nI (phP T n 9 3 (phP T n 8 9 (tnP T n 99 (nxt T n (nxt T n (nxt T n ps))))))) (nI (te T n (phP T n 9 3 (phP T n 8 9 (tnP T n 99 (nxt T n (nxt T n (nxt T n ps)))))))) (tkn T n (phP T n 9 3 (phP T n 8 9 (tnP T n 99 (nxt T n (nxt T n (nxt T n ps))))))) va1_93, pO cy ee (nI n), ia cy (ee 2) 120 T] ++ (pS cy dd X)) [10, 11, 12, 0, 1, 2, 3, 4, 5, 6, 7, 8, 9] (by decide) rfl
            subst hr_93
            by_cases h7 : phK T n 9 3 (phP T n 8 9 (tnP T n 99 (nxt T n (nxt T n (nxt T n ps))))) = true
            · refine tp (show (if phK T n 9 3 (phP T n 8 9 (tnP T n 99 (nxt T n (nxt T n (nxt T n ps))))) = true then nI (phN T n 9 (phP T n 8 9 (tnP T n 99 (nxt T n (nxt T n (nxt T n ps)))))) else -1) = nI (phN T n 9 (phP T n 8 9 (tnP T n 99 (nxt T n (nxt T n (nxt T n ps)))))) from if_pos h7) ?_
              refine lv_istore (lv' := [(7, .int (nI (phN T n 9 (phP T n 8 9 (tnP T n 99 (nxt T n (nxt T n (nxt T n ps)))))))), (6, .int (nI (phN T n 8 (tnP T n 99 (nxt T n (nxt T n (nxt T n ps))))))), (5, .int (nI (numV T n (nxt T n (nxt T n (nxt T n ps)))))), (4, .int (otV T n (nxt T n (nxt T n ps)))), (3, .int (nI (numV T n (nxt T n ps)))), (0, .ref (ee 0)), (1, .ref (dd 0)), (2, .int x1)]) hx hb dX4_tellGap_96 hl4 (by decide) rfl (fun ls5 hl5 => ?_)
              clear hl4 ls4
              refine lv_iload hx hb dX4_tellGap_98 (lv_at hl5 0 rfl) ?_
              refine lv_if_ge (tgt := 107) hx hb dX4_tellGap_100 (by decide) (fun _ => ?_) (fun c => absurd (nI_pos' (by omega)) c)
              refine lv_aload_n hx hb dX4_tellGap_107 rfl (lv_at hl5 5 rfl) ?_
              refine va_ldcS hx hb hown (hG.2.2.2.1 10 (by decide)) dX4_tellGap_108 ?_
              refine lv_bipush (v := 99) hx hb dX4_tellGap_110 (by decide) ?_
              refine cV_i (wc := [eO cy ee (nI (phP T n 9 3 (phP T n 8 9 (tnP T n 99 (nxt T n (nxt T n (nxt T n ps))))))) (nI (te T n (phP T n 9 3 (phP T n 8 9 (tnP T n 99 (nxt T n (nxt T n (nxt T n ps)))))))) (tkn T n (phP T n 9 3 (phP T n 8 9 (tnP T n 99 (nxt T n (nxt T n (nxt T n ps))))))) va1_93, pO cy ee (nI n), ia cy (ee 2) 120 T]) (wr := pS cy dd X) (rest := []) hx hb hml hown hw hG hK hP6 hD6 hS6 hA hl5 kc_X4_takePerhaps kw_3_27 [.ref (G (10 + 10)), .int 99] (c_X4_takePerhaps l D cy G H6.size ee n T (phP T n 9 3 (phP T n 8 9 (tnP T n 99 (nxt T n (nxt T n (nxt T n ps)))))) va1_93 10 99 (by first | omega | assumption) hb6.2 hv1_93 (by decide) (by first | omega | assumption)) [0, 1, 2] [3, 4, 5, 6, 7, 8, 9, 10, 11, 12] rfl rfl rfl rfl rfl 0 rfl rfl rfl rfl rfl (Nat.le_of_ble_eq_true rfl) ⟨Nat.le_of_ble_eq_true rfl, Nat.le_of_ble_eq_true rfl⟩ dX4_tellGap_112 ⟨Nat.le_of_ble_eq_true rfl, Nat.le_of_ble_eq_true rfl⟩ (fun r_112 u9 H7 locs7 hu9 hP7 hD7 hS7 => ?_)
              clear hP6 hD6 hS6 locs6 H6
              obtain ⟨va1_112, rfl⟩ : ∃ z9, z9 = u9 := ⟨_, rfl⟩
              obtain ⟨hr_112, hv1_112⟩ := hu9
              replace hv1_112 : tkn T n (phP T n 10 99 (phP T n 9 3 (phP T n 8 9 (tnP T n 99 (nxt T n (nxt T n (nxt T n ps))))))) = 2 → va1_112 = nI (numV T n (phP T n 10 99 (phP T n 9 3 (phP T n 8 9 (tnP T n 99 (nxt T n (nxt T n (nxt T n ps)))))))) := hv1_112
              replace hP7 : va_P D vwCl (pS cy dd X ++ ([eO cy ee (nI (phP T n 10 99 (phP T n 9 3 (phP T n 8 9 (tnP T n 99 (nxt T n (nxt T n (nxt T n ps)))))))) (nI (te T n (phP T n 10 99 (phP T n 9 3 (phP T n 8 9 (tnP T n 99 (nxt T n (nxt T n (nxt T n ps))))))))) (tkn T n (phP T n 10 99 (phP T n 9 3 (phP T n 8 9 (tnP T n 99 (nxt T n (nxt T n (nxt T n ps)))))))) va1_112, pO cy ee (nI n), ia cy (ee 2) 120 T])) H7 := hP7
              replace hD7 : va_D (va_A _ sz) (pS cy dd X ++ ([eO cy ee (nI (phP T n 10 99 (phP T n 9 3 (phP T n 8 9 (tnP T n 99 (nxt T n (nxt T n (nxt T n ps)))))))) (nI (te T n (phP T n 10 99 (phP T n 9 3 (phP T n 8 9 (tnP T n 99 (nxt T n (nxt T n (nxt T n ps))))))))) (tkn T n (phP T n 10 99 (phP T n 9 3 (phP T n 8 9 (tnP T n 99 (nxt T n (nxt T n (nxt T n ps)))))))) va1_112, pO cy ee (nI n), ia cy (ee 2) 120 T])) := hD7
              replace hP7 := hP7.sub (ws' := [eO cy ee (nI (phP T n 10 99 (phP T n 9 3 (phP T n 8 9 (tnP T n 99 (nxt T n (nxt T n (nxt T n ps)))))))) (nI (te T n (phP T n 10 99 (phP T n 9 3 (phP T n 8 9 (tnP T n 99 (nxt T n (nxt T n (nxt T n ps))))))))) (tkn T n (phP T n 10 99 (phP T n 9 3 (phP T n 8 9 (tnP T n 99 (nxt T n (nxt T n (nxt T n ps)))))))) va1_112, pO cy ee (nI n), ia cy (ee 2) 120 T] ++ (pS cy dd X)) [10, 11, 12, 0, 1, 2, 3, 4, 5, 6, 7, 8, 9] rfl
              replace hD7 := hD7.sub (ws' := [eO cy ee (nI (phP T n 10 99 (phP T n 9 3 (phP T n 8 9 (tnP T n 99 (nxt T n (nxt T n (nxt T n ps)))))))) (nI (te T n (phP T n 10 99 (phP T n 9 3 (phP T n 8 9 (tnP T n 99 (nxt T n (nxt T n (nxt T n ps))))))))) (tkn T n (phP T n 10 99 (phP T n 9 3 (phP T n 8 9 (tnP T n 99 (nxt T n (nxt T n (nxt T n ps)))))))) va1_112, pO cy ee (nI n), ia cy (ee 2) 120 T] ++ (pS cy dd X)) [10, 11, 12, 0, 1, 2, 3, 4, 5, 6, 7, 8, 9] (by decide) rfl
              subst hr_112
              by_cases h8 : phK T n 10 99 (phP T n 9 3 (phP T n 8 9 (tnP T n 99 (nxt T n (nxt T n (nxt T n ps)))))) = true
              · refine tp (show (if phK T n 10 99 (phP T n 9 3 (phP T n 8 9 (tnP T n 99 (nxt T n (nxt T n (nxt T n ps)))))) = true then nI (phN T n 10 (phP T n 9 3 (phP T n 8 9 (tnP T n 99 (nxt T n (nxt T n (nxt T n ps))))))) else -1) = nI (phN T n 10 (phP T n 9 3 (phP T n 8 9 (tnP T n 99 (nxt T n (nxt T n (nxt T n ps))))))) from if_pos h8) ?_
                refine lv_istore (lv' := [(8, .int (nI (phN T n 10 (phP T n 9 3 (phP T n 8 9 (tnP T n 99 (nxt T n (nxt T n (nxt T n ps))))))))), (7, .int (nI (phN T n 9 (phP T n 8 9 (tnP T n 99 (nxt T n (nxt T n (nxt T n ps)))))))), (6, .int (nI (phN T n 8 (tnP T n 99 (nxt T n (nxt T n (nxt T n ps))))))), (5, .int (nI (numV T n (nxt T n (nxt T n (nxt T n ps)))))), (4, .int (otV T n (nxt T n (nxt T n ps)))), (3, .int (nI (numV T n (nxt T n ps)))), (0, .ref (ee 0)), (1, .ref (dd 0)), (2, .int x1)]) hx hb dX4_tellGap_115 hl5 (by decide) rfl (fun ls6 hl6 => ?_)
                clear hl5 ls5
                refine lv_iload hx hb dX4_tellGap_117 (lv_at hl6 0 rfl) ?_
                refine lv_if_ge (tgt := 124) hx hb dX4_tellGap_119 (by decide) (fun _ => ?_) (fun c => absurd (nI_pos' (by omega)) c)
                refine lv_aload_n hx hb dX4_tellGap_124 rfl (lv_at hl6 7 rfl) ?_
                refine lv_aload_n hx hb dX4_tellGap_125 rfl (lv_at hl6 7 rfl) ?_
                refine lv_iload_n hx hb dX4_tellGap_126 rfl (lv_at hl6 8 rfl) ?_
                refine lv_iload_n hx hb dX4_tellGap_127 rfl (lv_at hl6 5 rfl) ?_
                refine lv_iload hx hb dX4_tellGap_128 (lv_at hl6 4 rfl) ?_
                refine cV_i (wc := pS cy dd X) (wr := [eO cy ee (nI (phP T n 10 99 (phP T n 9 3 (phP T n 8 9 (tnP T n 99 (nxt T n (nxt T n (nxt T n ps)))))))) (nI (te T n (phP T n 10 99 (phP T n 9 3 (phP T n 8 9 (tnP T n 99 (nxt T n (nxt T n (nxt T n ps))))))))) (tkn T n (phP T n 10 99 (phP T n 9 3 (phP T n 8 9 (tnP T n 99 (nxt T n (nxt T n (nxt T n ps)))))))) va1_112, pO cy ee (nI n), ia cy (ee 2) 120 T]) (rest := [.ref (dd 0)]) hx hb hml hown hw hG hK hP7 hD7 hS7 hA hl6 kc_X1_addGap kw_3_33 [.int x1, .int (nI (numV T n (nxt T n ps))), .int (otV T n (nxt T n (nxt T n ps)))] (c_X1_addGap l D cy G H7.size dd X (gcN X) x1 (nI (numV T n (nxt T n ps))) (otV T n (nxt T n (nxt T n ps))) (wf_g wf) c_6) [3, 4, 5, 6, 7, 8, 9, 10, 11, 12] [0, 1, 2] rfl rfl rfl rfl rfl 0 rfl rfl rfl rfl rfl (Nat.le_of_ble_eq_true rfl) ⟨Nat.le_of_ble_eq_true rfl, Nat.le_of_ble_eq_true rfl⟩ dX4_tellGap_130 ⟨Nat.le_of_ble_eq_true rfl, Nat.le_of_ble_eq_true rfl⟩ (fun r_130 u9 H8 locs8 hu9 hP8 hD8 hS8 => ?_)
                clear hP7 hD7 hS7 locs7 H7
                have hr_130 := hu9
                replace hP8 : va_P D vwCl ([eO cy ee (nI (phP T n 10 99 (phP T n 9 3 (phP T n 8 9 (tnP T n 99 (nxt T n (nxt T n (nxt T n ps)))))))) (nI (te T n (phP T n 10 99 (phP T n 9 3 (phP T n 8 9 (tnP T n 99 (nxt T n (nxt T n (nxt T n ps))))))))) (tkn T n (phP T n 10 99 (phP T n 9 3 (phP T n 8 9 (tnP T n 99 (nxt T n (nxt T n (nxt T n ps)))))))) va1_112, pO cy ee (nI n), ia cy (ee 2) 120 T] ++ (pS cy dd (addG X (gcN X) x1 (nI (numV T n (nxt T n ps))) (otV T n (nxt T n (nxt T n ps)))))) H8 := hP8
                replace hD8 : va_D (va_A _ sz) ([eO cy ee (nI (phP T n 10 99 (phP T n 9 3 (phP T n 8 9 (tnP T n 99 (nxt T n (nxt T n (nxt T n ps)))))))) (nI (te T n (phP T n 10 99 (phP T n 9 3 (phP T n 8 9 (tnP T n 99 (nxt T n (nxt T n (nxt T n ps))))))))) (tkn T n (phP T n 10 99 (phP T n 9 3 (phP T n 8 9 (tnP T n 99 (nxt T n (nxt T n (nxt T n ps)))))))) va1_112, pO cy ee (nI n), ia cy (ee 2) 120 T] ++ (pS cy dd (addG X (gcN X) x1 (nI (numV T n (nxt T n ps))) (otV T n (nxt T n (nxt T n ps)))))) := hD8
                subst hr_130
                refine lv_iload hx hb dX4_tellGap_133 (lv_at hl6 3 rfl) ?_
                refine lv_iload hx hb dX4_tellGap_135 (lv_at hl6 2 rfl) ?_
                refine lv_iload hx hb dX4_tellGap_137 (lv_at hl6 1 rfl) ?_
                refine lv_iload hx hb dX4_tellGap_139 (lv_at hl6 0 rfl) ?_
                refine cV_v (wc := pS cy dd (addG X (gcN X) x1 (nI (numV T n (nxt T n ps))) (otV T n (nxt T n (nxt T n ps))))) (wr := [eO cy ee (nI (phP T n 10 99 (phP T n 9 3 (phP T n 8 9 (tnP T n 99 (nxt T n (nxt T n (nxt T n ps)))))))) (nI (te T n (phP T n 10 99 (phP T n 9 3 (phP T n 8 9 (tnP T n 99 (nxt T n (nxt T n (nxt T n ps))))))))) (tkn T n (phP T n 10 99 (phP T n 9 3 (phP T n 8 9 (tnP T n 99 (nxt T n (nxt T n (nxt T n ps)))))))) va1_112, pO cy ee (nI n), ia cy (ee 2) 120 T]) (rest := []) hx hb hml hown hw hG hK hP8 hD8 hS8 hA hl6 kc_X1_measure kw_3_34 [.int (nI (gcN X)), .int (nI (numV T n (nxt T n (nxt T n (nxt T n ps))))), .int (nI (phN T n 8 (tnP T n 99 (nxt T n (nxt T n (nxt T n ps)))))), .int (nI (phN T n 9 (phP T n 8 9 (tnP T n 99 (nxt T n (nxt T n (nxt T n ps))))))), .int (nI (phN T n 10 (phP T n 9 3 (phP T n 8 9 (tnP T n 99 (nxt T n (nxt T n (nxt T n ps))))))))] (c_X1_measure l D cy G H8.size dd (addG X (gcN X) x1 (nI (numV T n (nxt T n ps))) (otV T n (nxt T n (nxt T n ps)))) (gcN X) (nI (numV T n (nxt T n (nxt T n (nxt T n ps))))) (nI (phN T n 8 (tnP T n 99 (nxt T n (nxt T n (nxt T n ps)))))) (nI (phN T n 9 (phP T n 8 9 (tnP T n 99 (nxt T n (nxt T n (nxt T n ps))))))) (nI (phN T n 10 (phP T n 9 3 (phP T n 8 9 (tnP T n 99 (nxt T n (nxt T n (nxt T n ps)))))))) (addG_h c_6) c_6) [3, 4, 5, 6, 7, 8, 9, 10, 11, 12] [0, 1, 2] rfl rfl rfl rfl rfl 0 rfl rfl rfl rfl rfl (Nat.le_of_ble_eq_true rfl) ⟨Nat.le_of_ble_eq_true rfl, Nat.le_of_ble_eq_true rfl⟩ dX4_tellGap_141 ⟨Nat.le_of_ble_eq_true rfl, Nat.le_of_ble_eq_true rfl⟩ (fun u9 H9 locs9 hu9 hP9 hD9 hS9 => ?_)
                clear hP8 hD8 hS8 locs8 H8
                replace hP9 : va_P D vwCl ([eO cy ee (nI (phP T n 10 99 (phP T n 9 3 (phP T n 8 9 (tnP T n 99 (nxt T n (nxt T n (nxt T n ps)))))))) (nI (te T n (phP T n 10 99 (phP T n 9 3 (phP T n 8 9 (tnP T n 99 (nxt T n (nxt T n (nxt T n ps))))))))) (tkn T n (phP T n 10 99 (phP T n 9 3 (phP T n 8 9 (tnP T n 99 (nxt T n (nxt T n (nxt T n ps)))))))) va1_112, pO cy ee (nI n), ia cy (ee 2) 120 T] ++ (pS cy dd (measG (addG X (gcN X) x1 (nI (numV T n (nxt T n ps))) (otV T n (nxt T n (nxt T n ps)))) (gcN X) (nI (numV T n (nxt T n (nxt T n (nxt T n ps))))) (nI (phN T n 8 (tnP T n 99 (nxt T n (nxt T n (nxt T n ps)))))) (nI (phN T n 9 (phP T n 8 9 (tnP T n 99 (nxt T n (nxt T n (nxt T n ps))))))) (nI (phN T n 10 (phP T n 9 3 (phP T n 8 9 (tnP T n 99 (nxt T n (nxt T n (nxt T n ps))))))))))) H9 := hP9
                replace hD9 : va_D (va_A _ sz) ([eO cy ee (nI (phP T n 10 99 (phP T n 9 3 (phP T n 8 9 (tnP T n 99 (nxt T n (nxt T n (nxt T n ps)))))))) (nI (te T n (phP T n 10 99 (phP T n 9 3 (phP T n 8 9 (tnP T n 99 (nxt T n (nxt T n (nxt T n ps))))))))) (tkn T n (phP T n 10 99 (phP T n 9 3 (phP T n 8 9 (tnP T n 99 (nxt T n (nxt T n (nxt T n ps)))))))) va1_112, pO cy ee (nI n), ia cy (ee 2) 120 T] ++ (pS cy dd (measG (addG X (gcN X) x1 (nI (numV T n (nxt T n ps))) (otV T n (nxt T n (nxt T n ps)))) (gcN X) (nI (numV T n (nxt T n (nxt T n (nxt T n ps))))) (nI (phN T n 8 (tnP T n 99 (nxt T n (nxt T n (nxt T n ps)))))) (nI (phN T n 9 (phP T n 8 9 (tnP T n 99 (nxt T n (nxt T n (nxt T n ps))))))) (nI (phN T n 10 (phP T n 9 3 (phP T n 8 9 (tnP T n 99 (nxt T n (nxt T n (nxt T n ps))))))))))) := hD9
                have he3 := g3_q c_6 h2 h4
                have hg9 : g7 T n X ps = msR T n (false, (nxt T n (nxt T n (nxt T n ps)))) := by rw [g7_ms, he3]
                have hm9 : msR T n (false, (nxt T n (nxt T n (nxt T n ps)))) = (false, m7 T n (nxt T n (nxt T n (nxt T n ps)))) := (msR_7 h5 h6 h7).trans (by rw [show phK T n 10 99 (m6 T n (nxt T n (nxt T n (nxt T n ps)))) = true from h8]; rfl)
                have hem := hg9.trans hm9
                have hp9 : phP T n 10 99 (phP T n 9 3 (phP T n 8 9 (tnP T n 99 (nxt T n (nxt T n (nxt T n ps)))))) = ((g7 T n X ps).2) := (congrArg Prod.snd hem).symm
                have hq9 : ([eO cy ee (nI (phP T n 10 99 (phP T n 9 3 (phP T n 8 9 (tnP T n 99 (nxt T n (nxt T n (nxt T n ps)))))))) (nI (te T n (phP T n 10 99 (phP T n 9 3 (phP T n 8 9 (tnP T n 99 (nxt T n (nxt T n (nxt T n ps))))))))) (tkn T n (phP T n 10 99 (phP T n 9 3 (phP T n 8 9 (tnP T n 99 (nxt T n (nxt T n (nxt T n ps)))))))) va1_112, pO cy ee (nI n), ia cy (ee 2) 120 T] ++ (pS cy dd (measG (addG X (gcN X) x1 (nI (numV T n (nxt T n ps))) (otV T n (nxt T n (nxt T n ps)))) (gcN X) (nI (numV T n (nxt T n (nxt T n (nxt T n ps))))) (nI (phN T n 8 (tnP T n 99 (nxt T n (nxt T n (nxt T n ps)))))) (nI (phN T n 9 (phP T n 8 9 (tnP T n 99 (nxt T n (nxt T n (nxt T n ps))))))) (nI (phN T n 10 (phP T n 9 3 (phP T n 8 9 (tnP T n 99 (nxt T n (nxt T n (nxt T n ps))))))))))) = ([eO cy ee (nI ((g7 T n X ps).2)) (nI (te T n (phP T n 10 99 (phP T n 9 3 (phP T n 8 9 (tnP T n 99 (nxt T n (nxt T n (nxt T n ps))))))))) (tkn T n (phP T n 10 99 (phP T n 9 3 (phP T n 8 9 (tnP T n 99 (nxt T n (nxt T n (nxt T n ps)))))))) va1_112, pO cy ee (nI n), ia cy (ee 2) 120 T] ++ (pS cy dd (measG (addG X (gcN X) x1 (nI (numV T n (nxt T n ps))) (otV T n (nxt T n (nxt T n ps)))) (gcN X) (nI (numV T n (nxt T n (nxt T n (nxt T n ps))))) (nI (phN T n 8 (tnP T n 99 (nxt T n (nxt T n (nxt T n ps)))))) (nI (phN T n 9 (phP T n 8 9 (tnP T n 99 (nxt T n (nxt T n (nxt T n ps))))))) (nI (phN T n 10 (phP T n 9 3 (phP T n 8 9 (tnP T n 99 (nxt T n (nxt T n (nxt T n ps))))))))))) := congrArg (fun z9 => [eO cy ee z9 (nI (te T n (phP T n 10 99 (phP T n 9 3 (phP T n 8 9 (tnP T n 99 (nxt T n (nxt T n (nxt T n ps))))))))) (tkn T n (phP T n 10 99 (phP T n 9 3 (phP T n 8 9 (tnP T n 99 (nxt T n (nxt T n (nxt T n ps)))))))) va1_112, pO cy ee (nI n), ia cy (ee 2) 120 T] ++ (pS cy dd (measG (addG X (gcN X) x1 (nI (numV T n (nxt T n ps))) (otV T n (nxt T n (nxt T n ps)))) (gcN X) (nI (numV T n (nxt T n (nxt T n (nxt T n ps))))) (nI (phN T n 8 (tnP T n 99 (nxt T n (nxt T n (nxt T n ps)))))) (nI (phN T n 9 (phP T n 8 9 (tnP T n 99 (nxt T n (nxt T n (nxt T n ps))))))) (nI (phN T n 10 (phP T n 9 3 (phP T n 8 9 (tnP T n 99 (nxt T n (nxt T n (nxt T n ps))))))))))) (show (nI (phP T n 10 99 (phP T n 9 3 (phP T n 8 9 (tnP T n 99 (nxt T n (nxt T n (nxt T n ps)))))))) = (nI ((g7 T n X ps).2)) from congrArg (fun z9 => nI z9) hp9)
                replace hP9 := (congrArg (fun z9 => va_P D vwCl z9 _) hq9).mp hP9
                replace hD9 := (congrArg (fun z9 => va_D _ z9) hq9).mp hD9
                clear hq9
                have hq9 : ([eO cy ee (nI ((g7 T n X ps).2)) (nI (te T n (phP T n 10 99 (phP T n 9 3 (phP T n 8 9 (tnP T n 99 (nxt T n (nxt T n (nxt T n ps))))))))) (tkn T n (phP T n 10 99 (phP T n 9 3 (phP T n 8 9 (tnP T n 99 (nxt T n (nxt T n (nxt T n ps)))))))) va1_112, pO cy ee (nI n), ia cy (ee 2) 120 T] ++ (pS cy dd (measG (addG X (gcN X) x1 (nI (numV T n (nxt T n ps))) (otV T n (nxt T n (nxt T n ps)))) (gcN X) (nI (numV T n (nxt T n (nxt T n (nxt T n ps))))) (nI (phN T n 8 (tnP T n 99 (nxt T n (nxt T n (nxt T n ps)))))) (nI (phN T n 9 (phP T n 8 9 (tnP T n 99 (nxt T n (nxt T n (nxt T n ps))))))) (nI (phN T n 10 (phP T n 9 3 (phP T n 8 9 (tnP T n 99 (nxt T n (nxt T n (nxt T n ps))))))))))) = ([eO cy ee (nI ((g7 T n X ps).2)) (nI (te T n ((g7 T n X ps).2))) (tkn T n (phP T n 10 99 (phP T n 9 3 (phP T n 8 9 (tnP T n 99 (nxt T n (nxt T n (nxt T n ps)))))))) va1_112, pO cy ee (nI n), ia cy (ee 2) 120 T] ++ (pS cy dd (measG (addG X (gcN X) x1 (nI (numV T n (nxt T n ps))) (otV T n (nxt T n (nxt T n ps)))) (gcN X) (nI (numV T n (nxt T n (nxt T n (nxt T n ps))))) (nI (phN T n 8 (tnP T n 99 (nxt T n (nxt T n (nxt T n ps)))))) (nI (phN T n 9 (phP T n 8 9 (tnP T n 99 (nxt T n (nxt T n (nxt T n ps))))))) (nI (phN T n 10 (phP T n 9 3 (phP T n 8 9 (tnP T n 99 (nxt T n (nxt T n (nxt T n ps))))))))))) := congrArg (fun z9 => [eO cy ee (nI ((g7 T n X ps).2)) z9 (tkn T n (phP T n 10 99 (phP T n 9 3 (phP T n 8 9 (tnP T n 99 (nxt T n (nxt T n (nxt T n ps)))))))) va1_112, pO cy ee (nI n), ia cy (ee 2) 120 T] ++ (pS cy dd (measG (addG X (gcN X) x1 (nI (numV T n (nxt T n ps))) (otV T n (nxt T n (nxt T n ps)))) (gcN X) (nI (numV T n (nxt T n (nxt T n (nxt T n ps))))) (nI (phN T n 8 (tnP T n 99 (nxt T n (nxt T n (nxt T n ps)))))) (nI (phN T n 9 (phP T n 8 9 (tnP T n 99 (nxt T n (nxt T n (nxt T n ps))))))) (nI (phN T n 10 (phP T n 9 3 (phP T n 8 9 (tnP T n 99 (nxt T n (nxt T n (nxt T n ps))))))))))) (show (nI (te T n (phP T n 10 99 (phP T n 9 3 (phP T n 8 9 (tnP T n 99 (nxt T n (nxt T n (nxt T n ps))))))))) = (nI (te T n ((g7 T n X ps).2))) from congrArg (fun z9 => nI (te T n z9)) hp9)
                replace hP9 := (congrArg (fun z9 => va_P D vwCl z9 _) hq9).mp hP9
                replace hD9 := (congrArg (fun z9 => va_D _ z9) hq9).mp hD9
                clear hq9
                have hq9 : ([eO cy ee (nI ((g7 T n X ps).2)) (nI (te T n ((g7 T n X ps).2))) (tkn T n (phP T n 10 99 (phP T n 9 3 (phP T n 8 9 (tnP T n 99 (nxt T n (nxt T n (nxt T n ps)))))))) va1_112, pO cy ee (nI n), ia cy (ee 2) 120 T] ++ (pS cy dd (measG (addG X (gcN X) x1 (nI (numV T n (nxt T n ps))) (otV T n (nxt T n (nxt T n ps)))) (gcN X) (nI (numV T n (nxt T n (nxt T n (nxt T n ps))))) (nI (phN T n 8 (tnP T n 99 (nxt T n (nxt T n (nxt T n ps)))))) (nI (phN T n 9 (phP T n 8 9 (tnP T n 99 (nxt T n (nxt T n (nxt T n ps))))))) (nI (phN T n 10 (phP T n 9 3 (phP T n 8 9 (tnP T n 99 (nxt T n (nxt T n (nxt T n ps))))))))))) = ([eO cy ee (nI ((g7 T n X ps).2)) (nI (te T n ((g7 T n X ps).2))) (tkn T n ((g7 T n X ps).2)) va1_112, pO cy ee (nI n), ia cy (ee 2) 120 T] ++ (pS cy dd (measG (addG X (gcN X) x1 (nI (numV T n (nxt T n ps))) (otV T n (nxt T n (nxt T n ps)))) (gcN X) (nI (numV T n (nxt T n (nxt T n (nxt T n ps))))) (nI (phN T n 8 (tnP T n 99 (nxt T n (nxt T n (nxt T n ps)))))) (nI (phN T n 9 (phP T n 8 9 (tnP T n 99 (nxt T n (nxt T n (nxt T n ps))))))) (nI (phN T n 10 (phP T n 9 3 (phP T n 8 9 (tnP T n 99 (nxt T n (nxt T n (nxt T n ps))))))))))) := congrArg (fun z9 => [eO cy ee (nI ((g7 T n X ps).2)) (nI (te T n ((g7 T n X ps).2))) z9 va1_112, pO cy ee (nI n), ia cy (ee 2) 120 T] ++ (pS cy dd (measG (addG X (gcN X) x1 (nI (numV T n (nxt T n ps))) (otV T n (nxt T n (nxt T n ps)))) (gcN X) (nI (numV T n (nxt T n (nxt T n (nxt T n ps))))) (nI (phN T n 8 (tnP T n 99 (nxt T n (nxt T n (nxt T n ps)))))) (nI (phN T n 9 (phP T n 8 9 (tnP T n 99 (nxt T n (nxt T n (nxt T n ps))))))) (nI (phN T n 10 (phP T n 9 3 (phP T n 8 9 (tnP T n 99 (nxt T n (nxt T n (nxt T n ps))))))))))) (show (tkn T n (phP T n 10 99 (phP T n 9 3 (phP T n 8 9 (tnP T n 99 (nxt T n (nxt T n (nxt T n ps)))))))) = (tkn T n ((g7 T n X ps).2)) from congrArg (fun z9 => tkn T n z9) hp9)
                replace hP9 := (congrArg (fun z9 => va_P D vwCl z9 _) hq9).mp hP9
                replace hD9 := (congrArg (fun z9 => va_D _ z9) hq9).mp hD9
                clear hq9
                clear hp9
                refine lv_iconst (v := 1) hx hb dX4_tellGap_144 (by decide) ?_
                refine re_z (va1_112, measG (addG X (gcN X) x1 (nI (numV T n (nxt T n ps))) (otV T n (nxt T n (nxt T n ps)))) (gcN X) (nI (numV T n (nxt T n (nxt T n (nxt T n ps))))) (nI (phN T n 8 (tnP T n 99 (nxt T n (nxt T n (nxt T n ps)))))) (nI (phN T n 9 (phP T n 8 9 (tnP T n 99 (nxt T n (nxt T n (nxt T n ps))))))) (nI (phN T n 10 (phP T n 9 3 (phP T n 8 9 (tnP T n 99 (nxt T n (nxt T n (nxt T n ps))))))))) hx hb hr hlocks hP9 hD9 hS9 dX4_tellGap_145 rfl ?_
                exact (⟨(b2i_t (congrArg Prod.fst hem)).symm, fun z9 => by rw [show (g7 T n X ps).2 = _ from congrArg Prod.snd hem] at z9 ⊢; exact hv1_112 z9, can_msS (can_addG (wf_can wf) c_6 _ _ _) c_6, fun _ => msS_gp c_6 h2 he3 (congrArg Prod.fst hm9)⟩)
              · refine tp (show (if phK T n 10 99 (phP T n 9 3 (phP T n 8 9 (tnP T n 99 (nxt T n (nxt T n (nxt T n ps)))))) = true then nI (phN T n 10 (phP T n 9 3 (phP T n 8 9 (tnP T n 99 (nxt T n (nxt T n (nxt T n ps))))))) else -1) = -1 from if_neg h8) ?_
                refine lv_istore (lv' := [(8, .int (-1)), (7, .int (nI (phN T n 9 (phP T n 8 9 (tnP T n 99 (nxt T n (nxt T n (nxt T n ps)))))))), (6, .int (nI (phN T n 8 (tnP T n 99 (nxt T n (nxt T n (nxt T n ps))))))), (5, .int (nI (numV T n (nxt T n (nxt T n (nxt T n ps)))))), (4, .int (otV T n (nxt T n (nxt T n ps)))), (3, .int (nI (numV T n (nxt T n ps)))), (0, .ref (ee 0)), (1, .ref (dd 0)), (2, .int x1)]) hx hb dX4_tellGap_115 hl5 (by decide) rfl (fun ls6 hl6 => ?_)
                clear hl5 ls5
                refine lv_iload hx hb dX4_tellGap_117 (lv_at hl6 0 rfl) ?_
                refine lv_if_ge (tgt := 124) hx hb dX4_tellGap_119 (by decide) (fun c => absurd c (by decide)) (fun _ => ?_)
                have he3 := g3_q c_6 h2 h4
                have hg9 : g7 T n X ps = msR T n (false, (nxt T n (nxt T n (nxt T n ps)))) := by rw [g7_ms, he3]
                have hm9 : msR T n (false, (nxt T n (nxt T n (nxt T n ps)))) = (true, m7 T n (nxt T n (nxt T n (nxt T n ps)))) := (msR_7 h5 h6 h7).trans (by rw [show phK T n 10 99 (m6 T n (nxt T n (nxt T n (nxt T n ps)))) = false from Bool.eq_false_iff.mpr h8]; rfl)
                have hem := hg9.trans hm9
                have hp9 : phP T n 10 99 (phP T n 9 3 (phP T n 8 9 (tnP T n 99 (nxt T n (nxt T n (nxt T n ps)))))) = ((g7 T n X ps).2) := (congrArg Prod.snd hem).symm
                have hq9 : ([eO cy ee (nI (phP T n 10 99 (phP T n 9 3 (phP T n 8 9 (tnP T n 99 (nxt T n (nxt T n (nxt T n ps)))))))) (nI (te T n (phP T n 10 99 (phP T n 9 3 (phP T n 8 9 (tnP T n 99 (nxt T n (nxt T n (nxt T n ps))))))))) (tkn T n (phP T n 10 99 (phP T n 9 3 (phP T n 8 9 (tnP T n 99 (nxt T n (nxt T n (nxt T n ps)))))))) va1_112, pO cy ee (nI n), ia cy (ee 2) 120 T] ++ (pS cy dd X)) = ([eO cy ee (nI ((g7 T n X ps).2)) (nI (te T n (phP T n 10 99 (phP T n 9 3 (phP T n 8 9 (tnP T n 99 (nxt T n (nxt T n (nxt T n ps))))))))) (tkn T n (phP T n 10 99 (phP T n 9 3 (phP T n 8 9 (tnP T n 99 (nxt T n (nxt T n (nxt T n ps)))))))) va1_112, pO cy ee (nI n), ia cy (ee 2) 120 T] ++ (pS cy dd X)) := congrArg (fun z9 => [eO cy ee z9 (nI (te T n (phP T n 10 99 (phP T n 9 3 (phP T n 8 9 (tnP T n 99 (nxt T n (nxt T n (nxt T n ps))))))))) (tkn T n (phP T n 10 99 (phP T n 9 3 (phP T n 8 9 (tnP T n 99 (nxt T n (nxt T n (nxt T n ps)))))))) va1_112, pO cy ee (nI n), ia cy (ee 2) 120 T] ++ (pS cy dd X)) (show (nI (phP T n 10 99 (phP T n 9 3 (phP T n 8 9 (tnP T n 99 (nxt T n (nxt T n (nxt T n ps)))))))) = (nI ((g7 T n X ps).2)) from congrArg (fun z9 => nI z9) hp9)
                replace hP7 := (congrArg (fun z9 => va_P D vwCl z9 _) hq9).mp hP7
                replace hD7 := (congrArg (fun z9 => va_D _ z9) hq9).mp hD7
                clear hq9
                have hq9 : ([eO cy ee (nI ((g7 T n X ps).2)) (nI (te T n (phP T n 10 99 (phP T n 9 3 (phP T n 8 9 (tnP T n 99 (nxt T n (nxt T n (nxt T n ps))))))))) (tkn T n (phP T n 10 99 (phP T n 9 3 (phP T n 8 9 (tnP T n 99 (nxt T n (nxt T n (nxt T n ps)))))))) va1_112, pO cy ee (nI n), ia cy (ee 2) 120 T] ++ (pS cy dd X)) = ([eO cy ee (nI ((g7 T n X ps).2)) (nI (te T n ((g7 T n X ps).2))) (tkn T n (phP T n 10 99 (phP T n 9 3 (phP T n 8 9 (tnP T n 99 (nxt T n (nxt T n (nxt T n ps)))))))) va1_112, pO cy ee (nI n), ia cy (ee 2) 120 T] ++ (pS cy dd X)) := congrArg (fun z9 => [eO cy ee (nI ((g7 T n X ps).2)) z9 (tkn T n (phP T n 10 99 (phP T n 9 3 (phP T n 8 9 (tnP T n 99 (nxt T n (nxt T n (nxt T n ps)))))))) va1_112, pO cy ee (nI n), ia cy (ee 2) 120 T] ++ (pS cy dd X)) (show (nI (te T n (phP T n 10 99 (phP T n 9 3 (phP T n 8 9 (tnP T n 99 (nxt T n (nxt T n (nxt T n ps))))))))) = (nI (te T n ((g7 T n X ps).2))) from congrArg (fun z9 => nI (te T n z9)) hp9)
                replace hP7 := (congrArg (fun z9 => va_P D vwCl z9 _) hq9).mp hP7
                replace hD7 := (congrArg (fun z9 => va_D _ z9) hq9).mp hD7
                clear hq9
                have hq9 : ([eO cy ee (nI ((g7 T n X ps).2)) (nI (te T n ((g7 T n X ps).2))) (tkn T n (phP T n 10 99 (phP T n 9 3 (phP T n 8 9 (tnP T n 99 (nxt T n (nxt T n (nxt T n ps)))))))) va1_112, pO cy ee (nI n), ia cy (ee 2) 120 T] ++ (pS cy dd X)) = ([eO cy ee (nI ((g7 T n X ps).2)) (nI (te T n ((g7 T n X ps).2))) (tkn T n ((g7 T n X ps).2)) va1_112, pO cy ee (nI n), ia cy (ee 2) 120 T] ++ (pS cy dd X)) := congrArg (fun z9 => [eO cy ee (nI ((g7 T n X ps).2)) (nI (te T n ((g7 T n X ps).2))) z9 va1_112, pO cy ee (nI n), ia cy (ee 2) 120 T] ++ (pS cy dd X)) (show (tkn T n (phP T n 10 99 (phP T n 9 3 (phP T n 8 9 (tnP T n 99 (nxt T n (nxt T n (nxt T n ps)))))))) = (tkn T n ((g7 T n X ps).2)) from congrArg (fun z9 => tkn T n z9) hp9)
                replace hP7 := (congrArg (fun z9 => va_P D vwCl z9 _) hq9).mp hP7
                replace hD7 := (congrArg (fun z9 => va_D _ z9) hq9).mp hD7
                clear hq9
                clear hp9
                refine lv_iconst (v := 0) hx hb dX4_tellGap_122 (by decide) ?_
                refine re_z (va1_112, X) hx hb hr hlocks hP7 hD7 hS7 dX4_tellGap_123 rfl ?_
                exact (⟨(b2i_f (fun z9 => absurd ((congrArg Prod.fst hem).symm.trans z9) Bool.noConfusion)).symm, fun z9 => by rw [show (g7 T n X ps).2 = _ from congrArg Prod.snd hem] at z9 ⊢; exact hv1_112 z9, wf_can wf, fun z9 => absurd ((congrArg Prod.fst hem).symm.trans z9) Bool.noConfusion⟩)
            · refine tp (show (if phK T n 9 3 (phP T n 8 9 (tnP T n 99 (nxt T n (nxt T n (nxt T n ps))))) = true then nI (phN T n 9 (phP T n 8 9 (tnP T n 99 (nxt T n (nxt T n (nxt T n ps)))))) else -1) = -1 from if_neg h7) ?_
              refine lv_istore (lv' := [(7, .int (-1)), (6, .int (nI (phN T n 8 (tnP T n 99 (nxt T n (nxt T n (nxt T n ps))))))), (5, .int (nI (numV T n (nxt T n (nxt T n (nxt T n ps)))))), (4, .int (otV T n (nxt T n (nxt T n ps)))), (3, .int (nI (numV T n (nxt T n ps)))), (0, .ref (ee 0)), (1, .ref (dd 0)), (2, .int x1)]) hx hb dX4_tellGap_96 hl4 (by decide) rfl (fun ls5 hl5 => ?_)
              clear hl4 ls4
              refine lv_iload hx hb dX4_tellGap_98 (lv_at hl5 0 rfl) ?_
              refine lv_if_ge (tgt := 107) hx hb dX4_tellGap_100 (by decide) (fun c => absurd c (by decide)) (fun _ => ?_)
              refine lv_iconst (v := (-1)) hx hb dX4_tellGap_103 (by decide) ?_
              refine lv_goto (tgt := 115) hx hb dX4_tellGap_104 (by decide) ?_
              refine lv_istore (lv' := [(8, .int (-1)), (7, .int (-1)), (6, .int (nI (phN T n 8 (tnP T n 99 (nxt T n (nxt T n (nxt T n ps))))))), (5, .int (nI (numV T n (nxt T n (nxt T n (nxt T n ps)))))), (4, .int (otV T n (nxt T n (nxt T n ps)))), (3, .int (nI (numV T n (nxt T n ps)))), (0, .ref (ee 0)), (1, .ref (dd 0)), (2, .int x1)]) hx hb dX4_tellGap_115 hl5 (by decide) rfl (fun ls6 hl6 => ?_)
              clear hl5 ls5
              refine lv_iload hx hb dX4_tellGap_117 (lv_at hl6 0 rfl) ?_
              refine lv_if_ge (tgt := 124) hx hb dX4_tellGap_119 (by decide) (fun c => absurd c (by decide)) (fun _ => ?_)
              have he3 := g3_q c_6 h2 h4
              have hg9 : g7 T n X ps = msR T n (false, (nxt T n (nxt T n (nxt T n ps)))) := by rw [g7_ms, he3]
              have hem := hg9.trans (msR_6 h5 h6 h7)
              have hp9 : phP T n 9 3 (phP T n 8 9 (tnP T n 99 (nxt T n (nxt T n (nxt T n ps))))) = ((g7 T n X ps).2) := (congrArg Prod.snd hem).symm
              have hq9 : ([eO cy ee (nI (phP T n 9 3 (phP T n 8 9 (tnP T n 99 (nxt T n (nxt T n (nxt T n ps))))))) (nI (te T n (phP T n 9 3 (phP T n 8 9 (tnP T n 99 (nxt T n (nxt T n (nxt T n ps)))))))) (tkn T n (phP T n 9 3 (phP T n 8 9 (tnP T n 99 (nxt T n (nxt T n (nxt T n ps))))))) va1_93, pO cy ee (nI n), ia cy (ee 2) 120 T] ++ (pS cy dd X)) = ([eO cy ee (nI ((g7 T n X ps).2)) (nI (te T n (phP T n 9 3 (phP T n 8 9 (tnP T n 99 (nxt T n (nxt T n (nxt T n ps)))))))) (tkn T n (phP T n 9 3 (phP T n 8 9 (tnP T n 99 (nxt T n (nxt T n (nxt T n ps))))))) va1_93, pO cy ee (nI n), ia cy (ee 2) 120 T] ++ (pS cy dd X)) := congrArg (fun z9 => [eO cy ee z9 (nI (te T n (phP T n 9 3 (phP T n 8 9 (tnP T n 99 (nxt T n (nxt T n (nxt T n ps)))))))) (tkn T n (phP T n 9 3 (phP T n 8 9 (tnP T n 99 (nxt T n (nxt T n (nxt T n ps))))))) va1_93, pO cy ee (nI n), ia cy (ee 2) 120 T] ++ (pS cy dd X)) (show (nI (phP T n 9 3 (phP T n 8 9 (tnP T n 99 (nxt T n (nxt T n (nxt T n ps))))))) = (nI ((g7 T n X ps).2)) from congrArg (fun z9 => nI z9) hp9)
              replace hP6 := (congrArg (fun z9 => va_P D vwCl z9 _) hq9).mp hP6
              replace hD6 := (congrArg (fun z9 => va_D _ z9) hq9).mp hD6
              clear hq9
              have hq9 : ([eO cy ee (nI ((g7 T n X ps).2)) (nI (te T n (phP T n 9 3 (phP T n 8 9 (tnP T n 99 (nxt T n (nxt T n (nxt T n ps)))))))) (tkn T n (phP T n 9 3 (phP T n 8 9 (tnP T n 99 (nxt T n (nxt T n (nxt T n ps))))))) va1_93, pO cy ee (nI n), ia cy (ee 2) 120 T] ++ (pS cy dd X)) = ([eO cy ee (nI ((g7 T n X ps).2)) (nI (te T n ((g7 T n X ps).2))) (tkn T n (phP T n 9 3 (phP T n 8 9 (tnP T n 99 (nxt T n (nxt T n (nxt T n ps))))))) va1_93, pO cy ee (nI n), ia cy (ee 2) 120 T] ++ (pS cy dd X)) := congrArg (fun z9 => [eO cy ee (nI ((g7 T n X ps).2)) z9 (tkn T n (phP T n 9 3 (phP T n 8 9 (tnP T n 99 (nxt T n (nxt T n (nxt T n ps))))))) va1_93, pO cy ee (nI n), ia cy (ee 2) 120 T] ++ (pS cy dd X)) (show (nI (te T n (phP T n 9 3 (phP T n 8 9 (tnP T n 99 (nxt T n (nxt T n (nxt T n ps)))))))) = (nI (te T n ((g7 T n X ps).2))) from congrArg (fun z9 => nI (te T n z9)) hp9)
              replace hP6 := (congrArg (fun z9 => va_P D vwCl z9 _) hq9).mp hP6
              replace hD6 := (congrArg (fun z9 => va_D _ z9) hq9).mp hD6
              clear hq9
              have hq9 : ([eO cy ee (nI ((g7 T n X ps).2)) (nI (te T n ((g7 T n X ps).2))) (tkn T n (phP T n 9 3 (phP T n 8 9 (tnP T n 99 (nxt T n (nxt T n (nxt T n ps))))))) va1_93, pO cy ee (nI n), ia cy (ee 2) 120 T] ++ (pS cy dd X)) = ([eO cy ee (nI ((g7 T n X ps).2)) (nI (te T n ((g7 T n X ps).2))) (tkn T n ((g7 T n X ps).2)) va1_93, pO cy ee (nI n), ia cy (ee 2) 120 T] ++ (pS cy dd X)) := congrArg (fun z9 => [eO cy ee (nI ((g7 T n X ps).2)) (nI (te T n ((g7 T n X ps).2))) z9 va1_93, pO cy ee (nI n), ia cy (ee 2) 120 T] ++ (pS cy dd X)) (show (tkn T n (phP T n 9 3 (phP T n 8 9 (tnP T n 99 (nxt T n (nxt T n (nxt T n ps))))))) = (tkn T n ((g7 T n X ps).2)) from congrArg (fun z9 => tkn T n z9) hp9)
              replace hP6 := (congrArg (fun z9 => va_P D vwCl z9 _) hq9).mp hP6
              replace hD6 := (congrArg (fun z9 => va_D _ z9) hq9).mp hD6
              clear hq9
              clear hp9
              refine lv_iconst (v := 0) hx hb dX4_tellGap_122 (by decide) ?_
              refine re_z (va1_93, X) hx hb hr hlocks hP6 hD6 hS6 dX4_tellGap_123 rfl ?_
              exact (⟨(b2i_f (fun z9 => absurd ((congrArg Prod.fst hem).symm.trans z9) Bool.noConfusion)).symm, fun z9 => by rw [show (g7 T n X ps).2 = _ from congrArg Prod.snd hem] at z9 ⊢; exact hv1_93 z9, wf_can wf, fun z9 => absurd ((congrArg Prod.fst hem).symm.trans z9) Bool.noConfusion⟩)
          · refine tp (show (if phK T n 8 9 (tnP T n 99 (nxt T n (nxt T n (nxt T n ps)))) = true then nI (phN T n 8 (tnP T n 99 (nxt T n (nxt T n (nxt T n ps))))) else -1) = -1 from if_neg h6) ?_
            refine lv_istore (lv' := [(6, .int (-1)), (5, .int (nI (numV T n (nxt T n (nxt T n (nxt T n ps)))))), (4, .int (otV T n (nxt T n (nxt T n ps)))), (3, .int (nI (numV T n (nxt T n ps)))), (0, .ref (ee 0)), (1, .ref (dd 0)), (2, .int x1)]) hx hb dX4_tellGap_78 hl3 (by decide) rfl (fun ls4 hl4 => ?_)
            clear hl3 ls3
            refine lv_iload hx hb dX4_tellGap_80 (lv_at hl4 0 rfl) ?_
            refine lv_if_ge (tgt := 89) hx hb dX4_tellGap_82 (by decide) (fun c => absurd c (by decide)) (fun _ => ?_)
            refine lv_iconst (v := (-1)) hx hb dX4_tellGap_85 (by decide) ?_
            refine lv_goto (tgt := 96) hx hb dX4_tellGap_86 (by decide) ?_
            refine lv_istore (lv' := [(7, .int (-1)), (6, .int (-1)), (5, .int (nI (numV T n (nxt T n (nxt T n (nxt T n ps)))))), (4, .int (otV T n (nxt T n (nxt T n ps)))), (3, .int (nI (numV T n (nxt T n ps)))), (0, .ref (ee 0)), (1, .ref (dd 0)), (2, .int x1)]) hx hb dX4_tellGap_96 hl4 (by decide) rfl (fun ls5 hl5 => ?_)
            clear hl4 ls4
            refine lv_iload hx hb dX4_tellGap_98 (lv_at hl5 0 rfl) ?_
            refine lv_if_ge (tgt := 107) hx hb dX4_tellGap_100 (by decide) (fun c => absurd c (by decide)) (fun _ => ?_)
            refine lv_iconst (v := (-1)) hx hb dX4_tellGap_103 (by decide) ?_
            refine lv_goto (tgt := 115) hx hb dX4_tellGap_104 (by decide) ?_
            refine lv_istore (lv' := [(8, .int (-1)), (7, .int (-1)), (6, .int (-1)), (5, .int (nI (numV T n (nxt T n (nxt T n (nxt T n ps)))))), (4, .int (otV T n (nxt T n (nxt T n ps)))), (3, .int (nI (numV T n (nxt T n ps)))), (0, .ref (ee 0)), (1, .ref (dd 0)), (2, .int x1)]) hx hb dX4_tellGap_115 hl5 (by decide) rfl (fun ls6 hl6 => ?_)
            clear hl5 ls5
            refine lv_iload hx hb dX4_tellGap_117 (lv_at hl6 0 rfl) ?_
            refine lv_if_ge (tgt := 124) hx hb dX4_tellGap_119 (by decide) (fun c => absurd c (by decide)) (fun _ => ?_)
            have he3 := g3_q c_6 h2 h4
            have hg9 : g7 T n X ps = msR T n (false, (nxt T n (nxt T n (nxt T n ps)))) := by rw [g7_ms, he3]
            have hem := hg9.trans (msR_5 h5 h6)
            have hp9 : phP T n 8 9 (tnP T n 99 (nxt T n (nxt T n (nxt T n ps)))) = ((g7 T n X ps).2) := (congrArg Prod.snd hem).symm
            have hq9 : ([eO cy ee (nI (phP T n 8 9 (tnP T n 99 (nxt T n (nxt T n (nxt T n ps)))))) (nI (te T n (phP T n 8 9 (tnP T n 99 (nxt T n (nxt T n (nxt T n ps))))))) (tkn T n (phP T n 8 9 (tnP T n 99 (nxt T n (nxt T n (nxt T n ps)))))) va1_75, pO cy ee (nI n), ia cy (ee 2) 120 T] ++ (pS cy dd X)) = ([eO cy ee (nI ((g7 T n X ps).2)) (nI (te T n (phP T n 8 9 (tnP T n 99 (nxt T n (nxt T n (nxt T n ps))))))) (tkn T n (phP T n 8 9 (tnP T n 99 (nxt T n (nxt T n (nxt T n ps)))))) va1_75, pO cy ee (nI n), ia cy (ee 2) 120 T] ++ (pS cy dd X)) := congrArg (fun z9 => [eO cy ee z9 (nI (te T n (phP T n 8 9 (tnP T n 99 (nxt T n (nxt T n (nxt T n ps))))))) (tkn T n (phP T n 8 9 (tnP T n 99 (nxt T n (nxt T n (nxt T n ps)))))) va1_75, pO cy ee (nI n), ia cy (ee 2) 120 T] ++ (pS cy dd X)) (show (nI (phP T n 8 9 (tnP T n 99 (nxt T n (nxt T n (nxt T n ps)))))) = (nI ((g7 T n X ps).2)) from congrArg (fun z9 => nI z9) hp9)
            replace hP5 := (congrArg (fun z9 => va_P D vwCl z9 _) hq9).mp hP5
            replace hD5 := (congrArg (fun z9 => va_D _ z9) hq9).mp hD5
            clear hq9
            have hq9 : ([eO cy ee (nI ((g7 T n X ps).2)) (nI (te T n (phP T n 8 9 (tnP T n 99 (nxt T n (nxt T n (nxt T n ps))))))) (tkn T n (phP T n 8 9 (tnP T n 99 (nxt T n (nxt T n (nxt T n ps)))))) va1_75, pO cy ee (nI n), ia cy (ee 2) 120 T] ++ (pS cy dd X)) = ([eO cy ee (nI ((g7 T n X ps).2)) (nI (te T n ((g7 T n X ps).2))) (tkn T n (phP T n 8 9 (tnP T n 99 (nxt T n (nxt T n (nxt T n ps)))))) va1_75, pO cy ee (nI n), ia cy (ee 2) 120 T] ++ (pS cy dd X)) := congrArg (fun z9 => [eO cy ee (nI ((g7 T n X ps).2)) z9 (tkn T n (phP T n 8 9 (tnP T n 99 (nxt T n (nxt T n (nxt T n ps)))))) va1_75, pO cy ee (nI n), ia cy (ee 2) 120 T] ++ (pS cy dd X)) (show (nI (te T n (phP T n 8 9 (tnP T n 99 (nxt T n (nxt T n (nxt T n ps))))))) = (nI (te T n ((g7 T n X ps).2))) from congrArg (fun z9 => nI (te T n z9)) hp9)
            replace hP5 := (congrArg (fun z9 => va_P D vwCl z9 _) hq9).mp hP5
            replace hD5 := (congrArg (fun z9 => va_D _ z9) hq9).mp hD5
            clear hq9
            have hq9 : ([eO cy ee (nI ((g7 T n X ps).2)) (nI (te T n ((g7 T n X ps).2))) (tkn T n (phP T n 8 9 (tnP T n 99 (nxt T n (nxt T n (nxt T n ps)))))) va1_75, pO cy ee (nI n), ia cy (ee 2) 120 T] ++ (pS cy dd X)) = ([eO cy ee (nI ((g7 T n X ps).2)) (nI (te T n ((g7 T n X ps).2))) (tkn T n ((g7 T n X ps).2)) va1_75, pO cy ee (nI n), ia cy (ee 2) 120 T] ++ (pS cy dd X)) := congrArg (fun z9 => [eO cy ee (nI ((g7 T n X ps).2)) (nI (te T n ((g7 T n X ps).2))) z9 va1_75, pO cy ee (nI n), ia cy (ee 2) 120 T] ++ (pS cy dd X)) (show (tkn T n (phP T n 8 9 (tnP T n 99 (nxt T n (nxt T n (nxt T n ps)))))) = (tkn T n ((g7 T n X ps).2)) from congrArg (fun z9 => tkn T n z9) hp9)
            replace hP5 := (congrArg (fun z9 => va_P D vwCl z9 _) hq9).mp hP5
            replace hD5 := (congrArg (fun z9 => va_D _ z9) hq9).mp hD5
            clear hq9
            clear hp9
            refine lv_iconst (v := 0) hx hb dX4_tellGap_122 (by decide) ?_
            refine re_z (va1_75, X) hx hb hr hlocks hP5 hD5 hS5 dX4_tellGap_123 rfl ?_
            exact (⟨(b2i_f (fun z9 => absurd ((congrArg Prod.fst hem).symm.trans z9) Bool.noConfusion)).symm, fun z9 => by rw [show (g7 T n X ps).2 = _ from congrArg Prod.snd hem] at z9 ⊢; exact hv1_75 z9, wf_can wf, fun z9 => absurd ((congrArg Prod.fst hem).symm.trans z9) Bool.noConfusion⟩)
        · refine tp (show (if okN T n (nxt T n (nxt T n (nxt T n ps))) 99 then nI (numV T n (nxt T n (nxt T n (nxt T n ps)))) else -1) = -1 from if_neg h5) ?_
          refine lv_istore (lv' := [(5, .int (-1)), (4, .int (otV T n (nxt T n (nxt T n ps)))), (3, .int (nI (numV T n (nxt T n ps)))), (0, .ref (ee 0)), (1, .ref (dd 0)), (2, .int x1)]) hx hb dX4_tellGap_59 hl2 (by decide) rfl (fun ls3 hl3 => ?_)
          clear hl2 ls2
          refine lv_iload hx hb dX4_tellGap_61 (lv_at hl3 0 rfl) ?_
          refine lv_if_ge (tgt := 70) hx hb dX4_tellGap_63 (by decide) (fun c => absurd c (by decide)) (fun _ => ?_)
          refine lv_iconst (v := (-1)) hx hb dX4_tellGap_66 (by decide) ?_
          refine lv_goto (tgt := 78) hx hb dX4_tellGap_67 (by decide) ?_
          refine lv_istore (lv' := [(6, .int (-1)), (5, .int (-1)), (4, .int (otV T n (nxt T n (nxt T n ps)))), (3, .int (nI (numV T n (nxt T n ps)))), (0, .ref (ee 0)), (1, .ref (dd 0)), (2, .int x1)]) hx hb dX4_tellGap_78 hl3 (by decide) rfl (fun ls4 hl4 => ?_)
          clear hl3 ls3
          refine lv_iload hx hb dX4_tellGap_80 (lv_at hl4 0 rfl) ?_
          refine lv_if_ge (tgt := 89) hx hb dX4_tellGap_82 (by decide) (fun c => absurd c (by decide)) (fun _ => ?_)
          refine lv_iconst (v := (-1)) hx hb dX4_tellGap_85 (by decide) ?_
          refine lv_goto (tgt := 96) hx hb dX4_tellGap_86 (by decide) ?_
          refine lv_istore (lv' := [(7, .int (-1)), (6, .int (-1)), (5, .int (-1)), (4, .int (otV T n (nxt T n (nxt T n ps)))), (3, .int (nI (numV T n (nxt T n ps)))), (0, .ref (ee 0)), (1, .ref (dd 0)), (2, .int x1)]) hx hb dX4_tellGap_96 hl4 (by decide) rfl (fun ls5 hl5 => ?_)
          clear hl4 ls4
          refine lv_iload hx hb dX4_tellGap_98 (lv_at hl5 0 rfl) ?_
          refine lv_if_ge (tgt := 107) hx hb dX4_tellGap_100 (by decide) (fun c => absurd c (by decide)) (fun _ => ?_)
          refine lv_iconst (v := (-1)) hx hb dX4_tellGap_103 (by decide) ?_
          refine lv_goto (tgt := 115) hx hb dX4_tellGap_104 (by decide) ?_
          refine lv_istore (lv' := [(8, .int (-1)), (7, .int (-1)), (6, .int (-1)), (5, .int (-1)), (4, .int (otV T n (nxt T n (nxt T n ps)))), (3, .int (nI (numV T n (nxt T n ps)))), (0, .ref (ee 0)), (1, .ref (dd 0)), (2, .int x1)]) hx hb dX4_tellGap_115 hl5 (by decide) rfl (fun ls6 hl6 => ?_)
          clear hl5 ls5
          refine lv_iload hx hb dX4_tellGap_117 (lv_at hl6 0 rfl) ?_
          refine lv_if_ge (tgt := 124) hx hb dX4_tellGap_119 (by decide) (fun c => absurd c (by decide)) (fun _ => ?_)
          have he3 := g3_q c_6 h2 h4
          have hg9 : g7 T n X ps = msR T n (false, (nxt T n (nxt T n (nxt T n ps)))) := by rw [g7_ms, he3]
          have hem := hg9.trans (msR_4 h5)
          have hp9 : tnP T n 99 (nxt T n (nxt T n (nxt T n ps))) = ((g7 T n X ps).2) := (congrArg Prod.snd hem).symm
          have hq9 : ([eO cy ee (nI (tnP T n 99 (nxt T n (nxt T n (nxt T n ps))))) (nI (te T n (tnP T n 99 (nxt T n (nxt T n (nxt T n ps)))))) (tkn T n (tnP T n 99 (nxt T n (nxt T n (nxt T n ps))))) va1_56, pO cy ee (nI n), ia cy (ee 2) 120 T] ++ (pS cy dd X)) = ([eO cy ee (nI ((g7 T n X ps).2)) (nI (te T n (tnP T n 99 (nxt T n (nxt T n (nxt T n ps)))))) (tkn T n (tnP T n 99 (nxt T n (nxt T n (nxt T n ps))))) va1_56, pO cy ee (nI n), ia cy (ee 2) 120 T] ++ (pS cy dd X)) := congrArg (fun z9 => [eO cy ee z9 (nI (te T n (tnP T n 99 (nxt T n (nxt T n (nxt T n ps)))))) (tkn T n (tnP T n 99 (nxt T n (nxt T n (nxt T n ps))))) va1_56, pO cy ee (nI n), ia cy (ee 2) 120 T] ++ (pS cy dd X)) (show (nI (tnP T n 99 (nxt T n (nxt T n (nxt T n ps))))) = (nI ((g7 T n X ps).2)) from congrArg (fun z9 => nI z9) hp9)
          replace hP4 := (congrArg (fun z9 => va_P D vwCl z9 _) hq9).mp hP4
          replace hD4 := (congrArg (fun z9 => va_D _ z9) hq9).mp hD4
          clear hq9
          have hq9 : ([eO cy ee (nI ((g7 T n X ps).2)) (nI (te T n (tnP T n 99 (nxt T n (nxt T n (nxt T n ps)))))) (tkn T n (tnP T n 99 (nxt T n (nxt T n (nxt T n ps))))) va1_56, pO cy ee (nI n), ia cy (ee 2) 120 T] ++ (pS cy dd X)) = ([eO cy ee (nI ((g7 T n X ps).2)) (nI (te T n ((g7 T n X ps).2))) (tkn T n (tnP T n 99 (nxt T n (nxt T n (nxt T n ps))))) va1_56, pO cy ee (nI n), ia cy (ee 2) 120 T] ++ (pS cy dd X)) := congrArg (fun z9 => [eO cy ee (nI ((g7 T n X ps).2)) z9 (tkn T n (tnP T n 99 (nxt T n (nxt T n (nxt T n ps))))) va1_56, pO cy ee (nI n), ia cy (ee 2) 120 T] ++ (pS cy dd X)) (show (nI (te T n (tnP T n 99 (nxt T n (nxt T n (nxt T n ps)))))) = (nI (te T n ((g7 T n X ps).2))) from congrArg (fun z9 => nI (te T n z9)) hp9)
          replace hP4 := (congrArg (fun z9 => va_P D vwCl z9 _) hq9).mp hP4
          replace hD4 := (congrArg (fun z9 => va_D _ z9) hq9).mp hD4
          clear hq9
          have hq9 : ([eO cy ee (nI ((g7 T n X ps).2)) (nI (te T n ((g7 T n X ps).2))) (tkn T n (tnP T n 99 (nxt T n (nxt T n (nxt T n ps))))) va1_56, pO cy ee (nI n), ia cy (ee 2) 120 T] ++ (pS cy dd X)) = ([eO cy ee (nI ((g7 T n X ps).2)) (nI (te T n ((g7 T n X ps).2))) (tkn T n ((g7 T n X ps).2)) va1_56, pO cy ee (nI n), ia cy (ee 2) 120 T] ++ (pS cy dd X)) := congrArg (fun z9 => [eO cy ee (nI ((g7 T n X ps).2)) (nI (te T n ((g7 T n X ps).2))) z9 va1_56, pO cy ee (nI n), ia cy (ee 2) 120 T] ++ (pS cy dd X)) (show (tkn T n (tnP T n 99 (nxt T n (nxt T n (nxt T n ps))))) = (tkn T n ((g7 T n X ps).2)) from congrArg (fun z9 => tkn T n z9) hp9)
          replace hP4 := (congrArg (fun z9 => va_P D vwCl z9 _) hq9).mp hP4
          replace hD4 := (congrArg (fun z9 => va_D _ z9) hq9).mp hD4
          clear hq9
          clear hp9
          refine lv_iconst (v := 0) hx hb dX4_tellGap_122 (by decide) ?_
          refine re_z (va1_56, X) hx hb hr hlocks hP4 hD4 hS4 dX4_tellGap_123 rfl ?_
          exact (⟨(b2i_f (fun z9 => absurd ((congrArg Prod.fst hem).symm.trans z9) Bool.noConfusion)).symm, fun z9 => by rw [show (g7 T n X ps).2 = _ from congrArg Prod.snd hem] at z9 ⊢; exact hv1_56 z9, wf_can wf, fun z9 => absurd ((congrArg Prod.fst hem).symm.trans z9) Bool.noConfusion⟩)
      · refine tp (show (if otQ T n ((nI (rcN X)) - 1) (numV T n (nxt T n ps)) (nxt T n (nxt T n ps)) then otV T n (nxt T n (nxt T n ps)) else -2) = -2 from if_neg h4) ?_
        have hp9 : oqP T n ((nI (rcN X)) - 1) (numV T n (nxt T n ps)) (nxt T n (nxt T n ps)) = (nxt T n (nxt T n ps)) := (if_neg h4)
        have hq9 : ([eO cy ee (nI (oqP T n ((nI (rcN X)) - 1) (numV T n (nxt T n ps)) (nxt T n (nxt T n ps)))) (nI (te T n (oqP T n ((nI (rcN X)) - 1) (numV T n (nxt T n ps)) (nxt T n (nxt T n ps))))) (tkn T n (oqP T n ((nI (rcN X)) - 1) (numV T n (nxt T n ps)) (nxt T n (nxt T n ps)))) va1_40, pO cy ee (nI n), ia cy (ee 2) 120 T] ++ (pS cy dd X)) = ([eO cy ee (nI (nxt T n (nxt T n ps))) (nI (te T n (oqP T n ((nI (rcN X)) - 1) (numV T n (nxt T n ps)) (nxt T n (nxt T n ps))))) (tkn T n (oqP T n ((nI (rcN X)) - 1) (numV T n (nxt T n ps)) (nxt T n (nxt T n ps)))) va1_40, pO cy ee (nI n), ia cy (ee 2) 120 T] ++ (pS cy dd X)) := congrArg (fun z9 => [eO cy ee z9 (nI (te T n (oqP T n ((nI (rcN X)) - 1) (numV T n (nxt T n ps)) (nxt T n (nxt T n ps))))) (tkn T n (oqP T n ((nI (rcN X)) - 1) (numV T n (nxt T n ps)) (nxt T n (nxt T n ps)))) va1_40, pO cy ee (nI n), ia cy (ee 2) 120 T] ++ (pS cy dd X)) (show (nI (oqP T n ((nI (rcN X)) - 1) (numV T n (nxt T n ps)) (nxt T n (nxt T n ps)))) = (nI (nxt T n (nxt T n ps))) from congrArg (fun z9 => nI z9) hp9)
        replace hP3 := (congrArg (fun z9 => va_P D vwCl z9 _) hq9).mp hP3
        replace hD3 := (congrArg (fun z9 => va_D _ z9) hq9).mp hD3
        clear hq9
        have hq9 : ([eO cy ee (nI (nxt T n (nxt T n ps))) (nI (te T n (oqP T n ((nI (rcN X)) - 1) (numV T n (nxt T n ps)) (nxt T n (nxt T n ps))))) (tkn T n (oqP T n ((nI (rcN X)) - 1) (numV T n (nxt T n ps)) (nxt T n (nxt T n ps)))) va1_40, pO cy ee (nI n), ia cy (ee 2) 120 T] ++ (pS cy dd X)) = ([eO cy ee (nI (nxt T n (nxt T n ps))) (nI (te T n (nxt T n (nxt T n ps)))) (tkn T n (oqP T n ((nI (rcN X)) - 1) (numV T n (nxt T n ps)) (nxt T n (nxt T n ps)))) va1_40, pO cy ee (nI n), ia cy (ee 2) 120 T] ++ (pS cy dd X)) := congrArg (fun z9 => [eO cy ee (nI (nxt T n (nxt T n ps))) z9 (tkn T n (oqP T n ((nI (rcN X)) - 1) (numV T n (nxt T n ps)) (nxt T n (nxt T n ps)))) va1_40, pO cy ee (nI n), ia cy (ee 2) 120 T] ++ (pS cy dd X)) (show (nI (te T n (oqP T n ((nI (rcN X)) - 1) (numV T n (nxt T n ps)) (nxt T n (nxt T n ps))))) = (nI (te T n (nxt T n (nxt T n ps)))) from congrArg (fun z9 => nI (te T n z9)) hp9)
        replace hP3 := (congrArg (fun z9 => va_P D vwCl z9 _) hq9).mp hP3
        replace hD3 := (congrArg (fun z9 => va_D _ z9) hq9).mp hD3
        clear hq9
        have hq9 : ([eO cy ee (nI (nxt T n (nxt T n ps))) (nI (te T n (nxt T n (nxt T n ps)))) (tkn T n (oqP T n ((nI (rcN X)) - 1) (numV T n (nxt T n ps)) (nxt T n (nxt T n ps)))) va1_40, pO cy ee (nI n), ia cy (ee 2) 120 T] ++ (pS cy dd X)) = ([eO cy ee (nI (nxt T n (nxt T n ps))) (nI (te T n (nxt T n (nxt T n ps)))) (tkn T n (nxt T n (nxt T n ps))) va1_40, pO cy ee (nI n), ia cy (ee 2) 120 T] ++ (pS cy dd X)) := congrArg (fun z9 => [eO cy ee (nI (nxt T n (nxt T n ps))) (nI (te T n (nxt T n (nxt T n ps)))) z9 va1_40, pO cy ee (nI n), ia cy (ee 2) 120 T] ++ (pS cy dd X)) (show (tkn T n (oqP T n ((nI (rcN X)) - 1) (numV T n (nxt T n ps)) (nxt T n (nxt T n ps)))) = (tkn T n (nxt T n (nxt T n ps))) from congrArg (fun z9 => tkn T n z9) hp9)
        replace hP3 := (congrArg (fun z9 => va_P D vwCl z9 _) hq9).mp hP3
        replace hD3 := (congrArg (fun z9 => va_D _ z9) hq9).mp hD3
        clear hq9
        clear hp9
        replace hv1_40 : tkn T n (nxt T n (nxt T n ps)) = 2 → va1_40 = nI (numV T n (nxt T n (nxt T n ps))) := fun z9 => by rw [← show _ = (nxt T n (nxt T n ps)) from if_neg h4] at z9 ⊢; exact hv1_40 z9
        refine lv_istore (lv' := [(4, .int (-2)), (3, .int (nI (numV T n (nxt T n ps)))), (0, .ref (ee 0)), (1, .ref (dd 0)), (2, .int x1)]) hx hb dX4_tellGap_43 hl1 (by decide) rfl (fun ls2 hl2 => ?_)
        clear hl1 ls1
        refine lv_iload hx hb dX4_tellGap_45 (lv_at hl2 0 rfl) ?_
        refine lv_iconst (v := (-1)) hx hb dX4_tellGap_47 (by decide) ?_
        refine lv_icmp_ge (tgt := 53) hx hb dX4_tellGap_48 (by decide) (fun c => absurd c (by decide)) (fun _ => ?_)
        have hem := g7_q c_6 h2 h4
        have hp9 : nxt T n (nxt T n ps) = ((g7 T n X ps).2) := (congrArg Prod.snd hem).symm
        have hq9 : ([eO cy ee (nI (nxt T n (nxt T n ps))) (nI (te T n (nxt T n (nxt T n ps)))) (tkn T n (nxt T n (nxt T n ps))) va1_40, pO cy ee (nI n), ia cy (ee 2) 120 T] ++ (pS cy dd X)) = ([eO cy ee (nI ((g7 T n X ps).2)) (nI (te T n (nxt T n (nxt T n ps)))) (tkn T n (nxt T n (nxt T n ps))) va1_40, pO cy ee (nI n), ia cy (ee 2) 120 T] ++ (pS cy dd X)) := congrArg (fun z9 => [eO cy ee z9 (nI (te T n (nxt T n (nxt T n ps)))) (tkn T n (nxt T n (nxt T n ps))) va1_40, pO cy ee (nI n), ia cy (ee 2) 120 T] ++ (pS cy dd X)) (show (nI (nxt T n (nxt T n ps))) = (nI ((g7 T n X ps).2)) from congrArg (fun z9 => nI z9) hp9)
        replace hP3 := (congrArg (fun z9 => va_P D vwCl z9 _) hq9).mp hP3
        replace hD3 := (congrArg (fun z9 => va_D _ z9) hq9).mp hD3
        clear hq9
        have hq9 : ([eO cy ee (nI ((g7 T n X ps).2)) (nI (te T n (nxt T n (nxt T n ps)))) (tkn T n (nxt T n (nxt T n ps))) va1_40, pO cy ee (nI n), ia cy (ee 2) 120 T] ++ (pS cy dd X)) = ([eO cy ee (nI ((g7 T n X ps).2)) (nI (te T n ((g7 T n X ps).2))) (tkn T n (nxt T n (nxt T n ps))) va1_40, pO cy ee (nI n), ia cy (ee 2) 120 T] ++ (pS cy dd X)) := congrArg (fun z9 => [eO cy ee (nI ((g7 T n X ps).2)) z9 (tkn T n (nxt T n (nxt T n ps))) va1_40, pO cy ee (nI n), ia cy (ee 2) 120 T] ++ (pS cy dd X)) (show (nI (te T n (nxt T n (nxt T n ps)))) = (nI (te T n ((g7 T n X ps).2))) from congrArg (fun z9 => nI (te T n z9)) hp9)
        replace hP3 := (congrArg (fun z9 => va_P D vwCl z9 _) hq9).mp hP3
        replace hD3 := (congrArg (fun z9 => va_D _ z9) hq9).mp hD3
        clear hq9
        have hq9 : ([eO cy ee (nI ((g7 T n X ps).2)) (nI (te T n ((g7 T n X ps).2))) (tkn T n (nxt T n (nxt T n ps))) va1_40, pO cy ee (nI n), ia cy (ee 2) 120 T] ++ (pS cy dd X)) = ([eO cy ee (nI ((g7 T n X ps).2)) (nI (te T n ((g7 T n X ps).2))) (tkn T n ((g7 T n X ps).2)) va1_40, pO cy ee (nI n), ia cy (ee 2) 120 T] ++ (pS cy dd X)) := congrArg (fun z9 => [eO cy ee (nI ((g7 T n X ps).2)) (nI (te T n ((g7 T n X ps).2))) z9 va1_40, pO cy ee (nI n), ia cy (ee 2) 120 T] ++ (pS cy dd X)) (show (tkn T n (nxt T n (nxt T n ps))) = (tkn T n ((g7 T n X ps).2)) from congrArg (fun z9 => tkn T n z9) hp9)
        replace hP3 := (congrArg (fun z9 => va_P D vwCl z9 _) hq9).mp hP3
        replace hD3 := (congrArg (fun z9 => va_D _ z9) hq9).mp hD3
        clear hq9
        clear hp9
        refine lv_iconst (v := 0) hx hb dX4_tellGap_51 (by decide) ?_
        refine re_z (va1_40, X) hx hb hr hlocks hP3 hD3 hS3 dX4_tellGap_52 rfl ?_
        exact (⟨(b2i_f (fun z9 => absurd ((congrArg Prod.fst hem).symm.trans z9) Bool.noConfusion)).symm, fun z9 => by rw [show (g7 T n X ps).2 = _ from congrArg Prod.snd hem] at z9 ⊢; exact hv1_40 z9, wf_can wf, fun z9 => absurd ((congrArg Prod.fst hem).symm.trans z9) Bool.noConfusion⟩)
    · refine tp (show (if okN T n (nxt T n ps) ((nI (rcN X)) - 1) then nI (numV T n (nxt T n ps)) else -1) = -1 from if_neg h2) ?_
      have hp9 : tnP T n ((nI (rcN X)) - 1) (nxt T n ps) = (nxt T n ps) := (if_neg h2)
      have hq9 : ([eO cy ee (nI (tnP T n ((nI (rcN X)) - 1) (nxt T n ps))) (nI (te T n (tnP T n ((nI (rcN X)) - 1) (nxt T n ps)))) (tkn T n (tnP T n ((nI (rcN X)) - 1) (nxt T n ps))) va1_22, pO cy ee (nI n), ia cy (ee 2) 120 T] ++ (pS cy dd X)) = ([eO cy ee (nI (nxt T n ps)) (nI (te T n (tnP T n ((nI (rcN X)) - 1) (nxt T n ps)))) (tkn T n (tnP T n ((nI (rcN X)) - 1) (nxt T n ps))) va1_22, pO cy ee (nI n), ia cy (ee 2) 120 T] ++ (pS cy dd X)) := congrArg (fun z9 => [eO cy ee z9 (nI (te T n (tnP T n ((nI (rcN X)) - 1) (nxt T n ps)))) (tkn T n (tnP T n ((nI (rcN X)) - 1) (nxt T n ps))) va1_22, pO cy ee (nI n), ia cy (ee 2) 120 T] ++ (pS cy dd X)) (show (nI (tnP T n ((nI (rcN X)) - 1) (nxt T n ps))) = (nI (nxt T n ps)) from congrArg (fun z9 => nI z9) hp9)
      replace hP2 := (congrArg (fun z9 => va_P D vwCl z9 _) hq9).mp hP2
      replace hD2 := (congrArg (fun z9 => va_D _ z9) hq9).mp hD2
      clear hq9
      have hq9 : ([eO cy ee (nI (nxt T n ps)) (nI (te T n (tnP T n ((nI (rcN X)) - 1) (nxt T n ps)))) (tkn T n (tnP T n ((nI (rcN X)) - 1) (nxt T n ps))) va1_22, pO cy ee (nI n), ia cy (ee 2) 120 T] ++ (pS cy dd X)) = ([eO cy ee (nI (nxt T n ps)) (nI (te T n (nxt T n ps))) (tkn T n (tnP T n ((nI (rcN X)) - 1) (nxt T n ps))) va1_22, pO cy ee (nI n), ia cy (ee 2) 120 T] ++ (pS cy dd X)) := congrArg (fun z9 => [eO cy ee (nI (nxt T n ps)) z9 (tkn T n (tnP T n ((nI (rcN X)) - 1) (nxt T n ps))) va1_22, pO cy ee (nI n), ia cy (ee 2) 120 T] ++ (pS cy dd X)) (show (nI (te T n (tnP T n ((nI (rcN X)) - 1) (nxt T n ps)))) = (nI (te T n (nxt T n ps))) from congrArg (fun z9 => nI (te T n z9)) hp9)
      replace hP2 := (congrArg (fun z9 => va_P D vwCl z9 _) hq9).mp hP2
      replace hD2 := (congrArg (fun z9 => va_D _ z9) hq9).mp hD2
      clear hq9
      have hq9 : ([eO cy ee (nI (nxt T n ps)) (nI (te T n (nxt T n ps))) (tkn T n (tnP T n ((nI (rcN X)) - 1) (nxt T n ps))) va1_22, pO cy ee (nI n), ia cy (ee 2) 120 T] ++ (pS cy dd X)) = ([eO cy ee (nI (nxt T n ps)) (nI (te T n (nxt T n ps))) (tkn T n (nxt T n ps)) va1_22, pO cy ee (nI n), ia cy (ee 2) 120 T] ++ (pS cy dd X)) := congrArg (fun z9 => [eO cy ee (nI (nxt T n ps)) (nI (te T n (nxt T n ps))) z9 va1_22, pO cy ee (nI n), ia cy (ee 2) 120 T] ++ (pS cy dd X)) (show (tkn T n (tnP T n ((nI (rcN X)) - 1) (nxt T n ps))) = (tkn T n (nxt T n ps)) from congrArg (fun z9 => tkn T n z9) hp9)
      replace hP2 := (congrArg (fun z9 => va_P D vwCl z9 _) hq9).mp hP2
      replace hD2 := (congrArg (fun z9 => va_D _ z9) hq9).mp hD2
      clear hq9
      clear hp9
      replace hv1_22 : tkn T n (nxt T n ps) = 2 → va1_22 = nI (numV T n (nxt T n ps)) := fun z9 => by rw [← show _ = (nxt T n ps) from if_neg h2] at z9 ⊢; exact hv1_22 z9
      refine lv_istore_n (lv' := [(3, .int (-1)), (0, .ref (ee 0)), (1, .ref (dd 0)), (2, .int x1)]) hx hb dX4_tellGap_25 rfl hl0 (by decide) rfl (fun ls1 hl1 => ?_)
      clear hl0 ls0
      refine lv_iload_n hx hb dX4_tellGap_26 rfl (lv_at hl1 0 rfl) ?_
      refine lv_if_ge (tgt := 32) hx hb dX4_tellGap_27 (by decide) (fun c => absurd c (by decide)) (fun _ => ?_)
      have hem := g7_2 c_6 h2
      have hp9 : nxt T n ps = ((g7 T n X ps).2) := (congrArg Prod.snd hem).symm
      have hq9 : ([eO cy ee (nI (nxt T n ps)) (nI (te T n (nxt T n ps))) (tkn T n (nxt T n ps)) va1_22, pO cy ee (nI n), ia cy (ee 2) 120 T] ++ (pS cy dd X)) = ([eO cy ee (nI ((g7 T n X ps).2)) (nI (te T n (nxt T n ps))) (tkn T n (nxt T n ps)) va1_22, pO cy ee (nI n), ia cy (ee 2) 120 T] ++ (pS cy dd X)) := congrArg (fun z9 => [eO cy ee z9 (nI (te T n (nxt T n ps))) (tkn T n (nxt T n ps)) va1_22, pO cy ee (nI n), ia cy (ee 2) 120 T] ++ (pS cy dd X)) (show (nI (nxt T n ps)) = (nI ((g7 T n X ps).2)) from congrArg (fun z9 => nI z9) hp9)
      replace hP2 := (congrArg (fun z9 => va_P D vwCl z9 _) hq9).mp hP2
      replace hD2 := (congrArg (fun z9 => va_D _ z9) hq9).mp hD2
      clear hq9
      have hq9 : ([eO cy ee (nI ((g7 T n X ps).2)) (nI (te T n (nxt T n ps))) (tkn T n (nxt T n ps)) va1_22, pO cy ee (nI n), ia cy (ee 2) 120 T] ++ (pS cy dd X)) = ([eO cy ee (nI ((g7 T n X ps).2)) (nI (te T n ((g7 T n X ps).2))) (tkn T n (nxt T n ps)) va1_22, pO cy ee (nI n), ia cy (ee 2) 120 T] ++ (pS cy dd X)) := congrArg (fun z9 => [eO cy ee (nI ((g7 T n X ps).2)) z9 (tkn T n (nxt T n ps)) va1_22, pO cy ee (nI n), ia cy (ee 2) 120 T] ++ (pS cy dd X)) (show (nI (te T n (nxt T n ps))) = (nI (te T n ((g7 T n X ps).2))) from congrArg (fun z9 => nI (te T n z9)) hp9)
      replace hP2 := (congrArg (fun z9 => va_P D vwCl z9 _) hq9).mp hP2
      replace hD2 := (congrArg (fun z9 => va_D _ z9) hq9).mp hD2
      clear hq9
      have hq9 : ([eO cy ee (nI ((g7 T n X ps).2)) (nI (te T n ((g7 T n X ps).2))) (tkn T n (nxt T n ps)) va1_22, pO cy ee (nI n), ia cy (ee 2) 120 T] ++ (pS cy dd X)) = ([eO cy ee (nI ((g7 T n X ps).2)) (nI (te T n ((g7 T n X ps).2))) (tkn T n ((g7 T n X ps).2)) va1_22, pO cy ee (nI n), ia cy (ee 2) 120 T] ++ (pS cy dd X)) := congrArg (fun z9 => [eO cy ee (nI ((g7 T n X ps).2)) (nI (te T n ((g7 T n X ps).2))) z9 va1_22, pO cy ee (nI n), ia cy (ee 2) 120 T] ++ (pS cy dd X)) (show (tkn T n (nxt T n ps)) = (tkn T n ((g7 T n X ps).2)) from congrArg (fun z9 => tkn T n z9) hp9)
      replace hP2 := (congrArg (fun z9 => va_P D vwCl z9 _) hq9).mp hP2
      replace hD2 := (congrArg (fun z9 => va_D _ z9) hq9).mp hD2
      clear hq9
      clear hp9
      refine lv_iconst (v := 0) hx hb dX4_tellGap_30 (by decide) ?_
      refine re_z (va1_22, X) hx hb hr hlocks hP2 hD2 hS2 dX4_tellGap_31 rfl ?_
      exact (⟨(b2i_f (fun z9 => absurd ((congrArg Prod.fst hem).symm.trans z9) Bool.noConfusion)).symm, fun z9 => by rw [show (g7 T n X ps).2 = _ from congrArg Prod.snd hem] at z9 ⊢; exact hv1_22 z9, wf_can wf, fun z9 => absurd ((congrArg Prod.fst hem).symm.trans z9) Bool.noConfusion⟩)
  · have hem : g7 T n X ps = (true, ps) := g7_1 (by omega)
    have hp9 : ps = ((g7 T n X ps).2) := (congrArg Prod.snd hem).symm
    have hq9 : ([eO cy ee (nI ps) (nI (te T n ps)) (tkn T n ps) va, pO cy ee (nI n), ia cy (ee 2) 120 T] ++ (pS cy dd X)) = ([eO cy ee (nI ((g7 T n X ps).2)) (nI (te T n ps)) (tkn T n ps) va, pO cy ee (nI n), ia cy (ee 2) 120 T] ++ (pS cy dd X)) := congrArg (fun z9 => [eO cy ee z9 (nI (te T n ps)) (tkn T n ps) va, pO cy ee (nI n), ia cy (ee 2) 120 T] ++ (pS cy dd X)) (show (nI ps) = (nI ((g7 T n X ps).2)) from congrArg (fun z9 => nI z9) hp9)
    replace hP0 := (congrArg (fun z9 => va_P D vwCl z9 _) hq9).mp hP0
    replace hD0 := (congrArg (fun z9 => va_D _ z9) hq9).mp hD0
    clear hq9
    have hq9 : ([eO cy ee (nI ((g7 T n X ps).2)) (nI (te T n ps)) (tkn T n ps) va, pO cy ee (nI n), ia cy (ee 2) 120 T] ++ (pS cy dd X)) = ([eO cy ee (nI ((g7 T n X ps).2)) (nI (te T n ((g7 T n X ps).2))) (tkn T n ps) va, pO cy ee (nI n), ia cy (ee 2) 120 T] ++ (pS cy dd X)) := congrArg (fun z9 => [eO cy ee (nI ((g7 T n X ps).2)) z9 (tkn T n ps) va, pO cy ee (nI n), ia cy (ee 2) 120 T] ++ (pS cy dd X)) (show (nI (te T n ps)) = (nI (te T n ((g7 T n X ps).2))) from congrArg (fun z9 => nI (te T n z9)) hp9)
    replace hP0 := (congrArg (fun z9 => va_P D vwCl z9 _) hq9).mp hP0
    replace hD0 := (congrArg (fun z9 => va_D _ z9) hq9).mp hD0
    clear hq9
    have hq9 : ([eO cy ee (nI ((g7 T n X ps).2)) (nI (te T n ((g7 T n X ps).2))) (tkn T n ps) va, pO cy ee (nI n), ia cy (ee 2) 120 T] ++ (pS cy dd X)) = ([eO cy ee (nI ((g7 T n X ps).2)) (nI (te T n ((g7 T n X ps).2))) (tkn T n ((g7 T n X ps).2)) va, pO cy ee (nI n), ia cy (ee 2) 120 T] ++ (pS cy dd X)) := congrArg (fun z9 => [eO cy ee (nI ((g7 T n X ps).2)) (nI (te T n ((g7 T n X ps).2))) z9 va, pO cy ee (nI n), ia cy (ee 2) 120 T] ++ (pS cy dd X)) (show (tkn T n ps) = (tkn T n ((g7 T n X ps).2)) from congrArg (fun z9 => tkn T n z9) hp9)
    replace hP0 := (congrArg (fun z9 => va_P D vwCl z9 _) hq9).mp hP0
    replace hD0 := (congrArg (fun z9 => va_D _ z9) hq9).mp hD0
    clear hq9
    clear hp9
    refine lv_iconst (v := 0) hx hb dX4_tellGap_9 (by decide) ?_
    refine re_z (va, X) hx hb hr hlocks hP0 hD0 hS0 dX4_tellGap_10 rfl ?_
    exact (⟨(b2i_f (fun z9 => absurd ((congrArg Prod.fst hem).symm.trans z9) Bool.noConfusion)).symm, fun z9 => by rw [show (g7 T n X ps).2 = _ from congrArg Prod.snd hem] at z9 ⊢; exact hv z9, wf_can wf, fun z9 => absurd ((congrArg Prod.fst hem).symm.trans z9) Bool.noConfusion⟩)

theorem kc_X4_tellItem : kV yX4_tellItem cX4_tellItem 4 (some .boolean) 1 := ⟨kw_2_183, kw_s_4, kw_1_5, kw_2_184, by decide, by decide, by decide +kernel⟩
set_option maxHeartbeats 4000000 in
set_option maxRecDepth 100000 in
theorem c_X4_tellItem (l : Launch) (D : va_G) (cy : Nat → ClassId) (G : Nat → Nat) (sz : Nat) (ee : Nat → Nat) (n : Nat) (T : Nat → Int32) (ps : Nat) (va : Int32) (dd : Nat → Nat) (X : Nat → Int32) (wf : wf X) (hn : n ≤ 120) (hs : ps ≤ n) (hv : tkn T n ps = 2 → va = nI (numV T n ps)) (htp : tpOk T n) : Met l yX4_tellItem (wm yX4_tellItem cX4_tellItem 4 (some .boolean)) { frames := 8, cells := 0, slots := 0, locals := 179 } (va_Pc [.ref (ee 0), .ref (dd 0)] (pr D (TY cy) G ([eO cy ee (nI ps) (nI (te T n ps)) (tkn T n ps) va, pO cy ee (nI n), ia cy (ee 2) 120 T] ++ (pS cy dd X)) sz)) (va_Qi (fun (r : Int32) (u : Int32 × (Nat → Int32)) => (r = b2i ((itR T n X ps).1 = false)) ∧ (tkn T n (itR T n X ps).2 = 2 → u.1 = nI (numV T n (itR T n X ps).2)) ∧ (can u.2) ∧ ((itR T n X ps).1 = false → u.2 = itS T n X ps)) (fun (u : Int32 × (Nat → Int32)) t => po D (va_A ([eO cy ee (nI ps) (nI (te T n ps)) (tkn T n ps) va, pO cy ee (nI n), ia cy (ee 2) 120 T] ++ (pS cy dd X)) sz) ([eO cy ee (nI ((itR T n X ps).2)) (nI (te T n ((itR T n X ps).2))) (tkn T n ((itR T n X ps).2)) u.1, pO cy ee (nI n), ia cy (ee 2) 120 T] ++ (pS cy dd u.2)) t) (va_A ([eO cy ee (nI ps) (nI (te T n ps)) (tkn T n ps) va, pO cy ee (nI n), ia cy (ee 2) 120 T] ++ (pS cy dd X)) sz)) 0 0 (va_A ([eO cy ee (nI ps) (nI (te T n ps)) (tkn T n ps) va, pO cy ee (nI n), ia cy (ee 2) 120 T] ++ (pS cy dd X)) sz) := by
  refine mk_rw (by decide) RX4 rfl (Nat.le_of_ble_eq_true rfl) [(0, .ref (ee 0)), (1, .ref (dd 0))] rfl ?_
  intro p e s m below meth c hx hb hml hown hr hlocks hin hw hsz hA hG hK H0 locs0 hP0 hD0 hS0 ls0 hl0
  clear hin
  have hte := te_b (T := T) hs
  have hnx := nxt_b (T := T) hs
  have hnx2 := nxt_b (T := T) hnx.2
  have hnx3 := nxt_b (T := T) hnx2.2
  have hcX := wf_can wf
  refine lv_aload_n hx hb dX4_tellItem_0 rfl (lv_at hl0 0 rfl) ?_
  refine va_ldcS hx hb hown (hG.2.2.2.1 0 (by decide)) dX4_tellItem_1 ?_
  refine rV_i (wc := [eO cy ee (nI ps) (nI (te T n ps)) (tkn T n ps) va, pO cy ee (nI n), ia cy (ee 2) 120 T]) (rest := []) hx hb hml hown hw hG hK hP0 hS0 hA hl0 kc_X4_isWord kw_2_186 [.ref (G (10 + 0))] (c_X4_isWord l D cy G H0.size ee n T ps va 0 (by first | omega | assumption) (by first | omega | assumption) (by first | omega | assumption)) [0, 1, 2] rfl 0 rfl rfl rfl rfl rfl (Nat.le_of_ble_eq_true rfl) ⟨Nat.le_of_ble_eq_true rfl, Nat.le_of_ble_eq_true rfl⟩ dX4_tellItem_3 ⟨Nat.le_of_ble_eq_true rfl, Nat.le_of_ble_eq_true rfl⟩ (fun r_3 H1 locs1 hr_3 hP1 hS1 => ?_)
  have hD1 := hD0
  clear hP0 hD0 hS0 locs0 H0
  subst hr_3
  refine lb_eq (tgt := 15) hx hb dX4_tellItem_6 (by decide) (fun c_6 => ?_) (fun c_6 => ?_)
  · refine lv_aload_n hx hb dX4_tellItem_15 rfl (lv_at hl0 0 rfl) ?_
    refine rV_i (wc := [eO cy ee (nI ps) (nI (te T n ps)) (tkn T n ps) va, pO cy ee (nI n), ia cy (ee 2) 120 T]) (rest := []) hx hb hml hown hw hG hK hP1 hS1 hA hl0 kc_X4_kindTold kw_3_3 [] (c_X4_kindTold l D cy G H1.size ee n T ps va (by first | omega | assumption) (by first | omega | assumption)) [0, 1, 2] rfl 0 rfl rfl rfl rfl rfl (Nat.le_of_ble_eq_true rfl) ⟨Nat.le_of_ble_eq_true rfl, Nat.le_of_ble_eq_true rfl⟩ dX4_tellItem_16 ⟨Nat.le_of_ble_eq_true rfl, Nat.le_of_ble_eq_true rfl⟩ (fun r_16 H2 locs2 hr_16 hP2 hS2 => ?_)
    have hD2 := hD1
    clear hP1 hD1 hS1 locs1 H1
    subst hr_16
    refine lv_istore_n (lv' := [(2, .int (knd T n ps)), (0, .ref (ee 0)), (1, .ref (dd 0))]) hx hb dX4_tellItem_19 rfl hl0 (by decide) rfl (fun ls1 hl1 => ?_)
    clear hl0 ls0
    refine lv_iload_n hx hb dX4_tellItem_20 rfl (lv_at hl1 0 rfl) ?_
    refine lv_if_lt (tgt := 31) hx hb dX4_tellItem_21 (by decide) (fun c_21 => ?_) (fun c_21 => ?_)
    · refine lv_aload_n hx hb dX4_tellItem_31 rfl (lv_at hl1 1 rfl) ?_
      refine rV_i (wc := [eO cy ee (nI ps) (nI (te T n ps)) (tkn T n ps) va, pO cy ee (nI n), ia cy (ee 2) 120 T]) (rest := []) hx hb hml hown hw hG hK hP2 hS2 hA hl1 kc_X4_partTold kw_3_35 [] (c_X4_partTold l D cy G H2.size ee n T ps va (by first | omega | assumption) (by first | omega | assumption)) [0, 1, 2] rfl 0 rfl rfl rfl rfl rfl (Nat.le_of_ble_eq_true rfl) ⟨Nat.le_of_ble_eq_true rfl, Nat.le_of_ble_eq_true rfl⟩ dX4_tellItem_32 ⟨Nat.le_of_ble_eq_true rfl, Nat.le_of_ble_eq_true rfl⟩ (fun r_32 H3 locs3 hr_32 hP3 hS3 => ?_)
      have hD3 := hD2
      clear hP2 hD2 hS2 locs2 H2
      subst hr_32
      have hpc := prt_c T n ps
      refine lv_istore_n (lv' := [(3, .int (prt T n ps)), (2, .int (knd T n ps)), (0, .ref (ee 0)), (1, .ref (dd 0))]) hx hb dX4_tellItem_35 rfl hl1 (by decide) rfl (fun ls2 hl2 => ?_)
      clear hl1 ls1
      refine lv_iload_n hx hb dX4_tellItem_36 rfl (lv_at hl2 0 rfl) ?_
      refine lv_if_lt (tgt := 53) hx hb dX4_tellItem_37 (by decide) (fun c_37 => ?_) (fun c_37 => ?_)
      · have hem : itR T n X ps = (true, ps) := it_none c_6 c_21 c_37
        have hp9 : ps = ((itR T n X ps).2) := (congrArg Prod.snd hem).symm
        have hq9 : ([eO cy ee (nI ps) (nI (te T n ps)) (tkn T n ps) va, pO cy ee (nI n), ia cy (ee 2) 120 T] ++ (pS cy dd X)) = ([eO cy ee (nI ((itR T n X ps).2)) (nI (te T n ps)) (tkn T n ps) va, pO cy ee (nI n), ia cy (ee 2) 120 T] ++ (pS cy dd X)) := congrArg (fun z9 => [eO cy ee z9 (nI (te T n ps)) (tkn T n ps) va, pO cy ee (nI n), ia cy (ee 2) 120 T] ++ (pS cy dd X)) (show (nI ps) = (nI ((itR T n X ps).2)) from congrArg (fun z9 => nI z9) hp9)
        replace hP3 := (congrArg (fun z9 => va_P D vwCl z9 _) hq9).mp hP3
        replace hD3 := (congrArg (fun z9 => va_D _ z9) hq9).mp hD3
        clear hq9
        have hq9 : ([eO cy ee (nI ((itR T n X ps).2)) (nI (te T n ps)) (tkn T n ps) va, pO cy ee (nI n), ia cy (ee 2) 120 T] ++ (pS cy dd X)) = ([eO cy ee (nI ((itR T n X ps).2)) (nI (te T n ((itR T n X ps).2))) (tkn T n ps) va, pO cy ee (nI n), ia cy (ee 2) 120 T] ++ (pS cy dd X)) := congrArg (fun z9 => [eO cy ee (nI ((itR T n X ps).2)) z9 (tkn T n ps) va, pO cy ee (nI n), ia cy (ee 2) 120 T] ++ (pS cy dd X)) (show (nI (te T n ps)) = (nI (te T n ((itR T n X ps).2))) from congrArg (fun z9 => nI (te T n z9)) hp9)
        replace hP3 := (congrArg (fun z9 => va_P D vwCl z9 _) hq9).mp hP3
        replace hD3 := (congrArg (fun z9 => va_D _ z9) hq9).mp hD3
        clear hq9
        have hq9 : ([eO cy ee (nI ((itR T n X ps).2)) (nI (te T n ((itR T n X ps).2))) (tkn T n ps) va, pO cy ee (nI n), ia cy (ee 2) 120 T] ++ (pS cy dd X)) = ([eO cy ee (nI ((itR T n X ps).2)) (nI (te T n ((itR T n X ps).2))) (tkn T n ((itR T n X ps).2)) va, pO cy ee (nI n), ia cy (ee 2) 120 T] ++ (pS cy dd X)) := congrArg (fun z9 => [eO cy ee (nI ((itR T n X ps).2)) (nI (te T n ((itR T n X ps).2))) z9 va, pO cy ee (nI n), ia cy (ee 2) 120 T] ++ (pS cy dd X)) (show (tkn T n ps) = (tkn T n ((itR T n X ps).2)) from congrArg (fun z9 => tkn T n z9) hp9)
        replace hP3 := (congrArg (fun z9 => va_P D vwCl z9 _) hq9).mp hP3
        replace hD3 := (congrArg (fun z9 => va_D _ z9) hq9).mp hD3
        clear hq9
        clear hp9
        refine lv_iconst (v := 0) hx hb dX4_tellItem_53 (by decide) ?_
        refine re_z (va, X) hx hb hr hlocks hP3 hD3 hS3 dX4_tellItem_54 rfl ?_
        exact (⟨(b2i_f (fun z9 => absurd ((congrArg Prod.fst hem).symm.trans z9) Bool.noConfusion)).symm, fun z9 => by rw [show (itR T n X ps).2 = _ from congrArg Prod.snd hem] at z9 ⊢; exact hv z9, hcX, fun z9 => absurd ((congrArg Prod.fst hem).symm.trans z9) Bool.noConfusion⟩)
      · obtain ⟨p9, hp9c, hp9e⟩ : ∃ p, (p = 0 ∨ p = 1 ∨ p = 4) ∧ prt T n ps = nI p := hpc.elim (fun z9 => absurd (by rw [z9]; decide) c_37) id
        have hq9 : nI p9 = prt T n ps := hp9e.symm
        replace hl2 : lv_has ls2 4 [(3, .int (nI p9)), (2, .int (knd T n ps)), (0, .ref (ee 0)), (1, .ref (dd 0))] := (congrArg (fun z9 => lv_has ls2 4 [(3, .int z9), (2, .int (knd T n ps)), (0, .ref (ee 0)), (1, .ref (dd 0))]) hq9).mpr hl2
        clear hq9
        refine lv_aload_n hx hb dX4_tellItem_40 rfl (lv_at hl2 2 rfl) ?_
        refine lv_aload_n hx hb dX4_tellItem_41 rfl (lv_at hl2 3 rfl) ?_
        refine lv_iload_n hx hb dX4_tellItem_42 rfl (lv_at hl2 0 rfl) ?_
        refine cV_i (wc := [eO cy ee (nI ps) (nI (te T n ps)) (tkn T n ps) va, pO cy ee (nI n), ia cy (ee 2) 120 T] ++ (pS cy dd X)) (wr := []) (rest := []) hx hb hml hown hw hG hK hP3 hD3 hS3 hA hl2 kc_X4_tellNight kw_3_42 [.ref (dd 0), .int (nI p9)] (c_X4_tellNight l D cy G H3.size ee n T ps va dd X p9 (by first | omega | assumption) (by first | omega | assumption) (by first | omega | assumption) (by first | omega | assumption) (by omega) (by first | omega | assumption)) [0, 1, 2, 3, 4, 5, 6, 7, 8, 9, 10, 11, 12] [] rfl rfl rfl rfl rfl 0 rfl rfl rfl rfl rfl (Nat.le_of_ble_eq_true rfl) ⟨Nat.le_of_ble_eq_true rfl, Nat.le_of_ble_eq_true rfl⟩ dX4_tellItem_43 ⟨Nat.le_of_ble_eq_true rfl, Nat.le_of_ble_eq_true rfl⟩ (fun r_43 u9 H4 locs4 hu9 hP4 hD4 hS4 => ?_)
        clear hP3 hD3 hS3 locs3 H3
        obtain ⟨va1_43, rfl⟩ : ∃ z9, z9 = u9 := ⟨_, rfl⟩
        obtain ⟨hr_43, hv1_43⟩ := hu9
        replace hv1_43 : tkn T n (tnP T n (tbM p9) (nxt T n ps)) = 2 → va1_43 = nI (numV T n (tnP T n (tbM p9) (nxt T n ps))) := hv1_43
        replace hP4 : va_P D vwCl ([eO cy ee (nI (tnP T n (tbM p9) (nxt T n ps))) (nI (te T n (tnP T n (tbM p9) (nxt T n ps)))) (tkn T n (tnP T n (tbM p9) (nxt T n ps))) va1_43, pO cy ee (nI n), ia cy (ee 2) 120 T] ++ (pS cy dd (ntS T n X p9 ps))) H4 := hP4
        replace hD4 : va_D (va_A _ sz) ([eO cy ee (nI (tnP T n (tbM p9) (nxt T n ps))) (nI (te T n (tnP T n (tbM p9) (nxt T n ps)))) (tkn T n (tnP T n (tbM p9) (nxt T n ps))) va1_43, pO cy ee (nI n), ia cy (ee 2) 120 T] ++ (pS cy dd (ntS T n X p9 ps))) := hD4
        subst hr_43
        refine lb_eq (tgt := 53) hx hb dX4_tellItem_46 (by decide) (fun c_46 => ?_) (fun c_46 => ?_)
        · have hem := (it_night (X := X) c_6 c_21 hp9c hp9e).1
          have hp9 : tnP T n (tbM p9) (nxt T n ps) = ((itR T n X ps).2) := (congrArg Prod.snd hem).symm
          have hq9 : ([eO cy ee (nI (tnP T n (tbM p9) (nxt T n ps))) (nI (te T n (tnP T n (tbM p9) (nxt T n ps)))) (tkn T n (tnP T n (tbM p9) (nxt T n ps))) va1_43, pO cy ee (nI n), ia cy (ee 2) 120 T] ++ (pS cy dd (ntS T n X p9 ps))) = ([eO cy ee (nI ((itR T n X ps).2)) (nI (te T n (tnP T n (tbM p9) (nxt T n ps)))) (tkn T n (tnP T n (tbM p9) (nxt T n ps))) va1_43, pO cy ee (nI n), ia cy (ee 2) 120 T] ++ (pS cy dd (ntS T n X p9 ps))) := congrArg (fun z9 => [eO cy ee z9 (nI (te T n (tnP T n (tbM p9) (nxt T n ps)))) (tkn T n (tnP T n (tbM p9) (nxt T n ps))) va1_43, pO cy ee (nI n), ia cy (ee 2) 120 T] ++ (pS cy dd (ntS T n X p9 ps))) (show (nI (tnP T n (tbM p9) (nxt T n ps))) = (nI ((itR T n X ps).2)) from congrArg (fun z9 => nI z9) hp9)
          replace hP4 := (congrArg (fun z9 => va_P D vwCl z9 _) hq9).mp hP4
          replace hD4 := (congrArg (fun z9 => va_D _ z9) hq9).mp hD4
          clear hq9
          have hq9 : ([eO cy ee (nI ((itR T n X ps).2)) (nI (te T n (tnP T n (tbM p9) (nxt T n ps)))) (tkn T n (tnP T n (tbM p9) (nxt T n ps))) va1_43, pO cy ee (nI n), ia cy (ee 2) 120 T] ++ (pS cy dd (ntS T n X p9 ps))) = ([eO cy ee (nI ((itR T n X ps).2)) (nI (te T n ((itR T n X ps).2))) (tkn T n (tnP T n (tbM p9) (nxt T n ps))) va1_43, pO cy ee (nI n), ia cy (ee 2) 120 T] ++ (pS cy dd (ntS T n X p9 ps))) := congrArg (fun z9 => [eO cy ee (nI ((itR T n X ps).2)) z9 (tkn T n (tnP T n (tbM p9) (nxt T n ps))) va1_43, pO cy ee (nI n), ia cy (ee 2) 120 T] ++ (pS cy dd (ntS T n X p9 ps))) (show (nI (te T n (tnP T n (tbM p9) (nxt T n ps)))) = (nI (te T n ((itR T n X ps).2))) from congrArg (fun z9 => nI (te T n z9)) hp9)
          replace hP4 := (congrArg (fun z9 => va_P D vwCl z9 _) hq9).mp hP4
          replace hD4 := (congrArg (fun z9 => va_D _ z9) hq9).mp hD4
          clear hq9
          have hq9 : ([eO cy ee (nI ((itR T n X ps).2)) (nI (te T n ((itR T n X ps).2))) (tkn T n (tnP T n (tbM p9) (nxt T n ps))) va1_43, pO cy ee (nI n), ia cy (ee 2) 120 T] ++ (pS cy dd (ntS T n X p9 ps))) = ([eO cy ee (nI ((itR T n X ps).2)) (nI (te T n ((itR T n X ps).2))) (tkn T n ((itR T n X ps).2)) va1_43, pO cy ee (nI n), ia cy (ee 2) 120 T] ++ (pS cy dd (ntS T n X p9 ps))) := congrArg (fun z9 => [eO cy ee (nI ((itR T n X ps).2)) (nI (te T n ((itR T n X ps).2))) z9 va1_43, pO cy ee (nI n), ia cy (ee 2) 120 T] ++ (pS cy dd (ntS T n X p9 ps))) (show (tkn T n (tnP T n (tbM p9) (nxt T n ps))) = (tkn T n ((itR T n X ps).2)) from congrArg (fun z9 => tkn T n z9) hp9)
          replace hP4 := (congrArg (fun z9 => va_P D vwCl z9 _) hq9).mp hP4
          replace hD4 := (congrArg (fun z9 => va_D _ z9) hq9).mp hD4
          clear hq9
          clear hp9
          refine lv_iconst (v := 0) hx hb dX4_tellItem_53 (by decide) ?_
          refine re_z (va1_43, ntS T n X p9 ps) hx hb hr hlocks hP4 hD4 hS4 dX4_tellItem_54 rfl ?_
          exact (⟨(b2i_f (fun z9 => c_46 ((itR_night1 c_6 c_21 hp9c hp9e).mpr z9))).symm, fun z9 => by rw [show (itR T n X ps).2 = _ from congrArg Prod.snd hem] at z9 ⊢; exact hv1_43 z9, can_ntS hcX (by omega), fun z9 => ntS_ok c_6 c_21 hp9c hp9e z9⟩)
        · have hem := (it_night (X := X) c_6 c_21 hp9c hp9e).1
          have hp9 : tnP T n (tbM p9) (nxt T n ps) = ((itR T n X ps).2) := (congrArg Prod.snd hem).symm
          have hq9 : ([eO cy ee (nI (tnP T n (tbM p9) (nxt T n ps))) (nI (te T n (tnP T n (tbM p9) (nxt T n ps)))) (tkn T n (tnP T n (tbM p9) (nxt T n ps))) va1_43, pO cy ee (nI n), ia cy (ee 2) 120 T] ++ (pS cy dd (ntS T n X p9 ps))) = ([eO cy ee (nI ((itR T n X ps).2)) (nI (te T n (tnP T n (tbM p9) (nxt T n ps)))) (tkn T n (tnP T n (tbM p9) (nxt T n ps))) va1_43, pO cy ee (nI n), ia cy (ee 2) 120 T] ++ (pS cy dd (ntS T n X p9 ps))) := congrArg (fun z9 => [eO cy ee z9 (nI (te T n (tnP T n (tbM p9) (nxt T n ps)))) (tkn T n (tnP T n (tbM p9) (nxt T n ps))) va1_43, pO cy ee (nI n), ia cy (ee 2) 120 T] ++ (pS cy dd (ntS T n X p9 ps))) (show (nI (tnP T n (tbM p9) (nxt T n ps))) = (nI ((itR T n X ps).2)) from congrArg (fun z9 => nI z9) hp9)
          replace hP4 := (congrArg (fun z9 => va_P D vwCl z9 _) hq9).mp hP4
          replace hD4 := (congrArg (fun z9 => va_D _ z9) hq9).mp hD4
          clear hq9
          have hq9 : ([eO cy ee (nI ((itR T n X ps).2)) (nI (te T n (tnP T n (tbM p9) (nxt T n ps)))) (tkn T n (tnP T n (tbM p9) (nxt T n ps))) va1_43, pO cy ee (nI n), ia cy (ee 2) 120 T] ++ (pS cy dd (ntS T n X p9 ps))) = ([eO cy ee (nI ((itR T n X ps).2)) (nI (te T n ((itR T n X ps).2))) (tkn T n (tnP T n (tbM p9) (nxt T n ps))) va1_43, pO cy ee (nI n), ia cy (ee 2) 120 T] ++ (pS cy dd (ntS T n X p9 ps))) := congrArg (fun z9 => [eO cy ee (nI ((itR T n X ps).2)) z9 (tkn T n (tnP T n (tbM p9) (nxt T n ps))) va1_43, pO cy ee (nI n), ia cy (ee 2) 120 T] ++ (pS cy dd (ntS T n X p9 ps))) (show (nI (te T n (tnP T n (tbM p9) (nxt T n ps)))) = (nI (te T n ((itR T n X ps).2))) from congrArg (fun z9 => nI (te T n z9)) hp9)
          replace hP4 := (congrArg (fun z9 => va_P D vwCl z9 _) hq9).mp hP4
          replace hD4 := (congrArg (fun z9 => va_D _ z9) hq9).mp hD4
          clear hq9
          have hq9 : ([eO cy ee (nI ((itR T n X ps).2)) (nI (te T n ((itR T n X ps).2))) (tkn T n (tnP T n (tbM p9) (nxt T n ps))) va1_43, pO cy ee (nI n), ia cy (ee 2) 120 T] ++ (pS cy dd (ntS T n X p9 ps))) = ([eO cy ee (nI ((itR T n X ps).2)) (nI (te T n ((itR T n X ps).2))) (tkn T n ((itR T n X ps).2)) va1_43, pO cy ee (nI n), ia cy (ee 2) 120 T] ++ (pS cy dd (ntS T n X p9 ps))) := congrArg (fun z9 => [eO cy ee (nI ((itR T n X ps).2)) (nI (te T n ((itR T n X ps).2))) z9 va1_43, pO cy ee (nI n), ia cy (ee 2) 120 T] ++ (pS cy dd (ntS T n X p9 ps))) (show (tkn T n (tnP T n (tbM p9) (nxt T n ps))) = (tkn T n ((itR T n X ps).2)) from congrArg (fun z9 => tkn T n z9) hp9)
          replace hP4 := (congrArg (fun z9 => va_P D vwCl z9 _) hq9).mp hP4
          replace hD4 := (congrArg (fun z9 => va_D _ z9) hq9).mp hD4
          clear hq9
          clear hp9
          refine lv_iconst (v := 1) hx hb dX4_tellItem_49 (by decide) ?_
          refine lv_goto (tgt := 54) hx hb dX4_tellItem_50 (by decide) ?_
          refine re_z (va1_43, ntS T n X p9 ps) hx hb hr hlocks hP4 hD4 hS4 dX4_tellItem_54 rfl ?_
          exact (⟨(b2i_t ((itR_night1 c_6 c_21 hp9c hp9e).mp c_46)).symm, fun z9 => by rw [show (itR T n X ps).2 = _ from congrArg Prod.snd hem] at z9 ⊢; exact hv1_43 z9, can_ntS hcX (by omega), fun z9 => ntS_ok c_6 c_21 hp9c hp9e z9⟩)
    · refine lv_aload_n hx hb dX4_tellItem_24 rfl (lv_at hl1 1 rfl) ?_
      refine lv_aload_n hx hb dX4_tellItem_25 rfl (lv_at hl1 2 rfl) ?_
      refine lv_iload_n hx hb dX4_tellItem_26 rfl (lv_at hl1 0 rfl) ?_
      refine cV_i (wc := [eO cy ee (nI ps) (nI (te T n ps)) (tkn T n ps) va, pO cy ee (nI n), ia cy (ee 2) 120 T] ++ (pS cy dd X)) (wr := []) (rest := []) hx hb hml hown hw hG hK hP2 hD2 hS2 hA hl1 kc_X4_tellGap kw_3_13 [.ref (dd 0), .int (knd T n ps)] (c_X4_tellGap l D cy G H2.size ee n T ps va dd X (knd T n ps) (by first | omega | assumption) (by first | omega | assumption) (by first | omega | assumption) (by first | omega | assumption) (by first | omega | assumption)) [0, 1, 2, 3, 4, 5, 6, 7, 8, 9, 10, 11, 12] [] rfl rfl rfl rfl rfl 0 rfl rfl rfl rfl rfl (Nat.le_of_ble_eq_true rfl) ⟨Nat.le_of_ble_eq_true rfl, Nat.le_of_ble_eq_true rfl⟩ dX4_tellItem_27 ⟨Nat.le_of_ble_eq_true rfl, Nat.le_of_ble_eq_true rfl⟩ (fun r_27 u9 H3 locs3 hu9 hP3 hD3 hS3 => ?_)
      clear hP2 hD2 hS2 locs2 H2
      obtain ⟨va1_27, X1_27⟩ := u9
      obtain ⟨hr_27, hv1_27, hX1_27, hXo_27⟩ := hu9
      replace hv1_27 : tkn T n (g7 T n X ps).2 = 2 → va1_27 = nI (numV T n (g7 T n X ps).2) := hv1_27
      replace hX1_27 : can X1_27 := hX1_27
      replace hXo_27 : (g7 T n X ps).1 = false → X1_27 = gpS T n X (knd T n ps) ps := hXo_27
      replace hP3 : va_P D vwCl ([eO cy ee (nI ((g7 T n X ps).2)) (nI (te T n ((g7 T n X ps).2))) (tkn T n ((g7 T n X ps).2)) va1_27, pO cy ee (nI n), ia cy (ee 2) 120 T] ++ (pS cy dd X1_27)) H3 := hP3
      replace hD3 : va_D (va_A _ sz) ([eO cy ee (nI ((g7 T n X ps).2)) (nI (te T n ((g7 T n X ps).2))) (tkn T n ((g7 T n X ps).2)) va1_27, pO cy ee (nI n), ia cy (ee 2) 120 T] ++ (pS cy dd X1_27)) := hD3
      subst hr_27
      have hem := it_gap (X := X) c_21
      have hp9 : (g7 T n X ps).2 = ((itR T n X ps).2) := (congrArg Prod.snd hem.1).symm
      have hq9 : ([eO cy ee (nI ((g7 T n X ps).2)) (nI (te T n ((g7 T n X ps).2))) (tkn T n ((g7 T n X ps).2)) va1_27, pO cy ee (nI n), ia cy (ee 2) 120 T] ++ (pS cy dd X1_27)) = ([eO cy ee (nI ((itR T n X ps).2)) (nI (te T n ((g7 T n X ps).2))) (tkn T n ((g7 T n X ps).2)) va1_27, pO cy ee (nI n), ia cy (ee 2) 120 T] ++ (pS cy dd X1_27)) := congrArg (fun z9 => [eO cy ee z9 (nI (te T n ((g7 T n X ps).2))) (tkn T n ((g7 T n X ps).2)) va1_27, pO cy ee (nI n), ia cy (ee 2) 120 T] ++ (pS cy dd X1_27)) (show (nI ((g7 T n X ps).2)) = (nI ((itR T n X ps).2)) from congrArg (fun z9 => nI z9) hp9)
      replace hP3 := (congrArg (fun z9 => va_P D vwCl z9 _) hq9).mp hP3
      replace hD3 := (congrArg (fun z9 => va_D _ z9) hq9).mp hD3
      clear hq9
      have hq9 : ([eO cy ee (nI ((itR T n X ps).2)) (nI (te T n ((g7 T n X ps).2))) (tkn T n ((g7 T n X ps).2)) va1_27, pO cy ee (nI n), ia cy (ee 2) 120 T] ++ (pS cy dd X1_27)) = ([eO cy ee (nI ((itR T n X ps).2)) (nI (te T n ((itR T n X ps).2))) (tkn T n ((g7 T n X ps).2)) va1_27, pO cy ee (nI n), ia cy (ee 2) 120 T] ++ (pS cy dd X1_27)) := congrArg (fun z9 => [eO cy ee (nI ((itR T n X ps).2)) z9 (tkn T n ((g7 T n X ps).2)) va1_27, pO cy ee (nI n), ia cy (ee 2) 120 T] ++ (pS cy dd X1_27)) (show (nI (te T n ((g7 T n X ps).2))) = (nI (te T n ((itR T n X ps).2))) from congrArg (fun z9 => nI (te T n z9)) hp9)
      replace hP3 := (congrArg (fun z9 => va_P D vwCl z9 _) hq9).mp hP3
      replace hD3 := (congrArg (fun z9 => va_D _ z9) hq9).mp hD3
      clear hq9
      have hq9 : ([eO cy ee (nI ((itR T n X ps).2)) (nI (te T n ((itR T n X ps).2))) (tkn T n ((g7 T n X ps).2)) va1_27, pO cy ee (nI n), ia cy (ee 2) 120 T] ++ (pS cy dd X1_27)) = ([eO cy ee (nI ((itR T n X ps).2)) (nI (te T n ((itR T n X ps).2))) (tkn T n ((itR T n X ps).2)) va1_27, pO cy ee (nI n), ia cy (ee 2) 120 T] ++ (pS cy dd X1_27)) := congrArg (fun z9 => [eO cy ee (nI ((itR T n X ps).2)) (nI (te T n ((itR T n X ps).2))) z9 va1_27, pO cy ee (nI n), ia cy (ee 2) 120 T] ++ (pS cy dd X1_27)) (show (tkn T n ((g7 T n X ps).2)) = (tkn T n ((itR T n X ps).2)) from congrArg (fun z9 => tkn T n z9) hp9)
      replace hP3 := (congrArg (fun z9 => va_P D vwCl z9 _) hq9).mp hP3
      replace hD3 := (congrArg (fun z9 => va_D _ z9) hq9).mp hD3
      clear hq9
      clear hp9
      refine re_z (va1_27, X1_27) hx hb hr hlocks hP3 hD3 hS3 dX4_tellItem_30 (b2i_z _) ?_
      exact (⟨b2i_iff (by rw [hem.1]), fun z9 => by rw [hem.1] at z9 ⊢; exact hv1_27 z9, hX1_27, fun z9 => by rw [hem.2]; rw [hem.1] at z9; exact hXo_27 z9⟩)
  · refine lv_aload_n hx hb dX4_tellItem_9 rfl (lv_at hl0 0 rfl) ?_
    refine lv_aload_n hx hb dX4_tellItem_10 rfl (lv_at hl0 1 rfl) ?_
    refine cV_i (wc := [eO cy ee (nI ps) (nI (te T n ps)) (tkn T n ps) va, pO cy ee (nI n), ia cy (ee 2) 120 T] ++ (pS cy dd X)) (wr := []) (rest := []) hx hb hml hown hw hG hK hP1 hD1 hS1 hA hl0 kc_X4_tellRoom kw_2_238 [.ref (dd 0)] (c_X4_tellRoom l D cy G H1.size ee n T ps va dd X (by first | omega | assumption) (by first | omega | assumption) (by first | omega | assumption) (by first | omega | assumption) (by first | omega | assumption)) [0, 1, 2, 3, 4, 5, 6, 7, 8, 9, 10, 11, 12] [] rfl rfl rfl rfl rfl 0 rfl rfl rfl rfl rfl (Nat.le_of_ble_eq_true rfl) ⟨Nat.le_of_ble_eq_true rfl, Nat.le_of_ble_eq_true rfl⟩ dX4_tellItem_11 ⟨Nat.le_of_ble_eq_true rfl, Nat.le_of_ble_eq_true rfl⟩ (fun r_11 u9 H2 locs2 hu9 hP2 hD2 hS2 => ?_)
    clear hP1 hD1 hS1 locs1 H1
    obtain ⟨va1_11, rfl⟩ : ∃ z9, z9 = u9 := ⟨_, rfl⟩
    obtain ⟨hr_11, hv1_11⟩ := hu9
    replace hv1_11 : tkn T n (rmP T n X ps) = 2 → va1_11 = nI (numV T n (rmP T n X ps)) := hv1_11
    replace hP2 : va_P D vwCl ([eO cy ee (nI (rmP T n X ps)) (nI (te T n (rmP T n X ps))) (tkn T n (rmP T n X ps)) va1_11, pO cy ee (nI n), ia cy (ee 2) 120 T] ++ (pS cy dd (rmS X))) H2 := hP2
    replace hD2 : va_D (va_A _ sz) ([eO cy ee (nI (rmP T n X ps)) (nI (te T n (rmP T n X ps))) (tkn T n (rmP T n X ps)) va1_11, pO cy ee (nI n), ia cy (ee 2) 120 T] ++ (pS cy dd (rmS X))) := hD2
    subst hr_11
    have hem := (it_room (X := X) c_6).1
    have hp9 : rmP T n X ps = ((itR T n X ps).2) := (congrArg Prod.snd hem).symm
    have hq9 : ([eO cy ee (nI (rmP T n X ps)) (nI (te T n (rmP T n X ps))) (tkn T n (rmP T n X ps)) va1_11, pO cy ee (nI n), ia cy (ee 2) 120 T] ++ (pS cy dd (rmS X))) = ([eO cy ee (nI ((itR T n X ps).2)) (nI (te T n (rmP T n X ps))) (tkn T n (rmP T n X ps)) va1_11, pO cy ee (nI n), ia cy (ee 2) 120 T] ++ (pS cy dd (rmS X))) := congrArg (fun z9 => [eO cy ee z9 (nI (te T n (rmP T n X ps))) (tkn T n (rmP T n X ps)) va1_11, pO cy ee (nI n), ia cy (ee 2) 120 T] ++ (pS cy dd (rmS X))) (show (nI (rmP T n X ps)) = (nI ((itR T n X ps).2)) from congrArg (fun z9 => nI z9) hp9)
    replace hP2 := (congrArg (fun z9 => va_P D vwCl z9 _) hq9).mp hP2
    replace hD2 := (congrArg (fun z9 => va_D _ z9) hq9).mp hD2
    clear hq9
    have hq9 : ([eO cy ee (nI ((itR T n X ps).2)) (nI (te T n (rmP T n X ps))) (tkn T n (rmP T n X ps)) va1_11, pO cy ee (nI n), ia cy (ee 2) 120 T] ++ (pS cy dd (rmS X))) = ([eO cy ee (nI ((itR T n X ps).2)) (nI (te T n ((itR T n X ps).2))) (tkn T n (rmP T n X ps)) va1_11, pO cy ee (nI n), ia cy (ee 2) 120 T] ++ (pS cy dd (rmS X))) := congrArg (fun z9 => [eO cy ee (nI ((itR T n X ps).2)) z9 (tkn T n (rmP T n X ps)) va1_11, pO cy ee (nI n), ia cy (ee 2) 120 T] ++ (pS cy dd (rmS X))) (show (nI (te T n (rmP T n X ps))) = (nI (te T n ((itR T n X ps).2))) from congrArg (fun z9 => nI (te T n z9)) hp9)
    replace hP2 := (congrArg (fun z9 => va_P D vwCl z9 _) hq9).mp hP2
    replace hD2 := (congrArg (fun z9 => va_D _ z9) hq9).mp hD2
    clear hq9
    have hq9 : ([eO cy ee (nI ((itR T n X ps).2)) (nI (te T n ((itR T n X ps).2))) (tkn T n (rmP T n X ps)) va1_11, pO cy ee (nI n), ia cy (ee 2) 120 T] ++ (pS cy dd (rmS X))) = ([eO cy ee (nI ((itR T n X ps).2)) (nI (te T n ((itR T n X ps).2))) (tkn T n ((itR T n X ps).2)) va1_11, pO cy ee (nI n), ia cy (ee 2) 120 T] ++ (pS cy dd (rmS X))) := congrArg (fun z9 => [eO cy ee (nI ((itR T n X ps).2)) (nI (te T n ((itR T n X ps).2))) z9 va1_11, pO cy ee (nI n), ia cy (ee 2) 120 T] ++ (pS cy dd (rmS X))) (show (tkn T n (rmP T n X ps)) = (tkn T n ((itR T n X ps).2)) from congrArg (fun z9 => tkn T n z9) hp9)
    replace hP2 := (congrArg (fun z9 => va_P D vwCl z9 _) hq9).mp hP2
    replace hD2 := (congrArg (fun z9 => va_D _ z9) hq9).mp hD2
    clear hq9
    clear hp9
    refine re_z (va1_11, rmS X) hx hb hr hlocks hP2 hD2 hS2 dX4_tellItem_14 (b2i_z _) ?_
    exact (⟨b2i_iff (itR_room1 c_6), fun z9 => by rw [show (itR T n X ps).2 = _ from congrArg Prod.snd hem] at z9 ⊢; exact hv1_11 z9, can_rmS hcX, fun z9 => rmS_ok c_6 z9⟩)
