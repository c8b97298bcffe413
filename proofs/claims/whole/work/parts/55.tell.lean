theorem kc_X4_takePerhaps : kV yX4_takePerhaps cX4_takePerhaps 3 (some .int) 2 := ⟨kw_3_29, kw_s_11, kw_1_5, kw_3_30, by decide, by decide, by decide +kernel⟩
set_option maxHeartbeats 4000000 in
set_option maxRecDepth 100000 in
theorem c_X4_takePerhaps (l : Launch) (D : va_G) (cy : Nat → ClassId) (G : Nat → Nat) (sz : Nat) (ee : Nat → Nat) (n : Nat) (T : Nat → Int32) (ps : Nat) (va : Int32) (i : Nat) (x1 : Int32) (hn : n ≤ 120) (hs : ps ≤ n) (hv : tkn T n ps = 2 → va = nI (numV T n ps)) (hi : i < 14) (htp : tpOk T n) : Met l yX4_takePerhaps (wm yX4_takePerhaps cX4_takePerhaps 3 (some .int)) { frames := 6, cells := 0, slots := 0, locals := 128 } (va_Pc [.ref (ee 0), .ref (G (10 + i)), .int x1] (pr D (TY cy) G ([eO cy ee (nI ps) (nI (te T n ps)) (tkn T n ps) va, pO cy ee (nI n), ia cy (ee 2) 120 T]) sz)) (va_Qi (fun (r : Int32) (u : Int32) => (r = if phK T n i x1 ps = true then nI (phN T n i ps) else -1) ∧ (tkn T n (phP T n i x1 ps) = 2 → u = nI (numV T n (phP T n i x1 ps)))) (fun (u : Int32) t => po D (va_A ([eO cy ee (nI ps) (nI (te T n ps)) (tkn T n ps) va, pO cy ee (nI n), ia cy (ee 2) 120 T]) sz) ([eO cy ee (nI (phP T n i x1 ps)) (nI (te T n (phP T n i x1 ps))) (tkn T n (phP T n i x1 ps)) u, pO cy ee (nI n), ia cy (ee 2) 120 T]) t) (va_A ([eO cy ee (nI ps) (nI (te T n ps)) (tkn T n ps) va, pO cy ee (nI n), ia cy (ee 2) 120 T]) sz)) 0 0 (va_A ([eO cy ee (nI ps) (nI (te T n ps)) (tkn T n ps) va, pO cy ee (nI n), ia cy (ee 2) 120 T]) sz) := by
  refine mk_rw (by decide) RX4 rfl (Nat.le_of_ble_eq_true rfl) [(0, .ref (ee 0)), (1, .ref (G (10 + i))), (2, .int x1)] rfl ?_
  intro p e s m below meth c hx hb hml hown hr hlocks hin hw hsz hA hG hK H0 locs0 hP0 hD0 hS0 ls0 hl0
  clear hin
  have hte := te_b (T := T) hs
  have hnx := nxt_b (T := T) hs
  have hnx2 := nxt_b (T := T) hnx.2
  have hnx3 := nxt_b (T := T) hnx2.2
  refine lv_aload_n hx hb dX4_takePerhaps_0 rfl (lv_at hl0 0 rfl) ?_
  refine lv_aload_n hx hb dX4_takePerhaps_1 rfl (lv_at hl0 1 rfl) ?_
  refine rV_i (wc := [eO cy ee (nI ps) (nI (te T n ps)) (tkn T n ps) va, pO cy ee (nI n), ia cy (ee 2) 120 T]) (rest := []) hx hb hml hown hw hG hK hP0 hS0 hA hl0 kc_X4_isWord kw_2_186 [.ref (G (10 + i))] (c_X4_isWord l D cy G H0.size ee n T ps va i (by first | omega | assumption) (by first | omega | assumption) (by first | omega | assumption)) [0, 1, 2] rfl 0 rfl rfl rfl rfl rfl (Nat.le_of_ble_eq_true rfl) ⟨Nat.le_of_ble_eq_true rfl, Nat.le_of_ble_eq_true rfl⟩ dX4_takePerhaps_2 ⟨Nat.le_of_ble_eq_true rfl, Nat.le_of_ble_eq_true rfl⟩ (fun r_2 H1 locs1 hr_2 hP1 hS1 => ?_)
  have hD1 := hD0
  clear hP0 hD0 hS0 locs0 H0
  subst hr_2
  refine lb_ne (tgt := 10) hx hb dX4_takePerhaps_5 (by decide) (fun c_5 => ?_) (fun c_5 => ?_)
  · refine lv_aload_n hx hb dX4_takePerhaps_10 rfl (lv_at hl0 0 rfl) ?_
    refine cV_v (wc := [eO cy ee (nI ps) (nI (te T n ps)) (tkn T n ps) va, pO cy ee (nI n), ia cy (ee 2) 120 T]) (wr := []) (rest := []) hx hb hml hown hw hG hK hP1 hD1 hS1 hA hl0 kc_X4_nextToken kw_2_167 [] (c_X4_nextToken l D cy G H1.size ee n T (nI ps) (tkn T n ps) va (te T n ps) (by first | omega | assumption) (by first | omega | assumption) (by first | omega | assumption)) [0, 1, 2] [] rfl rfl rfl rfl rfl 0 rfl rfl rfl rfl rfl (Nat.le_of_ble_eq_true rfl) ⟨Nat.le_of_ble_eq_true rfl, Nat.le_of_ble_eq_true rfl⟩ dX4_takePerhaps_11 ⟨Nat.le_of_ble_eq_true rfl, Nat.le_of_ble_eq_true rfl⟩ (fun u9 H2 locs2 hu9 hP2 hD2 hS2 => ?_)
    clear hP1 hD1 hS1 locs1 H1
    obtain ⟨va1_11, rfl⟩ : ∃ z9, z9 = u9 := ⟨_, rfl⟩
    have hv_11 := hu9
    replace hv_11 : tkn T n (skp T n (te T n ps)) = 2 → va1_11 = nI (numV T n (skp T n (te T n ps))) := hv_11
    replace hP2 : va_P D vwCl ([eO cy ee (nI (skp T n (te T n ps))) (nI (te T n (skp T n (te T n ps)))) (tkn T n (skp T n (te T n ps))) va1_11, pO cy ee (nI n), ia cy (ee 2) 120 T]) H2 := hP2
    replace hD2 : va_D (va_A _ sz) ([eO cy ee (nI (skp T n (te T n ps))) (nI (te T n (skp T n (te T n ps)))) (tkn T n (skp T n (te T n ps))) va1_11, pO cy ee (nI n), ia cy (ee 2) 120 T]) := hD2
    have hp9 : skp T n (te T n ps) = (nxt T n ps) := rfl
    have hq9 : ([eO cy ee (nI (skp T n (te T n ps))) (nI (te T n (skp T n (te T n ps)))) (tkn T n (skp T n (te T n ps))) va1_11, pO cy ee (nI n), ia cy (ee 2) 120 T]) = ([eO cy ee (nI (nxt T n ps)) (nI (te T n (skp T n (te T n ps)))) (tkn T n (skp T n (te T n ps))) va1_11, pO cy ee (nI n), ia cy (ee 2) 120 T]) := congrArg (fun z9 => [eO cy ee z9 (nI (te T n (skp T n (te T n ps)))) (tkn T n (skp T n (te T n ps))) va1_11, pO cy ee (nI n), ia cy (ee 2) 120 T]) (show (nI (skp T n (te T n ps))) = (nI (nxt T n ps)) from congrArg (fun z9 => nI z9) hp9)
    replace hP2 := (congrArg (fun z9 => va_P D vwCl z9 _) hq9).mp hP2
    replace hD2 := (congrArg (fun z9 => va_D _ z9) hq9).mp hD2
    clear hq9
    have hq9 : ([eO cy ee (nI (nxt T n ps)) (nI (te T n (skp T n (te T n ps)))) (tkn T n (skp T n (te T n ps))) va1_11, pO cy ee (nI n), ia cy (ee 2) 120 T]) = ([eO cy ee (nI (nxt T n ps)) (nI (te T n (nxt T n ps))) (tkn T n (skp T n (te T n ps))) va1_11, pO cy ee (nI n), ia cy (ee 2) 120 T]) := congrArg (fun z9 => [eO cy ee (nI (nxt T n ps)) z9 (tkn T n (skp T n (te T n ps))) va1_11, pO cy ee (nI n), ia cy (ee 2) 120 T]) (show (nI (te T n (skp T n (te T n ps)))) = (nI (te T n (nxt T n ps))) from congrArg (fun z9 => nI (te T n z9)) hp9)
    replace hP2 := (congrArg (fun z9 => va_P D vwCl z9 _) hq9).mp hP2
    replace hD2 := (congrArg (fun z9 => va_D _ z9) hq9).mp hD2
    clear hq9
    have hq9 : ([eO cy ee (nI (nxt T n ps)) (nI (te T n (nxt T n ps))) (tkn T n (skp T n (te T n ps))) va1_11, pO cy ee (nI n), ia cy (ee 2) 120 T]) = ([eO cy ee (nI (nxt T n ps)) (nI (te T n (nxt T n ps))) (tkn T n (nxt T n ps)) va1_11, pO cy ee (nI n), ia cy (ee 2) 120 T]) := congrArg (fun z9 => [eO cy ee (nI (nxt T n ps)) (nI (te T n (nxt T n ps))) z9 va1_11, pO cy ee (nI n), ia cy (ee 2) 120 T]) (show (tkn T n (skp T n (te T n ps))) = (tkn T n (nxt T n ps)) from congrArg (fun z9 => tkn T n z9) hp9)
    replace hP2 := (congrArg (fun z9 => va_P D vwCl z9 _) hq9).mp hP2
    replace hD2 := (congrArg (fun z9 => va_D _ z9) hq9).mp hD2
    clear hq9
    clear hp9
    refine lv_aload_n hx hb dX4_takePerhaps_14 rfl (lv_at hl0 0 rfl) ?_
    refine lv_iload_n hx hb dX4_takePerhaps_15 rfl (lv_at hl0 2 rfl) ?_
    refine cV_i (wc := [eO cy ee (nI (nxt T n ps)) (nI (te T n (nxt T n ps))) (tkn T n (nxt T n ps)) va1_11, pO cy ee (nI n), ia cy (ee 2) 120 T]) (wr := []) (rest := []) hx hb hml hown hw hG hK hP2 hD2 hS2 hA hl0 kc_X4_takeNumber kw_3_17 [.int x1] (c_X4_takeNumber l D cy G H2.size ee n T (nxt T n ps) va1_11 x1 (by first | omega | assumption) hnx.2 hv_11 (by first | omega | assumption)) [0, 1, 2] [] rfl rfl rfl rfl rfl 0 rfl rfl rfl rfl rfl (Nat.le_of_ble_eq_true rfl) ⟨Nat.le_of_ble_eq_true rfl, Nat.le_of_ble_eq_true rfl⟩ dX4_takePerhaps_16 ⟨Nat.le_of_ble_eq_true rfl, Nat.le_of_ble_eq_true rfl⟩ (fun r_16 u9 H3 locs3 hu9 hP3 hD3 hS3 => ?_)
    clear hP2 hD2 hS2 locs2 H2
    obtain ⟨va1_16, rfl⟩ : ∃ z9, z9 = u9 := ⟨_, rfl⟩
    obtain ⟨hr_16, hv1_16⟩ := hu9
    replace hv1_16 : tkn T n (tnP T n x1 (nxt T n ps)) = 2 → va1_16 = nI (numV T n (tnP T n x1 (nxt T n ps))) := hv1_16
    replace hP3 : va_P D vwCl ([eO cy ee (nI (tnP T n x1 (nxt T n ps))) (nI (te T n (tnP T n x1 (nxt T n ps)))) (tkn T n (tnP T n x1 (nxt T n ps))) va1_16, pO cy ee (nI n), ia cy (ee 2) 120 T]) H3 := hP3
    replace hD3 : va_D (va_A _ sz) ([eO cy ee (nI (tnP T n x1 (nxt T n ps))) (nI (te T n (tnP T n x1 (nxt T n ps)))) (tkn T n (tnP T n x1 (nxt T n ps))) va1_16, pO cy ee (nI n), ia cy (ee 2) 120 T]) := hD3
    subst hr_16
    have hp9 : tnP T n x1 (nxt T n ps) = (phP T n i x1 ps) := (if_pos c_5).symm
    have hq9 : ([eO cy ee (nI (tnP T n x1 (nxt T n ps))) (nI (te T n (tnP T n x1 (nxt T n ps)))) (tkn T n (tnP T n x1 (nxt T n ps))) va1_16, pO cy ee (nI n), ia cy (ee 2) 120 T]) = ([eO cy ee (nI (phP T n i x1 ps)) (nI (te T n (tnP T n x1 (nxt T n ps)))) (tkn T n (tnP T n x1 (nxt T n ps))) va1_16, pO cy ee (nI n), ia cy (ee 2) 120 T]) := congrArg (fun z9 => [eO cy ee z9 (nI (te T n (tnP T n x1 (nxt T n ps)))) (tkn T n (tnP T n x1 (nxt T n ps))) va1_16, pO cy ee (nI n), ia cy (ee 2) 120 T]) (show (nI (tnP T n x1 (nxt T n ps))) = (nI (phP T n i x1 ps)) from congrArg (fun z9 => nI z9) hp9)
    replace hP3 := (congrArg (fun z9 => va_P D vwCl z9 _) hq9).mp hP3
    replace hD3 := (congrArg (fun z9 => va_D _ z9) hq9).mp hD3
    clear hq9
    have hq9 : ([eO cy ee (nI (phP T n i x1 ps)) (nI (te T n (tnP T n x1 (nxt T n ps)))) (tkn T n (tnP T n x1 (nxt T n ps))) va1_16, pO cy ee (nI n), ia cy (ee 2) 120 T]) = ([eO cy ee (nI (phP T n i x1 ps)) (nI (te T n (phP T n i x1 ps))) (tkn T n (tnP T n x1 (nxt T n ps))) va1_16, pO cy ee (nI n), ia cy (ee 2) 120 T]) := congrArg (fun z9 => [eO cy ee (nI (phP T n i x1 ps)) z9 (tkn T n (tnP T n x1 (nxt T n ps))) va1_16, pO cy ee (nI n), ia cy (ee 2) 120 T]) (show (nI (te T n (tnP T n x1 (nxt T n ps)))) = (nI (te T n (phP T n i x1 ps))) from congrArg (fun z9 => nI (te T n z9)) hp9)
    replace hP3 := (congrArg (fun z9 => va_P D vwCl z9 _) hq9).mp hP3
    replace hD3 := (congrArg (fun z9 => va_D _ z9) hq9).mp hD3
    clear hq9
    have hq9 : ([eO cy ee (nI (phP T n i x1 ps)) (nI (te T n (phP T n i x1 ps))) (tkn T n (tnP T n x1 (nxt T n ps))) va1_16, pO cy ee (nI n), ia cy (ee 2) 120 T]) = ([eO cy ee (nI (phP T n i x1 ps)) (nI (te T n (phP T n i x1 ps))) (tkn T n (phP T n i x1 ps)) va1_16, pO cy ee (nI n), ia cy (ee 2) 120 T]) := congrArg (fun z9 => [eO cy ee (nI (phP T n i x1 ps)) (nI (te T n (phP T n i x1 ps))) z9 va1_16, pO cy ee (nI n), ia cy (ee 2) 120 T]) (show (tkn T n (tnP T n x1 (nxt T n ps))) = (tkn T n (phP T n i x1 ps)) from congrArg (fun z9 => tkn T n z9) hp9)
    replace hP3 := (congrArg (fun z9 => va_P D vwCl z9 _) hq9).mp hP3
    replace hD3 := (congrArg (fun z9 => va_D _ z9) hq9).mp hD3
    clear hq9
    clear hp9
    refine re_i va1_16 hx hb hr hlocks hP3 hD3 hS3 dX4_takePerhaps_19 ?_
    exact (⟨ph_val c_5, fun z9 => by rw [show (phP T n i x1 ps) = tnP T n x1 (nxt T n ps) from if_pos c_5] at z9 ⊢; exact hv1_16 z9⟩)
  · have hp9 : ps = (phP T n i x1 ps) := (if_neg c_5).symm
    have hq9 : ([eO cy ee (nI ps) (nI (te T n ps)) (tkn T n ps) va, pO cy ee (nI n), ia cy (ee 2) 120 T]) = ([eO cy ee (nI (phP T n i x1 ps)) (nI (te T n ps)) (tkn T n ps) va, pO cy ee (nI n), ia cy (ee 2) 120 T]) := congrArg (fun z9 => [eO cy ee z9 (nI (te T n ps)) (tkn T n ps) va, pO cy ee (nI n), ia cy (ee 2) 120 T]) (show (nI ps) = (nI (phP T n i x1 ps)) from congrArg (fun z9 => nI z9) hp9)
    replace hP1 := (congrArg (fun z9 => va_P D vwCl z9 _) hq9).mp hP1
    replace hD1 := (congrArg (fun z9 => va_D _ z9) hq9).mp hD1
    clear hq9
    have hq9 : ([eO cy ee (nI (phP T n i x1 ps)) (nI (te T n ps)) (tkn T n ps) va, pO cy ee (nI n), ia cy (ee 2) 120 T]) = ([eO cy ee (nI (phP T n i x1 ps)) (nI (te T n (phP T n i x1 ps))) (tkn T n ps) va, pO cy ee (nI n), ia cy (ee 2) 120 T]) := congrArg (fun z9 => [eO cy ee (nI (phP T n i x1 ps)) z9 (tkn T n ps) va, pO cy ee (nI n), ia cy (ee 2) 120 T]) (show (nI (te T n ps)) = (nI (te T n (phP T n i x1 ps))) from congrArg (fun z9 => nI (te T n z9)) hp9)
    replace hP1 := (congrArg (fun z9 => va_P D vwCl z9 _) hq9).mp hP1
    replace hD1 := (congrArg (fun z9 => va_D _ z9) hq9).mp hD1
    clear hq9
    have hq9 : ([eO cy ee (nI (phP T n i x1 ps)) (nI (te T n (phP T n i x1 ps))) (tkn T n ps) va, pO cy ee (nI n), ia cy (ee 2) 120 T]) = ([eO cy ee (nI (phP T n i x1 ps)) (nI (te T n (phP T n i x1 ps))) (tkn T n (phP T n i x1 ps)) va, pO cy ee (nI n), ia cy (ee 2) 120 T]) := congrArg (fun z9 => [eO cy ee (nI (phP T n i x1 ps)) (nI (te T n (phP T n i x1 ps))) z9 va, pO cy ee (nI n), ia cy (ee 2) 120 T]) (show (tkn T n ps) = (tkn T n (phP T n i x1 ps)) from congrArg (fun z9 => tkn T n z9) hp9)
    replace hP1 := (congrArg (fun z9 => va_P D vwCl z9 _) hq9).mp hP1
    replace hD1 := (congrArg (fun z9 => va_D _ z9) hq9).mp hD1
    clear hq9
    clear hp9
    refine lv_iconst (v := 0) hx hb dX4_takePerhaps_8 (by decide) ?_
    refine re_i va hx hb hr hlocks hP1 hD1 hS1 dX4_takePerhaps_9 ?_
    exact (⟨ph_no c_5, fun z9 => by rw [show (phP T n i x1 ps) = ps from if_neg c_5] at z9 ⊢; exact hv z9⟩)

theorem kc_X4_takeOther : kV yX4_takeOther cX4_takeOther 4 (some .int) 2 := ⟨kw_3_23, kw_s_10, kw_1_5, kw_3_24, by decide, by decide, by decide +kernel⟩
set_option maxHeartbeats 4000000 in
set_option maxRecDepth 100000 in
theorem c_X4_takeOther (l : Launch) (D : va_G) (cy : Nat → ClassId) (G : Nat → Nat) (sz : Nat) (ee : Nat → Nat) (n : Nat) (T : Nat → Int32) (ps : Nat) (va : Int32) (x1 : Int32) (v : Nat) (hn : n ≤ 120) (hs : ps ≤ n) (hv : tkn T n ps = 2 → va = nI (numV T n ps)) (hv9 : v < 2 ^ 31) (htp : tpOk T n) : Met l yX4_takeOther (wm yX4_takeOther cX4_takeOther 4 (some .int)) { frames := 6, cells := 0, slots := 0, locals := 128 } (va_Pc [.ref (ee 0), .int x1, .int (nI v)] (pr D (TY cy) G ([eO cy ee (nI ps) (nI (te T n ps)) (tkn T n ps) va, pO cy ee (nI n), ia cy (ee 2) 120 T]) sz)) (va_Qi (fun (r : Int32) (u : Int32) => (r = if otQ T n x1 v ps then otV T n ps else -2) ∧ (tkn T n (oqP T n x1 v ps) = 2 → u = nI (numV T n (oqP T n x1 v ps)))) (fun (u : Int32) t => po D (va_A ([eO cy ee (nI ps) (nI (te T n ps)) (tkn T n ps) va, pO cy ee (nI n), ia cy (ee 2) 120 T]) sz) ([eO cy ee (nI (oqP T n x1 v ps)) (nI (te T n (oqP T n x1 v ps))) (tkn T n (oqP T n x1 v ps)) u, pO cy ee (nI n), ia cy (ee 2) 120 T]) t) (va_A ([eO cy ee (nI ps) (nI (te T n ps)) (tkn T n ps) va, pO cy ee (nI n), ia cy (ee 2) 120 T]) sz)) 0 0 (va_A ([eO cy ee (nI ps) (nI (te T n ps)) (tkn T n ps) va, pO cy ee (nI n), ia cy (ee 2) 120 T]) sz) := by
  refine mk_rw (by decide) RX4 rfl (Nat.le_of_ble_eq_true rfl) [(0, .ref (ee 0)), (1, .int x1), (2, .int (nI v))] rfl ?_
  intro p e s m below meth c hx hb hml hown hr hlocks hin hw hsz hA hG hK H0 locs0 hP0 hD0 hS0 ls0 hl0
  clear hin
  have hte := te_b (T := T) hs
  have hnx := nxt_b (T := T) hs
  have hnx2 := nxt_b (T := T) hnx.2
  have hnx3 := nxt_b (T := T) hnx2.2
  have hnl := numV_le T n ps
  refine lv_aload_n hx hb dX4_takeOther_0 rfl (lv_at hl0 0 rfl) ?_
  refine va_ldcS hx hb hown (hG.2.2.2.1 7 (by decide)) dX4_takeOther_1 ?_
  refine rV_i (wc := [eO cy ee (nI ps) (nI (te T n ps)) (tkn T n ps) va, pO cy ee (nI n), ia cy (ee 2) 120 T]) (rest := []) hx hb hml hown hw hG hK hP0 hS0 hA hl0 kc_X4_isWord kw_2_186 [.ref (G (10 + 7))] (c_X4_isWord l D cy G H0.size ee n T ps va 7 (by first | omega | assumption) (by first | omega | assumption) (by decide)) [0, 1, 2] rfl 0 rfl rfl rfl rfl rfl (Nat.le_of_ble_eq_true rfl) ⟨Nat.le_of_ble_eq_true rfl, Nat.le_of_ble_eq_true rfl⟩ dX4_takeOther_3 ⟨Nat.le_of_ble_eq_true rfl, Nat.le_of_ble_eq_true rfl⟩ (fun r_3 H1 locs1 hr_3 hP1 hS1 => ?_)
  have hD1 := hD0
  clear hP0 hD0 hS0 locs0 H0
  subst hr_3
  refine lb_eq (tgt := 15) hx hb dX4_takeOther_6 (by decide) (fun c_6 => ?_) (fun c_6 => ?_)
  · refine lv_aload_n hx hb dX4_takeOther_15 rfl (lv_at hl0 0 rfl) ?_
    refine va_get (D := D) (ci := 4) (v := .int (tkn T n ps)) (C := RX4) (T := TX4) (N := 5) hx hb hw iX4 hown hK hP1 0 rfl rfl 3 (by decide) (hw _ kw_1_233) (fun _ h9 => h9) rfl dX4_takeOther_16 ?_
    refine lv_iconst (v := 2) hx hb dX4_takeOther_19 (by decide) ?_
    refine lv_icmp_ne (tgt := 35) hx hb dX4_takeOther_20 (by decide) (fun c_20 => ?_) (fun c_20 => ?_)
    · have hb9 : ¬ (isD (bt T n ps) ∧ numV T n ps = v) := fun z9 => c_20 (tkn_2.mpr z9.1)
      refine lv_aload_n hx hb dX4_takeOther_35 rfl (lv_at hl0 0 rfl) ?_
      refine lv_iload_n hx hb dX4_takeOther_36 rfl (lv_at hl0 1 rfl) ?_
      refine cV_i (wc := [eO cy ee (nI ps) (nI (te T n ps)) (tkn T n ps) va, pO cy ee (nI n), ia cy (ee 2) 120 T]) (wr := []) (rest := []) hx hb hml hown hw hG hK hP1 hD1 hS1 hA hl0 kc_X4_takeNumber kw_3_17 [.int x1] (c_X4_takeNumber l D cy G H1.size ee n T ps va x1 (by first | omega | assumption) (by first | omega | assumption) (by first | omega | assumption) (by first | omega | assumption)) [0, 1, 2] [] rfl rfl rfl rfl rfl 0 rfl rfl rfl rfl rfl (Nat.le_of_ble_eq_true rfl) ⟨Nat.le_of_ble_eq_true rfl, Nat.le_of_ble_eq_true rfl⟩ dX4_takeOther_37 ⟨Nat.le_of_ble_eq_true rfl, Nat.le_of_ble_eq_true rfl⟩ (fun r_37 u9 H2 locs2 hu9 hP2 hD2 hS2 => ?_)
      clear hP1 hD1 hS1 locs1 H1
      obtain ⟨va1_37, rfl⟩ : ∃ z9, z9 = u9 := ⟨_, rfl⟩
      obtain ⟨hr_37, hv1_37⟩ := hu9
      replace hv1_37 : tkn T n (tnP T n x1 ps) = 2 → va1_37 = nI (numV T n (tnP T n x1 ps)) := hv1_37
      replace hP2 : va_P D vwCl ([eO cy ee (nI (tnP T n x1 ps)) (nI (te T n (tnP T n x1 ps))) (tkn T n (tnP T n x1 ps)) va1_37, pO cy ee (nI n), ia cy (ee 2) 120 T]) H2 := hP2
      replace hD2 : va_D (va_A _ sz) ([eO cy ee (nI (tnP T n x1 ps)) (nI (te T n (tnP T n x1 ps))) (tkn T n (tnP T n x1 ps)) va1_37, pO cy ee (nI n), ia cy (ee 2) 120 T]) := hD2
      subst hr_37
      by_cases hk : okN T n ps x1
      · refine tp (show (if okN T n ps x1 then nI (numV T n ps) else -1) = nI (numV T n ps) from if_pos hk) ?_
        have hq9 : otQ T n x1 v ps := Or.inr ⟨hb9, hk⟩
        have hp9 : tnP T n x1 ps = (oqP T n x1 v ps) := (if_pos hk).trans (if_pos hq9).symm
        have hq9 : ([eO cy ee (nI (tnP T n x1 ps)) (nI (te T n (tnP T n x1 ps))) (tkn T n (tnP T n x1 ps)) va1_37, pO cy ee (nI n), ia cy (ee 2) 120 T]) = ([eO cy ee (nI (oqP T n x1 v ps)) (nI (te T n (tnP T n x1 ps))) (tkn T n (tnP T n x1 ps)) va1_37, pO cy ee (nI n), ia cy (ee 2) 120 T]) := congrArg (fun z9 => [eO cy ee z9 (nI (te T n (tnP T n x1 ps))) (tkn T n (tnP T n x1 ps)) va1_37, pO cy ee (nI n), ia cy (ee 2) 120 T]) (show (nI (tnP T n x1 ps)) = (nI (oqP T n x1 v ps)) from congrArg (fun z9 => nI z9) hp9)
        replace hP2 := (congrArg (fun z9 => va_P D vwCl z9 _) hq9).mp hP2
        replace hD2 := (congrArg (fun z9 => va_D _ z9) hq9).mp hD2
        clear hq9
        have hq9 : ([eO cy ee (nI (oqP T n x1 v ps)) (nI (te T n (tnP T n x1 ps))) (tkn T n (tnP T n x1 ps)) va1_37, pO cy ee (nI n), ia cy (ee 2) 120 T]) = ([eO cy ee (nI (oqP T n x1 v ps)) (nI (te T n (oqP T n x1 v ps))) (tkn T n (tnP T n x1 ps)) va1_37, pO cy ee (nI n), ia cy (ee 2) 120 T]) := congrArg (fun z9 => [eO cy ee (nI (oqP T n x1 v ps)) z9 (tkn T n (tnP T n x1 ps)) va1_37, pO cy ee (nI n), ia cy (ee 2) 120 T]) (show (nI (te T n (tnP T n x1 ps))) = (nI (te T n (oqP T n x1 v ps))) from congrArg (fun z9 => nI (te T n z9)) hp9)
        replace hP2 := (congrArg (fun z9 => va_P D vwCl z9 _) hq9).mp hP2
        replace hD2 := (congrArg (fun z9 => va_D _ z9) hq9).mp hD2
        clear hq9
        have hq9 : ([eO cy ee (nI (oqP T n x1 v ps)) (nI (te T n (oqP T n x1 v ps))) (tkn T n (tnP T n x1 ps)) va1_37, pO cy ee (nI n), ia cy (ee 2) 120 T]) = ([eO cy ee (nI (oqP T n x1 v ps)) (nI (te T n (oqP T n x1 v ps))) (tkn T n (oqP T n x1 v ps)) va1_37, pO cy ee (nI n), ia cy (ee 2) 120 T]) := congrArg (fun z9 => [eO cy ee (nI (oqP T n x1 v ps)) (nI (te T n (oqP T n x1 v ps))) z9 va1_37, pO cy ee (nI n), ia cy (ee 2) 120 T]) (show (tkn T n (tnP T n x1 ps)) = (tkn T n (oqP T n x1 v ps)) from congrArg (fun z9 => tkn T n z9) hp9)
        replace hP2 := (congrArg (fun z9 => va_P D vwCl z9 _) hq9).mp hP2
        replace hD2 := (congrArg (fun z9 => va_D _ z9) hq9).mp hD2
        clear hq9
        clear hp9
        refine lv_istore_n (lv' := [(3, .int (nI (numV T n ps))), (0, .ref (ee 0)), (1, .int x1), (2, .int (nI v))]) hx hb dX4_takeOther_40 rfl hl0 (by decide) rfl (fun ls1 hl1 => ?_)
        clear hl0 ls0
        refine lv_iload_n hx hb dX4_takeOther_41 rfl (lv_at hl1 0 rfl) ?_
        refine lv_if_ge (tgt := 50) hx hb dX4_takeOther_42 (by decide) (fun _ => ?_) (fun c => absurd (nI_pos' (by omega)) c)
        refine lv_iload_n hx hb dX4_takeOther_50 rfl (lv_at hl1 0 rfl) ?_
        refine re_i va1_37 hx hb hr hlocks hP2 hD2 hS2 dX4_takeOther_51 ?_
        exact (⟨((if_pos hq9).trans (if_neg c_6)).symm, fun z9 => by rw [show (oqP T n x1 v ps) = tnP T n x1 ps from (if_pos hq9).trans (if_pos hk).symm] at z9 ⊢; exact hv1_37 z9⟩)
      · refine tp (show (if okN T n ps x1 then nI (numV T n ps) else -1) = -1 from if_neg hk) ?_
        have hq9 : ¬ otQ T n x1 v ps := fun z9 => z9.elim c_6 (fun q9 => hk q9.2)
        have hp9 : tnP T n x1 ps = (oqP T n x1 v ps) := (if_neg hk).trans (if_neg hq9).symm
        have hq9 : ([eO cy ee (nI (tnP T n x1 ps)) (nI (te T n (tnP T n x1 ps))) (tkn T n (tnP T n x1 ps)) va1_37, pO cy ee (nI n), ia cy (ee 2) 120 T]) = ([eO cy ee (nI (oqP T n x1 v ps)) (nI (te T n (tnP T n x1 ps))) (tkn T n (tnP T n x1 ps)) va1_37, pO cy ee (nI n), ia cy (ee 2) 120 T]) := congrArg (fun z9 => [eO cy ee z9 (nI (te T n (tnP T n x1 ps))) (tkn T n (tnP T n x1 ps)) va1_37, pO cy ee (nI n), ia cy (ee 2) 120 T]) (show (nI (tnP T n x1 ps)) = (nI (oqP T n x1 v ps)) from congrArg (fun z9 => nI z9) hp9)
        replace hP2 := (congrArg (fun z9 => va_P D vwCl z9 _) hq9).mp hP2
        replace hD2 := (congrArg (fun z9 => va_D _ z9) hq9).mp hD2
        clear hq9
        have hq9 : ([eO cy ee (nI (oqP T n x1 v ps)) (nI (te T n (tnP T n x1 ps))) (tkn T n (tnP T n x1 ps)) va1_37, pO cy ee (nI n), ia cy (ee 2) 120 T]) = ([eO cy ee (nI (oqP T n x1 v ps)) (nI (te T n (oqP T n x1 v ps))) (tkn T n (tnP T n x1 ps)) va1_37, pO cy ee (nI n), ia cy (ee 2) 120 T]) := congrArg (fun z9 => [eO cy ee (nI (oqP T n x1 v ps)) z9 (tkn T n (tnP T n x1 ps)) va1_37, pO cy ee (nI n), ia cy (ee 2) 120 T]) (show (nI (te T n (tnP T n x1 ps))) = (nI (te T n (oqP T n x1 v ps))) from congrArg (fun z9 => nI (te T n z9)) hp9)
        replace hP2 := (congrArg (fun z9 => va_P D vwCl z9 _) hq9).mp hP2
        replace hD2 := (congrArg (fun z9 => va_D _ z9) hq9).mp hD2
        clear hq9
        have hq9 : ([eO cy ee (nI (oqP T n x1 v ps)) (nI (te T n (oqP T n x1 v ps))) (tkn T n (tnP T n x1 ps)) va1_37, pO cy ee (nI n), ia cy (ee 2) 120 T]) = ([eO cy ee (nI (oqP T n x1 v ps)) (nI (te T n (oqP T n x1 v ps))) (tkn T n (oqP T n x1 v ps)) va1_37, pO cy ee (nI n), ia cy (ee 2) 120 T]) := congrArg (fun z9 => [eO cy ee (nI (oqP T n x1 v ps)) (nI (te T n (oqP T n x1 v ps))) z9 va1_37, pO cy ee (nI n), ia cy (ee 2) 120 T]) (show (tkn T n (tnP T n x1 ps)) = (tkn T n (oqP T n x1 v ps)) from congrArg (fun z9 => tkn T n z9) hp9)
        replace hP2 := (congrArg (fun z9 => va_P D vwCl z9 _) hq9).mp hP2
        replace hD2 := (congrArg (fun z9 => va_D _ z9) hq9).mp hD2
        clear hq9
        clear hp9
        refine lv_istore_n (lv' := [(3, .int (-1)), (0, .ref (ee 0)), (1, .int x1), (2, .int (nI v))]) hx hb dX4_takeOther_40 rfl hl0 (by decide) rfl (fun ls1 hl1 => ?_)
        clear hl0 ls0
        refine lv_iload_n hx hb dX4_takeOther_41 rfl (lv_at hl1 0 rfl) ?_
        refine lv_if_ge (tgt := 50) hx hb dX4_takeOther_42 (by decide) (fun c => absurd c (by decide)) (fun _ => ?_)
        refine lv_bipush (v := (-2)) hx hb dX4_takeOther_45 (by decide) ?_
        refine lv_goto (tgt := 51) hx hb dX4_takeOther_47 (by decide) ?_
        refine re_i va1_37 hx hb hr hlocks hP2 hD2 hS2 dX4_takeOther_51 ?_
        exact (⟨(if_neg hq9).symm, fun z9 => by rw [show (oqP T n x1 v ps) = tnP T n x1 ps from (if_neg hq9).trans (if_neg hk).symm] at z9 ⊢; exact hv1_37 z9⟩)
    · refine lv_aload_n hx hb dX4_takeOther_23 rfl (lv_at hl0 0 rfl) ?_
      refine va_get (D := D) (ci := 4) (v := .int va) (C := RX4) (T := TX4) (N := 5) hx hb hw iX4 hown hK hP1 0 rfl rfl 4 (by decide) (hw _ kw_1_234) (fun _ h9 => h9) rfl dX4_takeOther_24 ?_
      refine lv_iload_n hx hb dX4_takeOther_27 rfl (lv_at hl0 2 rfl) ?_
      refine lv_icmp_ne (tgt := 35) hx hb dX4_takeOther_28 (by decide) (fun c_28 => ?_) (fun c_28 => ?_)
      · have hb9 : ¬ (isD (bt T n ps) ∧ numV T n ps = v) := fun z9 => c_28 ((hv c_20).trans (congrArg nI z9.2))
        refine lv_aload_n hx hb dX4_takeOther_35 rfl (lv_at hl0 0 rfl) ?_
        refine lv_iload_n hx hb dX4_takeOther_36 rfl (lv_at hl0 1 rfl) ?_
        refine cV_i (wc := [eO cy ee (nI ps) (nI (te T n ps)) (tkn T n ps) va, pO cy ee (nI n), ia cy (ee 2) 120 T]) (wr := []) (rest := []) hx hb hml hown hw hG hK hP1 hD1 hS1 hA hl0 kc_X4_takeNumber kw_3_17 [.int x1] (c_X4_takeNumber l D cy G H1.size ee n T ps va x1 (by first | omega | assumption) (by first | omega | assumption) (by first | omega | assumption) (by first | omega | assumption)) [0, 1, 2] [] rfl rfl rfl rfl rfl 0 rfl rfl rfl rfl rfl (Nat.le_of_ble_eq_true rfl) ⟨Nat.le_of_ble_eq_true rfl, Nat.le_of_ble_eq_true rfl⟩ dX4_takeOther_37 ⟨Nat.le_of_ble_eq_true rfl, Nat.le_of_ble_eq_true rfl⟩ (fun r_37 u9 H2 locs2 hu9 hP2 hD2 hS2 => ?_)
        clear hP1 hD1 hS1 locs1 H1
        obtain ⟨va1_37, rfl⟩ : ∃ z9, z9 = u9 := ⟨_, rfl⟩
        obtain ⟨hr_37, hv1_37⟩ := hu9
        replace hv1_37 : tkn T n (tnP T n x1 ps) = 2 → va1_37 = nI (numV T n (tnP T n x1 ps)) := hv1_37
        replace hP2 : va_P D vwCl ([eO cy ee (nI (tnP T n x1 ps)) (nI (te T n (tnP T n x1 ps))) (tkn T n (tnP T n x1 ps)) va1_37, pO cy ee (nI n), ia cy (ee 2) 120 T]) H2 := hP2
        replace hD2 : va_D (va_A _ sz) ([eO cy ee (nI (tnP T n x1 ps)) (nI (te T n (tnP T n x1 ps))) (tkn T n (tnP T n x1 ps)) va1_37, pO cy ee (nI n), ia cy (ee 2) 120 T]) := hD2
        subst hr_37
        by_cases hk : okN T n ps x1
        · refine tp (show (if okN T n ps x1 then nI (numV T n ps) else -1) = nI (numV T n ps) from if_pos hk) ?_
          have hq9 : otQ T n x1 v ps := Or.inr ⟨hb9, hk⟩
          have hp9 : tnP T n x1 ps = (oqP T n x1 v ps) := (if_pos hk).trans (if_pos hq9).symm
          have hq9 : ([eO cy ee (nI (tnP T n x1 ps)) (nI (te T n (tnP T n x1 ps))) (tkn T n (tnP T n x1 ps)) va1_37, pO cy ee (nI n), ia cy (ee 2) 120 T]) = ([eO cy ee (nI (oqP T n x1 v ps)) (nI (te T n (tnP T n x1 ps))) (tkn T n (tnP T n x1 ps)) va1_37, pO cy ee (nI n), ia cy (ee 2) 120 T]) := congrArg (fun z9 => [eO cy ee z9 (nI (te T n (tnP T n x1 ps))) (tkn T n (tnP T n x1 ps)) va1_37, pO cy ee (nI n), ia cy (ee 2) 120 T]) (show (nI (tnP T n x1 ps)) = (nI (oqP T n x1 v ps)) from congrArg (fun z9 => nI z9) hp9)
          replace hP2 := (congrArg (fun z9 => va_P D vwCl z9 _) hq9).mp hP2
          replace hD2 := (congrArg (fun z9 => va_D _ z9) hq9).mp hD2
          clear hq9
          have hq9 : ([eO cy ee (nI (oqP T n x1 v ps)) (nI (te T n (tnP T n x1 ps))) (tkn T n (tnP T n x1 ps)) va1_37, pO cy ee (nI n), ia cy (ee 2) 120 T]) = ([eO cy ee (nI (oqP T n x1 v ps)) (nI (te T n (oqP T n x1 v ps))) (tkn T n (tnP T n x1 ps)) va1_37, pO cy ee (nI n), ia cy (ee 2) 120 T]) := congrArg (fun z9 => [eO cy ee (nI (oqP T n x1 v ps)) z9 (tkn T n (tnP T n x1 ps)) va1_37, pO cy ee (nI n), ia cy (ee 2) 120 T]) (show (nI (te T n (tnP T n x1 ps))) = (nI (te T n (oqP T n x1 v ps))) from congrArg (fun z9 => nI (te T n z9)) hp9)
          replace hP2 := (congrArg (fun z9 => va_P D vwCl z9 _) hq9).mp hP2
          replace hD2 := (congrArg (fun z9 => va_D _ z9) hq9).mp hD2
          clear hq9
          have hq9 : ([eO cy ee (nI (oqP T n x1 v ps)) (nI (te T n (oqP T n x1 v ps))) (tkn T n (tnP T n x1 ps)) va1_37, pO cy ee (nI n), ia cy (ee 2) 120 T]) = ([eO cy ee (nI (oqP T n x1 v ps)) (nI (te T n (oqP T n x1 v ps))) (tkn T n (oqP T n x1 v ps)) va1_37, pO cy ee (nI n), ia cy (ee 2) 120 T]) := congrArg (fun z9 => [eO cy ee (nI (oqP T n x1 v ps)) (nI (te T n (oqP T n x1 v ps))) z9 va1_37, pO cy ee (nI n), ia cy (ee 2) 120 T]) (show (tkn T n (tnP T n x1 ps)) = (tkn T n (oqP T n x1 v ps)) from congrArg (fun z9 => tkn T n z9) hp9)
          replace hP2 := (congrArg (fun z9 => va_P D vwCl z9 _) hq9).mp hP2
          replace hD2 := (congrArg (fun z9 => va_D _ z9) hq9).mp hD2
          clear hq9
          clear hp9
          refine lv_istore_n (lv' := [(3, .int (nI (numV T n ps))), (0, .ref (ee 0)), (1, .int x1), (2, .int (nI v))]) hx hb dX4_takeOther_40 rfl hl0 (by decide) rfl (fun ls1 hl1 => ?_)
          clear hl0 ls0
          refine lv_iload_n hx hb dX4_takeOther_41 rfl (lv_at hl1 0 rfl) ?_
          refine lv_if_ge (tgt := 50) hx hb dX4_takeOther_42 (by decide) (fun _ => ?_) (fun c => absurd (nI_pos' (by omega)) c)
          refine lv_iload_n hx hb dX4_takeOther_50 rfl (lv_at hl1 0 rfl) ?_
          refine re_i va1_37 hx hb hr hlocks hP2 hD2 hS2 dX4_takeOther_51 ?_
          exact (⟨((if_pos hq9).trans (if_neg c_6)).symm, fun z9 => by rw [show (oqP T n x1 v ps) = tnP T n x1 ps from (if_pos hq9).trans (if_pos hk).symm] at z9 ⊢; exact hv1_37 z9⟩)
        · refine tp (show (if okN T n ps x1 then nI (numV T n ps) else -1) = -1 from if_neg hk) ?_
          have hq9 : ¬ otQ T n x1 v ps := fun z9 => z9.elim c_6 (fun q9 => hk q9.2)
          have hp9 : tnP T n x1 ps = (oqP T n x1 v ps) := (if_neg hk).trans (if_neg hq9).symm
          have hq9 : ([eO cy ee (nI (tnP T n x1 ps)) (nI (te T n (tnP T n x1 ps))) (tkn T n (tnP T n x1 ps)) va1_37, pO cy ee (nI n), ia cy (ee 2) 120 T]) = ([eO cy ee (nI (oqP T n x1 v ps)) (nI (te T n (tnP T n x1 ps))) (tkn T n (tnP T n x1 ps)) va1_37, pO cy ee (nI n), ia cy (ee 2) 120 T]) := congrArg (fun z9 => [eO cy ee z9 (nI (te T n (tnP T n x1 ps))) (tkn T n (tnP T n x1 ps)) va1_37, pO cy ee (nI n), ia cy (ee 2) 120 T]) (show (nI (tnP T n x1 ps)) = (nI (oqP T n x1 v ps)) from congrArg (fun z9 => nI z9) hp9)
          replace hP2 := (congrArg (fun z9 => va_P D vwCl z9 _) hq9).mp hP2
          replace hD2 := (congrArg (fun z9 => va_D _ z9) hq9).mp hD2
          clear hq9
          have hq9 : ([eO cy ee (nI (oqP T n x1 v ps)) (nI (te T n (tnP T n x1 ps))) (tkn T n (tnP T n x1 ps)) va1_37, pO cy ee (nI n), ia cy (ee 2) 120 T]) = ([eO cy ee (nI (oqP T n x1 v ps)) (nI (te T n (oqP T n x1 v ps))) (tkn T n (tnP T n x1 ps)) va1_37, pO cy ee (nI n), ia cy (ee 2) 120 T]) := congrArg (fun z9 => [eO cy ee (nI (oqP T n x1 v ps)) z9 (tkn T n (tnP T n x1 ps)) va1_37, pO cy ee (nI n), ia cy (ee 2) 120 T]) (show (nI (te T n (tnP T n x1 ps))) = (nI (te T n (oqP T n x1 v ps))) from congrArg (fun z9 => nI (te T n z9)) hp9)
          replace hP2 := (congrArg (fun z9 => va_P D vwCl z9 _) hq9).mp hP2
          replace hD2 := (congrArg (fun z9 => va_D _ z9) hq9).mp hD2
          clear hq9
          have hq9 : ([eO cy ee (nI (oqP T n x1 v ps)) (nI (te T n (oqP T n x1 v ps))) (tkn T n (tnP T n x1 ps)) va1_37, pO cy ee (nI n), ia cy (ee 2) 120 T]) = ([eO cy ee (nI (oqP T n x1 v ps)) (nI (te T n (oqP T n x1 v ps))) (tkn T n (oqP T n x1 v ps)) va1_37, pO cy ee (nI n), ia cy (ee 2) 120 T]) := congrArg (fun z9 => [eO cy ee (nI (oqP T n x1 v ps)) (nI (te T n (oqP T n x1 v ps))) z9 va1_37, pO cy ee (nI n), ia cy (ee 2) 120 T]) (show (tkn T n (tnP T n x1 ps)) = (tkn T n (oqP T n x1 v ps)) from congrArg (fun z9 => tkn T n z9) hp9)
          replace hP2 := (congrArg (fun z9 => va_P D vwCl z9 _) hq9).mp hP2
          replace hD2 := (congrArg (fun z9 => va_D _ z9) hq9).mp hD2
          clear hq9
          clear hp9
          refine lv_istore_n (lv' := [(3, .int (-1)), (0, .ref (ee 0)), (1, .int x1), (2, .int (nI v))]) hx hb dX4_takeOther_40 rfl hl0 (by decide) rfl (fun ls1 hl1 => ?_)
          clear hl0 ls0
          refine lv_iload_n hx hb dX4_takeOther_41 rfl (lv_at hl1 0 rfl) ?_
          refine lv_if_ge (tgt := 50) hx hb dX4_takeOther_42 (by decide) (fun c => absurd c (by decide)) (fun _ => ?_)
          refine lv_bipush (v := (-2)) hx hb dX4_takeOther_45 (by decide) ?_
          refine lv_goto (tgt := 51) hx hb dX4_takeOther_47 (by decide) ?_
          refine re_i va1_37 hx hb hr hlocks hP2 hD2 hS2 dX4_takeOther_51 ?_
          exact (⟨(if_neg hq9).symm, fun z9 => by rw [show (oqP T n x1 v ps) = tnP T n x1 ps from (if_neg hq9).trans (if_neg hk).symm] at z9 ⊢; exact hv1_37 z9⟩)
      · have hb9 : isD (bt T n ps) ∧ numV T n ps = v := ⟨tkn_2.mp c_20, (nI_eq (by omega) (by omega)).mp ((hv c_20).symm.trans c_28)⟩
        have hq9 : ¬ otQ T n x1 v ps := fun z9 => z9.elim c_6 (fun q9 => q9.1 hb9)
        have hp9 : ps = (oqP T n x1 v ps) := (if_neg hq9).symm
        have hq9 : ([eO cy ee (nI ps) (nI (te T n ps)) (tkn T n ps) va, pO cy ee (nI n), ia cy (ee 2) 120 T]) = ([eO cy ee (nI (oqP T n x1 v ps)) (nI (te T n ps)) (tkn T n ps) va, pO cy ee (nI n), ia cy (ee 2) 120 T]) := congrArg (fun z9 => [eO cy ee z9 (nI (te T n ps)) (tkn T n ps) va, pO cy ee (nI n), ia cy (ee 2) 120 T]) (show (nI ps) = (nI (oqP T n x1 v ps)) from congrArg (fun z9 => nI z9) hp9)
        replace hP1 := (congrArg (fun z9 => va_P D vwCl z9 _) hq9).mp hP1
        replace hD1 := (congrArg (fun z9 => va_D _ z9) hq9).mp hD1
        clear hq9
        have hq9 : ([eO cy ee (nI (oqP T n x1 v ps)) (nI (te T n ps)) (tkn T n ps) va, pO cy ee (nI n), ia cy (ee 2) 120 T]) = ([eO cy ee (nI (oqP T n x1 v ps)) (nI (te T n (oqP T n x1 v ps))) (tkn T n ps) va, pO cy ee (nI n), ia cy (ee 2) 120 T]) := congrArg (fun z9 => [eO cy ee (nI (oqP T n x1 v ps)) z9 (tkn T n ps) va, pO cy ee (nI n), ia cy (ee 2) 120 T]) (show (nI (te T n ps)) = (nI (te T n (oqP T n x1 v ps))) from congrArg (fun z9 => nI (te T n z9)) hp9)
        replace hP1 := (congrArg (fun z9 => va_P D vwCl z9 _) hq9).mp hP1
        replace hD1 := (congrArg (fun z9 => va_D _ z9) hq9).mp hD1
        clear hq9
        have hq9 : ([eO cy ee (nI (oqP T n x1 v ps)) (nI (te T n (oqP T n x1 v ps))) (tkn T n ps) va, pO cy ee (nI n), ia cy (ee 2) 120 T]) = ([eO cy ee (nI (oqP T n x1 v ps)) (nI (te T n (oqP T n x1 v ps))) (tkn T n (oqP T n x1 v ps)) va, pO cy ee (nI n), ia cy (ee 2) 120 T]) := congrArg (fun z9 => [eO cy ee (nI (oqP T n x1 v ps)) (nI (te T n (oqP T n x1 v ps))) z9 va, pO cy ee (nI n), ia cy (ee 2) 120 T]) (show (tkn T n ps) = (tkn T n (oqP T n x1 v ps)) from congrArg (fun z9 => tkn T n z9) hp9)
        replace hP1 := (congrArg (fun z9 => va_P D vwCl z9 _) hq9).mp hP1
        replace hD1 := (congrArg (fun z9 => va_D _ z9) hq9).mp hD1
        clear hq9
        clear hp9
        refine lv_iconst (v := (-1)) hx hb dX4_takeOther_31 (by decide) ?_
        refine lv_goto (tgt := 40) hx hb dX4_takeOther_32 (by decide) ?_
        refine lv_istore_n (lv' := [(3, .int (-1)), (0, .ref (ee 0)), (1, .int x1), (2, .int (nI v))]) hx hb dX4_takeOther_40 rfl hl0 (by decide) rfl (fun ls1 hl1 => ?_)
        clear hl0 ls0
        refine lv_iload_n hx hb dX4_takeOther_41 rfl (lv_at hl1 0 rfl) ?_
        refine lv_if_ge (tgt := 50) hx hb dX4_takeOther_42 (by decide) (fun c => absurd c (by decide)) (fun _ => ?_)
        refine lv_bipush (v := (-2)) hx hb dX4_takeOther_45 (by decide) ?_
        refine lv_goto (tgt := 51) hx hb dX4_takeOther_47 (by decide) ?_
        refine re_i va hx hb hr hlocks hP1 hD1 hS1 dX4_takeOther_51 ?_
        exact (⟨(if_neg hq9).symm, fun z9 => by rw [show (oqP T n x1 v ps) = ps from if_neg hq9] at z9 ⊢; exact hv z9⟩)
  · refine lv_aload_n hx hb dX4_takeOther_9 rfl (lv_at hl0 0 rfl) ?_
    refine cV_v (wc := [eO cy ee (nI ps) (nI (te T n ps)) (tkn T n ps) va, pO cy ee (nI n), ia cy (ee 2) 120 T]) (wr := []) (rest := []) hx hb hml hown hw hG hK hP1 hD1 hS1 hA hl0 kc_X4_nextToken kw_2_167 [] (c_X4_nextToken l D cy G H1.size ee n T (nI ps) (tkn T n ps) va (te T n ps) (by first | omega | assumption) (by first | omega | assumption) (by first | omega | assumption)) [0, 1, 2] [] rfl rfl rfl rfl rfl 0 rfl rfl rfl rfl rfl (Nat.le_of_ble_eq_true rfl) ⟨Nat.le_of_ble_eq_true rfl, Nat.le_of_ble_eq_true rfl⟩ dX4_takeOther_10 ⟨Nat.le_of_ble_eq_true rfl, Nat.le_of_ble_eq_true rfl⟩ (fun u9 H2 locs2 hu9 hP2 hD2 hS2 => ?_)
    clear hP1 hD1 hS1 locs1 H1
    obtain ⟨va1_10, rfl⟩ : ∃ z9, z9 = u9 := ⟨_, rfl⟩
    have hv_10 := hu9
    replace hv_10 : tkn T n (skp T n (te T n ps)) = 2 → va1_10 = nI (numV T n (skp T n (te T n ps))) := hv_10
    replace hP2 : va_P D vwCl ([eO cy ee (nI (skp T n (te T n ps))) (nI (te T n (skp T n (te T n ps)))) (tkn T n (skp T n (te T n ps))) va1_10, pO cy ee (nI n), ia cy (ee 2) 120 T]) H2 := hP2
    replace hD2 : va_D (va_A _ sz) ([eO cy ee (nI (skp T n (te T n ps))) (nI (te T n (skp T n (te T n ps)))) (tkn T n (skp T n (te T n ps))) va1_10, pO cy ee (nI n), ia cy (ee 2) 120 T]) := hD2
    have hp9 : skp T n (te T n ps) = (nxt T n ps) := rfl
    have hq9 : ([eO cy ee (nI (skp T n (te T n ps))) (nI (te T n (skp T n (te T n ps)))) (tkn T n (skp T n (te T n ps))) va1_10, pO cy ee (nI n), ia cy (ee 2) 120 T]) = ([eO cy ee (nI (nxt T n ps)) (nI (te T n (skp T n (te T n ps)))) (tkn T n (skp T n (te T n ps))) va1_10, pO cy ee (nI n), ia cy (ee 2) 120 T]) := congrArg (fun z9 => [eO cy ee z9 (nI (te T n (skp T n (te T n ps)))) (tkn T n (skp T n (te T n ps))) va1_10, pO cy ee (nI n), ia cy (ee 2) 120 T]) (show (nI (skp T n (te T n ps))) = (nI (nxt T n ps)) from congrArg (fun z9 => nI z9) hp9)
    replace hP2 := (congrArg (fun z9 => va_P D vwCl z9 _) hq9).mp hP2
    replace hD2 := (congrArg (fun z9 => va_D _ z9) hq9).mp hD2
    clear hq9
    have hq9 : ([eO cy ee (nI (nxt T n ps)) (nI (te T n (skp T n (te T n ps)))) (tkn T n (skp T n (te T n ps))) va1_10, pO cy ee (nI n), ia cy (ee 2) 120 T]) = ([eO cy ee (nI (nxt T n ps)) (nI (te T n (nxt T n ps))) (tkn T n (skp T n (te T n ps))) va1_10, pO cy ee (nI n), ia cy (ee 2) 120 T]) := congrArg (fun z9 => [eO cy ee (nI (nxt T n ps)) z9 (tkn T n (skp T n (te T n ps))) va1_10, pO cy ee (nI n), ia cy (ee 2) 120 T]) (show (nI (te T n (skp T n (te T n ps)))) = (nI (te T n (nxt T n ps))) from congrArg (fun z9 => nI (te T n z9)) hp9)
    replace hP2 := (congrArg (fun z9 => va_P D vwCl z9 _) hq9).mp hP2
    replace hD2 := (congrArg (fun z9 => va_D _ z9) hq9).mp hD2
    clear hq9
    have hq9 : ([eO cy ee (nI (nxt T n ps)) (nI (te T n (nxt T n ps))) (tkn T n (skp T n (te T n ps))) va1_10, pO cy ee (nI n), ia cy (ee 2) 120 T]) = ([eO cy ee (nI (nxt T n ps)) (nI (te T n (nxt T n ps))) (tkn T n (nxt T n ps)) va1_10, pO cy ee (nI n), ia cy (ee 2) 120 T]) := congrArg (fun z9 => [eO cy ee (nI (nxt T n ps)) (nI (te T n (nxt T n ps))) z9 va1_10, pO cy ee (nI n), ia cy (ee 2) 120 T]) (show (tkn T n (skp T n (te T n ps))) = (tkn T n (nxt T n ps)) from congrArg (fun z9 => tkn T n z9) hp9)
    replace hP2 := (congrArg (fun z9 => va_P D vwCl z9 _) hq9).mp hP2
    replace hD2 := (congrArg (fun z9 => va_D _ z9) hq9).mp hD2
    clear hq9
    clear hp9
    have hp9 : nxt T n ps = (oqP T n x1 v ps) := (if_pos (Or.inl c_6)).symm
    have hq9 : ([eO cy ee (nI (nxt T n ps)) (nI (te T n (nxt T n ps))) (tkn T n (nxt T n ps)) va1_10, pO cy ee (nI n), ia cy (ee 2) 120 T]) = ([eO cy ee (nI (oqP T n x1 v ps)) (nI (te T n (nxt T n ps))) (tkn T n (nxt T n ps)) va1_10, pO cy ee (nI n), ia cy (ee 2) 120 T]) := congrArg (fun z9 => [eO cy ee z9 (nI (te T n (nxt T n ps))) (tkn T n (nxt T n ps)) va1_10, pO cy ee (nI n), ia cy (ee 2) 120 T]) (show (nI (nxt T n ps)) = (nI (oqP T n x1 v ps)) from congrArg (fun z9 => nI z9) hp9)
    replace hP2 := (congrArg (fun z9 => va_P D vwCl z9 _) hq9).mp hP2
    replace hD2 := (congrArg (fun z9 => va_D _ z9) hq9).mp hD2
    clear hq9
    have hq9 : ([eO cy ee (nI (oqP T n x1 v ps)) (nI (te T n (nxt T n ps))) (tkn T n (nxt T n ps)) va1_10, pO cy ee (nI n), ia cy (ee 2) 120 T]) = ([eO cy ee (nI (oqP T n x1 v ps)) (nI (te T n (oqP T n x1 v ps))) (tkn T n (nxt T n ps)) va1_10, pO cy ee (nI n), ia cy (ee 2) 120 T]) := congrArg (fun z9 => [eO cy ee (nI (oqP T n x1 v ps)) z9 (tkn T n (nxt T n ps)) va1_10, pO cy ee (nI n), ia cy (ee 2) 120 T]) (show (nI (te T n (nxt T n ps))) = (nI (te T n (oqP T n x1 v ps))) from congrArg (fun z9 => nI (te T n z9)) hp9)
    replace hP2 := (congrArg (fun z9 => va_P D vwCl z9 _) hq9).mp hP2
    replace hD2 := (congrArg (fun z9 => va_D _ z9) hq9).mp hD2
    clear hq9
    have hq9 : ([eO cy ee (nI (oqP T n x1 v ps)) (nI (te T n (oqP T n x1 v ps))) (tkn T n (nxt T n ps)) va1_10, pO cy ee (nI n), ia cy (ee 2) 120 T]) = ([eO cy ee (nI (oqP T n x1 v ps)) (nI (te T n (oqP T n x1 v ps))) (tkn T n (oqP T n x1 v ps)) va1_10, pO cy ee (nI n), ia cy (ee 2) 120 T]) := congrArg (fun z9 => [eO cy ee (nI (oqP T n x1 v ps)) (nI (te T n (oqP T n x1 v ps))) z9 va1_10, pO cy ee (nI n), ia cy (ee 2) 120 T]) (show (tkn T n (nxt T n ps)) = (tkn T n (oqP T n x1 v ps)) from congrArg (fun z9 => tkn T n z9) hp9)
    replace hP2 := (congrArg (fun z9 => va_P D vwCl z9 _) hq9).mp hP2
    replace hD2 := (congrArg (fun z9 => va_D _ z9) hq9).mp hD2
    clear hq9
    clear hp9
    refine lv_iconst (v := (-1)) hx hb dX4_takeOther_13 (by decide) ?_
    refine re_i va1_10 hx hb hr hlocks hP2 hD2 hS2 dX4_takeOther_14 ?_
    exact (⟨((if_pos (Or.inl c_6)).trans (if_pos c_6)).symm, fun z9 => by rw [show (oqP T n x1 v ps) = nxt T n ps from if_pos (Or.inl c_6)] at z9 ⊢; exact hv_10 z9⟩)

theorem kc_X4_kindTold : kV yX4_kindTold cX4_kindTold 1 (some .int) 0 := ⟨kw_3_5, kw_s_7, kw_1_5, kw_3_6, by decide, by decide, by decide +kernel⟩
set_option maxHeartbeats 4000000 in
set_option maxRecDepth 100000 in
theorem c_X4_kindTold (l : Launch) (D : va_G) (cy : Nat → ClassId) (G : Nat → Nat) (sz : Nat) (ee : Nat → Nat) (n : Nat) (T : Nat → Int32) (ps : Nat) (va : Int32) (hn : n ≤ 120) (hs : ps ≤ n) : Met l yX4_kindTold (wm yX4_kindTold cX4_kindTold 1 (some .int)) { frames := 6, cells := 0, slots := 0, locals := 128 } (va_Pc [.ref (ee 0)] (pd D (TY cy) G ([eO cy ee (nI ps) (nI (te T n ps)) (tkn T n ps) va, pO cy ee (nI n), ia cy (ee 2) 120 T]) sz)) (va_Qi (fun r (_ : Unit) => r = knd T n ps) (fun _ _ => True) (va_A [] sz)) 0 0 (va_A [] sz) := by
  refine mk_rd (by decide) RX4 rfl (Nat.le_of_ble_eq_true rfl) [(0, .ref (ee 0))] rfl ?_
  intro p e s m below meth c hx hb hml hown hr hlocks hw hsz hA hG hK H0 locs0 hP0 hS0 ls0 hl0
  refine lv_aload_n hx hb dX4_kindTold_0 rfl (lv_at hl0 0 rfl) ?_
  refine va_ldcS hx hb hown (hG.2.2.2.1 1 (by decide)) dX4_kindTold_1 ?_
  refine rV_i (wc := [eO cy ee (nI ps) (nI (te T n ps)) (tkn T n ps) va, pO cy ee (nI n), ia cy (ee 2) 120 T]) (rest := []) hx hb hml hown hw hG hK hP0 hS0 hA hl0 kc_X4_isWord kw_2_186 [.ref (G (10 + 1))] (c_X4_isWord l D cy G H0.size ee n T ps va 1 (by first | omega | assumption) (by first | omega | assumption) (by first | omega | assumption)) [0, 1, 2] rfl 0 rfl rfl rfl rfl rfl (Nat.le_of_ble_eq_true rfl) ⟨Nat.le_of_ble_eq_true rfl, Nat.le_of_ble_eq_true rfl⟩ dX4_kindTold_3 ⟨Nat.le_of_ble_eq_true rfl, Nat.le_of_ble_eq_true rfl⟩ (fun r_3 H1 locs1 hr_3 hP1 hS1 => ?_)
  clear hP0 hS0 locs0 H0
  subst hr_3
  refine lb_eq (tgt := 11) hx hb dX4_kindTold_6 (by decide) (fun c_6 => ?_) (fun c_6 => ?_)
  · refine lv_aload_n hx hb dX4_kindTold_11 rfl (lv_at hl0 0 rfl) ?_
    refine va_ldcS hx hb hown (hG.2.2.2.1 2 (by decide)) dX4_kindTold_12 ?_
    refine rV_i (wc := [eO cy ee (nI ps) (nI (te T n ps)) (tkn T n ps) va, pO cy ee (nI n), ia cy (ee 2) 120 T]) (rest := []) hx hb hml hown hw hG hK hP1 hS1 hA hl0 kc_X4_isWord kw_2_186 [.ref (G (10 + 2))] (c_X4_isWord l D cy G H1.size ee n T ps va 2 (by first | omega | assumption) (by first | omega | assumption) (by first | omega | assumption)) [0, 1, 2] rfl 0 rfl rfl rfl rfl rfl (Nat.le_of_ble_eq_true rfl) ⟨Nat.le_of_ble_eq_true rfl, Nat.le_of_ble_eq_true rfl⟩ dX4_kindTold_14 ⟨Nat.le_of_ble_eq_true rfl, Nat.le_of_ble_eq_true rfl⟩ (fun r_14 H2 locs2 hr_14 hP2 hS2 => ?_)
    clear hP1 hS1 locs1 H1
    subst hr_14
    refine lb_eq (tgt := 22) hx hb dX4_kindTold_17 (by decide) (fun c_17 => ?_) (fun c_17 => ?_)
    · refine lv_aload_n hx hb dX4_kindTold_22 rfl (lv_at hl0 0 rfl) ?_
      refine va_ldcS hx hb hown (hG.2.2.2.1 3 (by decide)) dX4_kindTold_23 ?_
      refine rV_i (wc := [eO cy ee (nI ps) (nI (te T n ps)) (tkn T n ps) va, pO cy ee (nI n), ia cy (ee 2) 120 T]) (rest := []) hx hb hml hown hw hG hK hP2 hS2 hA hl0 kc_X4_isWord kw_2_186 [.ref (G (10 + 3))] (c_X4_isWord l D cy G H2.size ee n T ps va 3 (by first | omega | assumption) (by first | omega | assumption) (by first | omega | assumption)) [0, 1, 2] rfl 0 rfl rfl rfl rfl rfl (Nat.le_of_ble_eq_true rfl) ⟨Nat.le_of_ble_eq_true rfl, Nat.le_of_ble_eq_true rfl⟩ dX4_kindTold_25 ⟨Nat.le_of_ble_eq_true rfl, Nat.le_of_ble_eq_true rfl⟩ (fun r_25 H3 locs3 hr_25 hP3 hS3 => ?_)
      clear hP2 hS2 locs2 H2
      subst hr_25
      refine lb_eq (tgt := 33) hx hb dX4_kindTold_28 (by decide) (fun c_28 => ?_) (fun c_28 => ?_)
      · refine lv_aload_n hx hb dX4_kindTold_33 rfl (lv_at hl0 0 rfl) ?_
        refine va_ldcS hx hb hown (hG.2.2.2.1 4 (by decide)) dX4_kindTold_34 ?_
        refine rV_i (wc := [eO cy ee (nI ps) (nI (te T n ps)) (tkn T n ps) va, pO cy ee (nI n), ia cy (ee 2) 120 T]) (rest := []) hx hb hml hown hw hG hK hP3 hS3 hA hl0 kc_X4_isWord kw_2_186 [.ref (G (10 + 4))] (c_X4_isWord l D cy G H3.size ee n T ps va 4 (by first | omega | assumption) (by first | omega | assumption) (by first | omega | assumption)) [0, 1, 2] rfl 0 rfl rfl rfl rfl rfl (Nat.le_of_ble_eq_true rfl) ⟨Nat.le_of_ble_eq_true rfl, Nat.le_of_ble_eq_true rfl⟩ dX4_kindTold_36 ⟨Nat.le_of_ble_eq_true rfl, Nat.le_of_ble_eq_true rfl⟩ (fun r_36 H4 locs4 hr_36 hP4 hS4 => ?_)
        clear hP3 hS3 locs3 H3
        subst hr_36
        refine lb_eq (tgt := 44) hx hb dX4_kindTold_39 (by decide) (fun c_39 => ?_) (fun c_39 => ?_)
        · refine lv_aload_n hx hb dX4_kindTold_44 rfl (lv_at hl0 0 rfl) ?_
          refine va_ldcS hx hb hown (hG.2.2.2.1 5 (by decide)) dX4_kindTold_45 ?_
          refine rV_i (wc := [eO cy ee (nI ps) (nI (te T n ps)) (tkn T n ps) va, pO cy ee (nI n), ia cy (ee 2) 120 T]) (rest := []) hx hb hml hown hw hG hK hP4 hS4 hA hl0 kc_X4_isWord kw_2_186 [.ref (G (10 + 5))] (c_X4_isWord l D cy G H4.size ee n T ps va 5 (by first | omega | assumption) (by first | omega | assumption) (by first | omega | assumption)) [0, 1, 2] rfl 0 rfl rfl rfl rfl rfl (Nat.le_of_ble_eq_true rfl) ⟨Nat.le_of_ble_eq_true rfl, Nat.le_of_ble_eq_true rfl⟩ dX4_kindTold_47 ⟨Nat.le_of_ble_eq_true rfl, Nat.le_of_ble_eq_true rfl⟩ (fun r_47 H5 locs5 hr_47 hP5 hS5 => ?_)
          clear hP4 hS4 locs4 H4
          subst hr_47
          refine lb_eq (tgt := 55) hx hb dX4_kindTold_50 (by decide) (fun c_50 => ?_) (fun c_50 => ?_)
          · refine lv_aload_n hx hb dX4_kindTold_55 rfl (lv_at hl0 0 rfl) ?_
            refine va_ldcS hx hb hown (hG.2.2.2.1 6 (by decide)) dX4_kindTold_56 ?_
            refine rV_i (wc := [eO cy ee (nI ps) (nI (te T n ps)) (tkn T n ps) va, pO cy ee (nI n), ia cy (ee 2) 120 T]) (rest := []) hx hb hml hown hw hG hK hP5 hS5 hA hl0 kc_X4_isWord kw_2_186 [.ref (G (10 + 6))] (c_X4_isWord l D cy G H5.size ee n T ps va 6 (by first | omega | assumption) (by first | omega | assumption) (by first | omega | assumption)) [0, 1, 2] rfl 0 rfl rfl rfl rfl rfl (Nat.le_of_ble_eq_true rfl) ⟨Nat.le_of_ble_eq_true rfl, Nat.le_of_ble_eq_true rfl⟩ dX4_kindTold_58 ⟨Nat.le_of_ble_eq_true rfl, Nat.le_of_ble_eq_true rfl⟩ (fun r_58 H6 locs6 hr_58 hP6 hS6 => ?_)
            clear hP5 hS5 locs5 H5
            subst hr_58
            refine lb_eq (tgt := 68) hx hb dX4_kindTold_61 (by decide) (fun c_61 => ?_) (fun c_61 => ?_)
            · refine lv_iconst (v := (-1)) hx hb dX4_kindTold_68 (by decide) ?_
              exact rd_i hx hb hr hlocks hS6 dX4_kindTold_69 (by clear hx hb hml hown hr hlocks hw hsz hA hG hK hP6 hS6 hl0; simp only [knd, c_6, c_17, c_28, c_39, c_50, c_61, if_pos, if_neg, not_false_eq_true, if_true, if_false] <;> simp_all [knd])
            · refine lv_iconst (v := 5) hx hb dX4_kindTold_64 (by decide) ?_
              refine lv_goto (tgt := 69) hx hb dX4_kindTold_65 (by decide) ?_
              exact rd_i hx hb hr hlocks hS6 dX4_kindTold_69 (by clear hx hb hml hown hr hlocks hw hsz hA hG hK hP6 hS6 hl0; simp only [knd, c_6, c_17, c_28, c_39, c_50, c_61, if_pos, if_neg, not_false_eq_true, if_true, if_false] <;> simp_all [knd])
          · refine lv_iconst (v := 4) hx hb dX4_kindTold_53 (by decide) ?_
            exact rd_i hx hb hr hlocks hS5 dX4_kindTold_54 (by clear hx hb hml hown hr hlocks hw hsz hA hG hK hP5 hS5 hl0; simp only [knd, c_6, c_17, c_28, c_39, c_50, if_pos, if_neg, not_false_eq_true, if_true, if_false] <;> simp_all [knd])
        · refine lv_iconst (v := 3) hx hb dX4_kindTold_42 (by decide) ?_
          exact rd_i hx hb hr hlocks hS4 dX4_kindTold_43 (by clear hx hb hml hown hr hlocks hw hsz hA hG hK hP4 hS4 hl0; simp only [knd, c_6, c_17, c_28, c_39, if_pos, if_neg, not_false_eq_true, if_true, if_false] <;> simp_all [knd])
      · refine lv_iconst (v := 2) hx hb dX4_kindTold_31 (by decide) ?_
        exact rd_i hx hb hr hlocks hS3 dX4_kindTold_32 (by clear hx hb hml hown hr hlocks hw hsz hA hG hK hP3 hS3 hl0; simp only [knd, c_6, c_17, c_28, if_pos, if_neg, not_false_eq_true, if_true, if_false] <;> simp_all [knd])
    · refine lv_iconst (v := 1) hx hb dX4_kindTold_20 (by decide) ?_
      exact rd_i hx hb hr hlocks hS2 dX4_kindTold_21 (by clear hx hb hml hown hr hlocks hw hsz hA hG hK hP2 hS2 hl0; simp only [knd, c_6, c_17, if_pos, if_neg, not_false_eq_true, if_true, if_false] <;> simp_all [knd])
  · refine lv_iconst (v := 0) hx hb dX4_kindTold_9 (by decide) ?_
    exact rd_i hx hb hr hlocks hS1 dX4_kindTold_10 (by clear hx hb hml hown hr hlocks hw hsz hA hG hK hP1 hS1 hl0; simp only [knd, c_6, if_pos, if_neg, not_false_eq_true, if_true, if_false] <;> simp_all [knd])

theorem kc_X4_partTold : kV yX4_partTold cX4_partTold 1 (some .int) 0 := ⟨kw_3_37, kw_s_12, kw_1_5, kw_3_38, by decide, by decide, by decide +kernel⟩
set_option maxHeartbeats 4000000 in
set_option maxRecDepth 100000 in
theorem c_X4_partTold (l : Launch) (D : va_G) (cy : Nat → ClassId) (G : Nat → Nat) (sz : Nat) (ee : Nat → Nat) (n : Nat) (T : Nat → Int32) (ps : Nat) (va : Int32) (hn : n ≤ 120) (hs : ps ≤ n) : Met l yX4_partTold (wm yX4_partTold cX4_partTold 1 (some .int)) { frames := 6, cells := 0, slots := 0, locals := 128 } (va_Pc [.ref (ee 0)] (pd D (TY cy) G ([eO cy ee (nI ps) (nI (te T n ps)) (tkn T n ps) va, pO cy ee (nI n), ia cy (ee 2) 120 T]) sz)) (va_Qi (fun r (_ : Unit) => r = prt T n ps) (fun _ _ => True) (va_A [] sz)) 0 0 (va_A [] sz) := by
  refine mk_rd (by decide) RX4 rfl (Nat.le_of_ble_eq_true rfl) [(0, .ref (ee 0))] rfl ?_
  intro p e s m below meth c hx hb hml hown hr hlocks hw hsz hA hG hK H0 locs0 hP0 hS0 ls0 hl0
  refine lv_aload_n hx hb dX4_partTold_0 rfl (lv_at hl0 0 rfl) ?_
  refine va_ldcS hx hb hown (hG.2.2.2.1 11 (by decide)) dX4_partTold_1 ?_
  refine rV_i (wc := [eO cy ee (nI ps) (nI (te T n ps)) (tkn T n ps) va, pO cy ee (nI n), ia cy (ee 2) 120 T]) (rest := []) hx hb hml hown hw hG hK hP0 hS0 hA hl0 kc_X4_isWord kw_2_186 [.ref (G (10 + 11))] (c_X4_isWord l D cy G H0.size ee n T ps va 11 (by first | omega | assumption) (by first | omega | assumption) (by first | omega | assumption)) [0, 1, 2] rfl 0 rfl rfl rfl rfl rfl (Nat.le_of_ble_eq_true rfl) ⟨Nat.le_of_ble_eq_true rfl, Nat.le_of_ble_eq_true rfl⟩ dX4_partTold_3 ⟨Nat.le_of_ble_eq_true rfl, Nat.le_of_ble_eq_true rfl⟩ (fun r_3 H1 locs1 hr_3 hP1 hS1 => ?_)
  clear hP0 hS0 locs0 H0
  subst hr_3
  refine lb_eq (tgt := 11) hx hb dX4_partTold_6 (by decide) (fun c_6 => ?_) (fun c_6 => ?_)
  · refine lv_aload_n hx hb dX4_partTold_11 rfl (lv_at hl0 0 rfl) ?_
    refine va_ldcS hx hb hown (hG.2.2.2.1 12 (by decide)) dX4_partTold_12 ?_
    refine rV_i (wc := [eO cy ee (nI ps) (nI (te T n ps)) (tkn T n ps) va, pO cy ee (nI n), ia cy (ee 2) 120 T]) (rest := []) hx hb hml hown hw hG hK hP1 hS1 hA hl0 kc_X4_isWord kw_2_186 [.ref (G (10 + 12))] (c_X4_isWord l D cy G H1.size ee n T ps va 12 (by first | omega | assumption) (by first | omega | assumption) (by first | omega | assumption)) [0, 1, 2] rfl 0 rfl rfl rfl rfl rfl (Nat.le_of_ble_eq_true rfl) ⟨Nat.le_of_ble_eq_true rfl, Nat.le_of_ble_eq_true rfl⟩ dX4_partTold_14 ⟨Nat.le_of_ble_eq_true rfl, Nat.le_of_ble_eq_true rfl⟩ (fun r_14 H2 locs2 hr_14 hP2 hS2 => ?_)
    clear hP1 hS1 locs1 H1
    subst hr_14
    refine lb_eq (tgt := 22) hx hb dX4_partTold_17 (by decide) (fun c_17 => ?_) (fun c_17 => ?_)
    · refine lv_aload_n hx hb dX4_partTold_22 rfl (lv_at hl0 0 rfl) ?_
      refine va_ldcS hx hb hown (hG.2.2.2.1 13 (by decide)) dX4_partTold_23 ?_
      refine rV_i (wc := [eO cy ee (nI ps) (nI (te T n ps)) (tkn T n ps) va, pO cy ee (nI n), ia cy (ee 2) 120 T]) (rest := []) hx hb hml hown hw hG hK hP2 hS2 hA hl0 kc_X4_isWord kw_2_186 [.ref (G (10 + 13))] (c_X4_isWord l D cy G H2.size ee n T ps va 13 (by first | omega | assumption) (by first | omega | assumption) (by first | omega | assumption)) [0, 1, 2] rfl 0 rfl rfl rfl rfl rfl (Nat.le_of_ble_eq_true rfl) ⟨Nat.le_of_ble_eq_true rfl, Nat.le_of_ble_eq_true rfl⟩ dX4_partTold_25 ⟨Nat.le_of_ble_eq_true rfl, Nat.le_of_ble_eq_true rfl⟩ (fun r_25 H3 locs3 hr_25 hP3 hS3 => ?_)
      clear hP2 hS2 locs2 H2
      subst hr_25
      refine lb_eq (tgt := 35) hx hb dX4_partTold_28 (by decide) (fun c_28 => ?_) (fun c_28 => ?_)
      · refine lv_iconst (v := (-1)) hx hb dX4_partTold_35 (by decide) ?_
        exact rd_i hx hb hr hlocks hS3 dX4_partTold_36 (by clear hx hb hml hown hr hlocks hw hsz hA hG hK hP3 hS3 hl0; simp only [prt, c_6, c_17, c_28, if_pos, if_neg, not_false_eq_true, if_true, if_false] <;> simp_all [prt])
      · refine lv_iconst (v := 4) hx hb dX4_partTold_31 (by decide) ?_
        refine lv_goto (tgt := 36) hx hb dX4_partTold_32 (by decide) ?_
        exact rd_i hx hb hr hlocks hS3 dX4_partTold_36 (by clear hx hb hml hown hr hlocks hw hsz hA hG hK hP3 hS3 hl0; simp only [prt, c_6, c_17, c_28, if_pos, if_neg, not_false_eq_true, if_true, if_false] <;> simp_all [prt])
    · refine lv_iconst (v := 1) hx hb dX4_partTold_20 (by decide) ?_
      exact rd_i hx hb hr hlocks hS2 dX4_partTold_21 (by clear hx hb hml hown hr hlocks hw hsz hA hG hK hP2 hS2 hl0; simp only [prt, c_6, c_17, if_pos, if_neg, not_false_eq_true, if_true, if_false] <;> simp_all [prt])
  · refine lv_iconst (v := 0) hx hb dX4_partTold_9 (by decide) ?_
    exact rd_i hx hb hr hlocks hS1 dX4_partTold_10 (by clear hx hb hml hown hr hlocks hw hsz hA hG hK hP1 hS1 hl0; simp only [prt, c_6, if_pos, if_neg, not_false_eq_true, if_true, if_false] <;> simp_all [prt])

theorem kc_X4_tellRoom : kV yX4_tellRoom cX4_tellRoom 2 (some .boolean) 1 := ⟨kw_3_0, kw_s_6, kw_1_5, kw_3_1, by decide, by decide, by decide +kernel⟩
set_option maxHeartbeats 4000000 in
set_option maxRecDepth 100000 in
theorem c_X4_tellRoom (l : Launch) (D : va_G) (cy : Nat → ClassId) (G : Nat → Nat) (sz : Nat) (ee : Nat → Nat) (n : Nat) (T : Nat → Int32) (ps : Nat) (va : Int32) (dd : Nat → Nat) (X : Nat → Int32) (wf : wf X) (hn : n ≤ 120) (hs : ps ≤ n) (hv : tkn T n ps = 2 → va = nI (numV T n ps)) (htp : tpOk T n) : Met l yX4_tellRoom (wm yX4_tellRoom cX4_tellRoom 2 (some .boolean)) { frames := 2, cells := 0, slots := 0, locals := 42 } (va_Pc [.ref (ee 0), .ref (dd 0)] (pr D (TY cy) G ([eO cy ee (nI ps) (nI (te T n ps)) (tkn T n ps) va, pO cy ee (nI n), ia cy (ee 2) 120 T] ++ (pS cy dd X)) sz)) (va_Qi (fun (r : Int32) (u : Int32) => (r = b2i (rcN X < 6)) ∧ (tkn T n (rmP T n X ps) = 2 → u = nI (numV T n (rmP T n X ps)))) (fun (u : Int32) t => po D (va_A ([eO cy ee (nI ps) (nI (te T n ps)) (tkn T n ps) va, pO cy ee (nI n), ia cy (ee 2) 120 T] ++ (pS cy dd X)) sz) ([eO cy ee (nI (rmP T n X ps)) (nI (te T n (rmP T n X ps))) (tkn T n (rmP T n X ps)) u, pO cy ee (nI n), ia cy (ee 2) 120 T] ++ (pS cy dd (rmS X))) t) (va_A ([eO cy ee (nI ps) (nI (te T n ps)) (tkn T n ps) va, pO cy ee (nI n), ia cy (ee 2) 120 T] ++ (pS cy dd X)) sz)) 0 0 (va_A ([eO cy ee (nI ps) (nI (te T n ps)) (tkn T n ps) va, pO cy ee (nI n), ia cy (ee 2) 120 T] ++ (pS cy dd X)) sz) := by
  refine mk_rw (by decide) RX4 rfl (Nat.le_of_ble_eq_true rfl) [(0, .ref (ee 0)), (1, .ref (dd 0))] rfl ?_
  intro p e s m below meth c hx hb hml hown hr hlocks hin hw hsz hA hG hK H0 locs0 hP0 hD0 hS0 ls0 hl0
  clear hin
  have hte := te_b (T := T) hs
  have hnx := nxt_b (T := T) hs
  have hnx2 := nxt_b (T := T) hnx.2
  have hnx3 := nxt_b (T := T) hnx2.2
  have hr6 := wf_r6 wf
  refine lv_aload_n hx hb dX4_tellRoom_0 rfl (lv_at hl0 1 rfl) ?_
  refine va_get (D := D) (ci := 1) (v := .int (X 0)) (C := RX1) (T := TX1) (N := 12) hx hb hw iX1 hown hK hP0 3 rfl rfl 0 (by decide) (hw _ kw_1_33) (fun _ h9 => h9) rfl dX4_tellRoom_1 ?_
  refine tp (show (X 0) = nI (rcN X) from wf_r wf) ?_
  refine lv_bipush (v := 6) hx hb dX4_tellRoom_4 (by decide) ?_
  refine ln_lt (tgt := 11) (rcN X) 6 rfl rfl (by omega) (by omega) hx hb dX4_tellRoom_6 (by decide) (fun c_6 => ?_) (fun c_6 => ?_)
  · refine lv_aload_n hx hb dX4_tellRoom_11 rfl (lv_at hl0 1 rfl) ?_
    refine cV_v (wc := pS cy dd X) (wr := [eO cy ee (nI ps) (nI (te T n ps)) (tkn T n ps) va, pO cy ee (nI n), ia cy (ee 2) 120 T]) (rest := []) hx hb hml hown hw hG hK hP0 hD0 hS0 hA hl0 kc_X1_addRoom kw_3_2 [] (c_X1_addRoom l D cy G H0.size dd X (rcN X) (wf_r wf) (by first | omega | assumption)) [3, 4, 5, 6, 7, 8, 9, 10, 11, 12] [0, 1, 2] rfl rfl rfl rfl rfl 0 rfl rfl rfl rfl rfl (Nat.le_of_ble_eq_true rfl) ⟨Nat.le_of_ble_eq_true rfl, Nat.le_of_ble_eq_true rfl⟩ dX4_tellRoom_12 ⟨Nat.le_of_ble_eq_true rfl, Nat.le_of_ble_eq_true rfl⟩ (fun u9 H1 locs1 hu9 hP1 hD1 hS1 => ?_)
    clear hP0 hD0 hS0 locs0 H0
    replace hP1 : va_P D vwCl ([eO cy ee (nI ps) (nI (te T n ps)) (tkn T n ps) va, pO cy ee (nI n), ia cy (ee 2) 120 T] ++ (pS cy dd (upd X 0 (nI ((rcN X) + 1))))) H1 := hP1
    replace hD1 : va_D (va_A _ sz) ([eO cy ee (nI ps) (nI (te T n ps)) (tkn T n ps) va, pO cy ee (nI n), ia cy (ee 2) 120 T] ++ (pS cy dd (upd X 0 (nI ((rcN X) + 1))))) := hD1
    refine lv_aload_n hx hb dX4_tellRoom_15 rfl (lv_at hl0 0 rfl) ?_
    refine cV_v (wc := [eO cy ee (nI ps) (nI (te T n ps)) (tkn T n ps) va, pO cy ee (nI n), ia cy (ee 2) 120 T]) (wr := pS cy dd (upd X 0 (nI ((rcN X) + 1)))) (rest := []) hx hb hml hown hw hG hK hP1 hD1 hS1 hA hl0 kc_X4_nextToken kw_2_167 [] (c_X4_nextToken l D cy G H1.size ee n T (nI ps) (tkn T n ps) va (te T n ps) (by first | omega | assumption) (by first | omega | assumption) (by first | omega | assumption)) [0, 1, 2] [3, 4, 5, 6, 7, 8, 9, 10, 11, 12] rfl rfl rfl rfl rfl 0 rfl rfl rfl rfl rfl (Nat.le_of_ble_eq_true rfl) ⟨Nat.le_of_ble_eq_true rfl, Nat.le_of_ble_eq_true rfl⟩ dX4_tellRoom_16 ⟨Nat.le_of_ble_eq_true rfl, Nat.le_of_ble_eq_true rfl⟩ (fun u9 H2 locs2 hu9 hP2 hD2 hS2 => ?_)
    clear hP1 hD1 hS1 locs1 H1
    obtain ⟨va1_16, rfl⟩ : ∃ z9, z9 = u9 := ⟨_, rfl⟩
    have hv_16 := hu9
    replace hv_16 : tkn T n (skp T n (te T n ps)) = 2 → va1_16 = nI (numV T n (skp T n (te T n ps))) := hv_16
    replace hP2 : va_P D vwCl (pS cy dd (upd X 0 (nI ((rcN X) + 1))) ++ ([eO cy ee (nI (skp T n (te T n ps))) (nI (te T n (skp T n (te T n ps)))) (tkn T n (skp T n (te T n ps))) va1_16, pO cy ee (nI n), ia cy (ee 2) 120 T])) H2 := hP2
    replace hD2 : va_D (va_A _ sz) (pS cy dd (upd X 0 (nI ((rcN X) + 1))) ++ ([eO cy ee (nI (skp T n (te T n ps))) (nI (te T n (skp T n (te T n ps)))) (tkn T n (skp T n (te T n ps))) va1_16, pO cy ee (nI n), ia cy (ee 2) 120 T])) := hD2
    replace hP2 := hP2.sub (ws' := [eO cy ee (nI (skp T n (te T n ps))) (nI (te T n (skp T n (te T n ps)))) (tkn T n (skp T n (te T n ps))) va1_16, pO cy ee (nI n), ia cy (ee 2) 120 T] ++ (pS cy dd (upd X 0 (nI ((rcN X) + 1))))) [10, 11, 12, 0, 1, 2, 3, 4, 5, 6, 7, 8, 9] rfl
    replace hD2 := hD2.sub (ws' := [eO cy ee (nI (skp T n (te T n ps))) (nI (te T n (skp T n (te T n ps)))) (tkn T n (skp T n (te T n ps))) va1_16, pO cy ee (nI n), ia cy (ee 2) 120 T] ++ (pS cy dd (upd X 0 (nI ((rcN X) + 1))))) [10, 11, 12, 0, 1, 2, 3, 4, 5, 6, 7, 8, 9] (by decide) rfl
    have hp9 : skp T n (te T n ps) = (rmP T n X ps) := (if_pos c_6).symm
    have hq9 : ([eO cy ee (nI (skp T n (te T n ps))) (nI (te T n (skp T n (te T n ps)))) (tkn T n (skp T n (te T n ps))) va1_16, pO cy ee (nI n), ia cy (ee 2) 120 T] ++ (pS cy dd (upd X 0 (nI ((rcN X) + 1))))) = ([eO cy ee (nI (rmP T n X ps)) (nI (te T n (skp T n (te T n ps)))) (tkn T n (skp T n (te T n ps))) va1_16, pO cy ee (nI n), ia cy (ee 2) 120 T] ++ (pS cy dd (upd X 0 (nI ((rcN X) + 1))))) := congrArg (fun z9 => [eO cy ee z9 (nI (te T n (skp T n (te T n ps)))) (tkn T n (skp T n (te T n ps))) va1_16, pO cy ee (nI n), ia cy (ee 2) 120 T] ++ (pS cy dd (upd X 0 (nI ((rcN X) + 1))))) (show (nI (skp T n (te T n ps))) = (nI (rmP T n X ps)) from congrArg (fun z9 => nI z9) hp9)
    replace hP2 := (congrArg (fun z9 => va_P D vwCl z9 _) hq9).mp hP2
    replace hD2 := (congrArg (fun z9 => va_D _ z9) hq9).mp hD2
    clear hq9
    have hq9 : ([eO cy ee (nI (rmP T n X ps)) (nI (te T n (skp T n (te T n ps)))) (tkn T n (skp T n (te T n ps))) va1_16, pO cy ee (nI n), ia cy (ee 2) 120 T] ++ (pS cy dd (upd X 0 (nI ((rcN X) + 1))))) = ([eO cy ee (nI (rmP T n X ps)) (nI (te T n (rmP T n X ps))) (tkn T n (skp T n (te T n ps))) va1_16, pO cy ee (nI n), ia cy (ee 2) 120 T] ++ (pS cy dd (upd X 0 (nI ((rcN X) + 1))))) := congrArg (fun z9 => [eO cy ee (nI (rmP T n X ps)) z9 (tkn T n (skp T n (te T n ps))) va1_16, pO cy ee (nI n), ia cy (ee 2) 120 T] ++ (pS cy dd (upd X 0 (nI ((rcN X) + 1))))) (show (nI (te T n (skp T n (te T n ps)))) = (nI (te T n (rmP T n X ps))) from congrArg (fun z9 => nI (te T n z9)) hp9)
    replace hP2 := (congrArg (fun z9 => va_P D vwCl z9 _) hq9).mp hP2
    replace hD2 := (congrArg (fun z9 => va_D _ z9) hq9).mp hD2
    clear hq9
    have hq9 : ([eO cy ee (nI (rmP T n X ps)) (nI (te T n (rmP T n X ps))) (tkn T n (skp T n (te T n ps))) va1_16, pO cy ee (nI n), ia cy (ee 2) 120 T] ++ (pS cy dd (upd X 0 (nI ((rcN X) + 1))))) = ([eO cy ee (nI (rmP T n X ps)) (nI (te T n (rmP T n X ps))) (tkn T n (rmP T n X ps)) va1_16, pO cy ee (nI n), ia cy (ee 2) 120 T] ++ (pS cy dd (upd X 0 (nI ((rcN X) + 1))))) := congrArg (fun z9 => [eO cy ee (nI (rmP T n X ps)) (nI (te T n (rmP T n X ps))) z9 va1_16, pO cy ee (nI n), ia cy (ee 2) 120 T] ++ (pS cy dd (upd X 0 (nI ((rcN X) + 1))))) (show (tkn T n (skp T n (te T n ps))) = (tkn T n (rmP T n X ps)) from congrArg (fun z9 => tkn T n z9) hp9)
    replace hP2 := (congrArg (fun z9 => va_P D vwCl z9 _) hq9).mp hP2
    replace hD2 := (congrArg (fun z9 => va_D _ z9) hq9).mp hD2
    clear hq9
    clear hp9
    have hq9 : ([eO cy ee (nI (rmP T n X ps)) (nI (te T n (rmP T n X ps))) (tkn T n (rmP T n X ps)) va1_16, pO cy ee (nI n), ia cy (ee 2) 120 T] ++ (pS cy dd (upd X 0 (nI ((rcN X) + 1))))) = ([eO cy ee (nI (rmP T n X ps)) (nI (te T n (rmP T n X ps))) (tkn T n (rmP T n X ps)) va1_16, pO cy ee (nI n), ia cy (ee 2) 120 T] ++ (pS cy dd (rmS X))) := congrArg (fun z9 => [eO cy ee (nI (rmP T n X ps)) (nI (te T n (rmP T n X ps))) (tkn T n (rmP T n X ps)) va1_16, pO cy ee (nI n), ia cy (ee 2) 120 T] ++ (pS cy dd z9)) (show (upd X 0 (nI ((rcN X) + 1))) = (rmS X) from (if_pos c_6).symm)
    replace hP2 := (congrArg (fun z9 => va_P D vwCl z9 _) hq9).mp hP2
    replace hD2 := (congrArg (fun z9 => va_D _ z9) hq9).mp hD2
    clear hq9
    refine lv_iconst (v := 1) hx hb dX4_tellRoom_19 (by decide) ?_
    refine re_z va1_16 hx hb hr hlocks hP2 hD2 hS2 dX4_tellRoom_20 rfl ?_
    exact (⟨(b2i_t c_6).symm, fun z9 => by rw [show (rmP T n X ps) = nxt T n ps from if_pos c_6] at z9 ⊢; exact hv_16 z9⟩)
  · have hp9 : ps = (rmP T n X ps) := (if_neg (by omega)).symm
    have hq9 : ([eO cy ee (nI ps) (nI (te T n ps)) (tkn T n ps) va, pO cy ee (nI n), ia cy (ee 2) 120 T] ++ (pS cy dd X)) = ([eO cy ee (nI (rmP T n X ps)) (nI (te T n ps)) (tkn T n ps) va, pO cy ee (nI n), ia cy (ee 2) 120 T] ++ (pS cy dd X)) := congrArg (fun z9 => [eO cy ee z9 (nI (te T n ps)) (tkn T n ps) va, pO cy ee (nI n), ia cy (ee 2) 120 T] ++ (pS cy dd X)) (show (nI ps) = (nI (rmP T n X ps)) from congrArg (fun z9 => nI z9) hp9)
    replace hP0 := (congrArg (fun z9 => va_P D vwCl z9 _) hq9).mp hP0
    replace hD0 := (congrArg (fun z9 => va_D _ z9) hq9).mp hD0
    clear hq9
    have hq9 : ([eO cy ee (nI (rmP T n X ps)) (nI (te T n ps)) (tkn T n ps) va, pO cy ee (nI n), ia cy (ee 2) 120 T] ++ (pS cy dd X)) = ([eO cy ee (nI (rmP T n X ps)) (nI (te T n (rmP T n X ps))) (tkn T n ps) va, pO cy ee (nI n), ia cy (ee 2) 120 T] ++ (pS cy dd X)) := congrArg (fun z9 => [eO cy ee (nI (rmP T n X ps)) z9 (tkn T n ps) va, pO cy ee (nI n), ia cy (ee 2) 120 T] ++ (pS cy dd X)) (show (nI (te T n ps)) = (nI (te T n (rmP T n X ps))) from congrArg (fun z9 => nI (te T n z9)) hp9)
    replace hP0 := (congrArg (fun z9 => va_P D vwCl z9 _) hq9).mp hP0
    replace hD0 := (congrArg (fun z9 => va_D _ z9) hq9).mp hD0
    clear hq9
    have hq9 : ([eO cy ee (nI (rmP T n X ps)) (nI (te T n (rmP T n X ps))) (tkn T n ps) va, pO cy ee (nI n), ia cy (ee 2) 120 T] ++ (pS cy dd X)) = ([eO cy ee (nI (rmP T n X ps)) (nI (te T n (rmP T n X ps))) (tkn T n (rmP T n X ps)) va, pO cy ee (nI n), ia cy (ee 2) 120 T] ++ (pS cy dd X)) := congrArg (fun z9 => [eO cy ee (nI (rmP T n X ps)) (nI (te T n (rmP T n X ps))) z9 va, pO cy ee (nI n), ia cy (ee 2) 120 T] ++ (pS cy dd X)) (show (tkn T n ps) = (tkn T n (rmP T n X ps)) from congrArg (fun z9 => tkn T n z9) hp9)
    replace hP0 := (congrArg (fun z9 => va_P D vwCl z9 _) hq9).mp hP0
    replace hD0 := (congrArg (fun z9 => va_D _ z9) hq9).mp hD0
    clear hq9
    clear hp9
    have hq9 : ([eO cy ee (nI (rmP T n X ps)) (nI (te T n (rmP T n X ps))) (tkn T n (rmP T n X ps)) va, pO cy ee (nI n), ia cy (ee 2) 120 T] ++ (pS cy dd X)) = ([eO cy ee (nI (rmP T n X ps)) (nI (te T n (rmP T n X ps))) (tkn T n (rmP T n X ps)) va, pO cy ee (nI n), ia cy (ee 2) 120 T] ++ (pS cy dd (rmS X))) := congrArg (fun z9 => [eO cy ee (nI (rmP T n X ps)) (nI (te T n (rmP T n X ps))) (tkn T n (rmP T n X ps)) va, pO cy ee (nI n), ia cy (ee 2) 120 T] ++ (pS cy dd z9)) (show X = (rmS X) from (if_neg (by omega)).symm)
    replace hP0 := (congrArg (fun z9 => va_P D vwCl z9 _) hq9).mp hP0
    replace hD0 := (congrArg (fun z9 => va_D _ z9) hq9).mp hD0
    clear hq9
    refine lv_iconst (v := 0) hx hb dX4_tellRoom_9 (by decide) ?_
    refine re_z va hx hb hr hlocks hP0 hD0 hS0 dX4_tellRoom_10 rfl ?_
    exact (⟨(b2i_f (by omega)).symm, fun z9 => by rw [show (rmP T n X ps) = ps from if_neg (by omega)] at z9 ⊢; exact hv z9⟩)

theorem kc_X4_tellNight : kV yX4_tellNight cX4_tellNight 4 (some .boolean) 2 := ⟨kw_3_44, kw_s_13, kw_1_5, kw_3_45, by decide, by decide, by decide +kernel⟩
set_option maxHeartbeats 4000000 in
set_option maxRecDepth 100000 in
theorem c_X4_tellNight (l : Launch) (D : va_G) (cy : Nat → ClassId) (G : Nat → Nat) (sz : Nat) (ee : Nat → Nat) (n : Nat) (T : Nat → Int32) (ps : Nat) (va : Int32) (dd : Nat → Nat) (X : Nat → Int32) (p9 : Nat) (wf : wf X) (hn : n ≤ 120) (hs : ps ≤ n) (hv : tkn T n ps = 2 → va = nI (numV T n ps)) (hp : p9 < 6) (htp : tpOk T n) : Met l yX4_tellNight (wm yX4_tellNight cX4_tellNight 4 (some .boolean)) { frames := 3, cells := 0, slots := 0, locals := 64 } (va_Pc [.ref (ee 0), .ref (dd 0), .int (nI p9)] (pr D (TY cy) G ([eO cy ee (nI ps) (nI (te T n ps)) (tkn T n ps) va, pO cy ee (nI n), ia cy (ee 2) 120 T] ++ (pS cy dd X)) sz)) (va_Qi (fun (r : Int32) (u : Int32) => (r = b2i (okN T n (nxt T n ps) (tbM p9))) ∧ (tkn T n (tnP T n (tbM p9) (nxt T n ps)) = 2 → u = nI (numV T n (tnP T n (tbM p9) (nxt T n ps))))) (fun (u : Int32) t => po D (va_A ([eO cy ee (nI ps) (nI (te T n ps)) (tkn T n ps) va, pO cy ee (nI n), ia cy (ee 2) 120 T] ++ (pS cy dd X)) sz) ([eO cy ee (nI (tnP T n (tbM p9) (nxt T n ps))) (nI (te T n (tnP T n (tbM p9) (nxt T n ps)))) (tkn T n (tnP T n (tbM p9) (nxt T n ps))) u, pO cy ee (nI n), ia cy (ee 2) 120 T] ++ (pS cy dd (ntS T n X p9 ps))) t) (va_A ([eO cy ee (nI ps) (nI (te T n ps)) (tkn T n ps) va, pO cy ee (nI n), ia cy (ee 2) 120 T] ++ (pS cy dd X)) sz)) 0 0 (va_A ([eO cy ee (nI ps) (nI (te T n ps)) (tkn T n ps) va, pO cy ee (nI n), ia cy (ee 2) 120 T] ++ (pS cy dd X)) sz) := by
  refine mk_rw (by decide) RX4 rfl (Nat.le_of_ble_eq_true rfl) [(0, .ref (ee 0)), (1, .ref (dd 0)), (2, .int (nI p9))] rfl ?_
  intro p e s m below meth c hx hb hml hown hr hlocks hin hw hsz hA hG hK H0 locs0 hP0 hD0 hS0 ls0 hl0
  clear hin
  have hte := te_b (T := T) hs
  have hnx := nxt_b (T := T) hs
  have hnx2 := nxt_b (T := T) hnx.2
  have hnx3 := nxt_b (T := T) hnx2.2
  refine lv_aload_n hx hb dX4_tellNight_0 rfl (lv_at hl0 0 rfl) ?_
  refine cV_v (wc := [eO cy ee (nI ps) (nI (te T n ps)) (tkn T n ps) va, pO cy ee (nI n), ia cy (ee 2) 120 T]) (wr := pS cy dd X) (rest := []) hx hb hml hown hw hG hK hP0 hD0 hS0 hA hl0 kc_X4_nextToken kw_2_167 [] (c_X4_nextToken l D cy G H0.size ee n T (nI ps) (tkn T n ps) va (te T n ps) (by first | omega | assumption) (by first | omega | assumption) (by first | omega | assumption)) [0, 1, 2] [3, 4, 5, 6, 7, 8, 9, 10, 11, 12] rfl rfl rfl rfl rfl 0 rfl rfl rfl rfl rfl (Nat.le_of_ble_eq_true rfl) ⟨Nat.le_of_ble_eq_true rfl, Nat.le_of_ble_eq_true rfl⟩ dX4_tellNight_1 ⟨Nat.le_of_ble_eq_true rfl, Nat.le_of_ble_eq_true rfl⟩ (fun u9 H1 locs1 hu9 hP1 hD1 hS1 => ?_)
  clear hP0 hD0 hS0 locs0 H0
  obtain ⟨va1_1, rfl⟩ : ∃ z9, z9 = u9 := ⟨_, rfl⟩
  have hv_1 := hu9
  replace hv_1 : tkn T n (skp T n (te T n ps)) = 2 → va1_1 = nI (numV T n (skp T n (te T n ps))) := hv_1
  replace hP1 : va_P D vwCl (pS cy dd X ++ ([eO cy ee (nI (skp T n (te T n ps))) (nI (te T n (skp T n (te T n ps)))) (tkn T n (skp T n (te T n ps))) va1_1, pO cy ee (nI n), ia cy (ee 2) 120 T])) H1 := hP1
  replace hD1 : va_D (va_A _ sz) (pS cy dd X ++ ([eO cy ee (nI (skp T n (te T n ps))) (nI (te T n (skp T n (te T n ps)))) (tkn T n (skp T n (te T n ps))) va1_1, pO cy ee (nI n), ia cy (ee 2) 120 T])) := hD1
  replace hP1 := hP1.sub (ws' := [eO cy ee (nI (skp T n (te T n ps))) (nI (te T n (skp T n (te T n ps)))) (tkn T n (skp T n (te T n ps))) va1_1, pO cy ee (nI n), ia cy (ee 2) 120 T] ++ (pS cy dd X)) [10, 11, 12, 0, 1, 2, 3, 4, 5, 6, 7, 8, 9] rfl
  replace hD1 := hD1.sub (ws' := [eO cy ee (nI (skp T n (te T n ps))) (nI (te T n (skp T n (te T n ps)))) (tkn T n (skp T n (te T n ps))) va1_1, pO cy ee (nI n), ia cy (ee 2) 120 T] ++ (pS cy dd X)) [10, 11, 12, 0, 1, 2, 3, 4, 5, 6, 7, 8, 9] (by decide) rfl
  have hp9 : skp T n (te T n ps) = (nxt T n ps) := rfl
  have hq9 : ([eO cy ee (nI (skp T n (te T n ps))) (nI (te T n (skp T n (te T n ps)))) (tkn T n (skp T n (te T n ps))) va1_1, pO cy ee (nI n), ia cy (ee 2) 120 T] ++ (pS cy dd X)) = ([eO cy ee (nI (nxt T n ps)) (nI (te T n (skp T n (te T n ps)))) (tkn T n (skp T n (te T n ps))) va1_1, pO cy ee (nI n), ia cy (ee 2) 120 T] ++ (pS cy dd X)) := congrArg (fun z9 => [eO cy ee z9 (nI (te T n (skp T n (te T n ps)))) (tkn T n (skp T n (te T n ps))) va1_1, pO cy ee (nI n), ia cy (ee 2) 120 T] ++ (pS cy dd X)) (show (nI (skp T n (te T n ps))) = (nI (nxt T n ps)) from congrArg (fun z9 => nI z9) hp9)
  replace hP1 := (congrArg (fun z9 => va_P D vwCl z9 _) hq9).mp hP1
  replace hD1 := (congrArg (fun z9 => va_D _ z9) hq9).mp hD1
  clear hq9
  have hq9 : ([eO cy ee (nI (nxt T n ps)) (nI (te T n (skp T n (te T n ps)))) (tkn T n (skp T n (te T n ps))) va1_1, pO cy ee (nI n), ia cy (ee 2) 120 T] ++ (pS cy dd X)) = ([eO cy ee (nI (nxt T n ps)) (nI (te T n (nxt T n ps))) (tkn T n (skp T n (te T n ps))) va1_1, pO cy ee (nI n), ia cy (ee 2) 120 T] ++ (pS cy dd X)) := congrArg (fun z9 => [eO cy ee (nI (nxt T n ps)) z9 (tkn T n (skp T n (te T n ps))) va1_1, pO cy ee (nI n), ia cy (ee 2) 120 T] ++ (pS cy dd X)) (show (nI (te T n (skp T n (te T n ps)))) = (nI (te T n (nxt T n ps))) from congrArg (fun z9 => nI (te T n z9)) hp9)
  replace hP1 := (congrArg (fun z9 => va_P D vwCl z9 _) hq9).mp hP1
  replace hD1 := (congrArg (fun z9 => va_D _ z9) hq9).mp hD1
  clear hq9
  have hq9 : ([eO cy ee (nI (nxt T n ps)) (nI (te T n (nxt T n ps))) (tkn T n (skp T n (te T n ps))) va1_1, pO cy ee (nI n), ia cy (ee 2) 120 T] ++ (pS cy dd X)) = ([eO cy ee (nI (nxt T n ps)) (nI (te T n (nxt T n ps))) (tkn T n (nxt T n ps)) va1_1, pO cy ee (nI n), ia cy (ee 2) 120 T] ++ (pS cy dd X)) := congrArg (fun z9 => [eO cy ee (nI (nxt T n ps)) (nI (te T n (nxt T n ps))) z9 va1_1, pO cy ee (nI n), ia cy (ee 2) 120 T] ++ (pS cy dd X)) (show (tkn T n (skp T n (te T n ps))) = (tkn T n (nxt T n ps)) from congrArg (fun z9 => tkn T n z9) hp9)
  replace hP1 := (congrArg (fun z9 => va_P D vwCl z9 _) hq9).mp hP1
  replace hD1 := (congrArg (fun z9 => va_D _ z9) hq9).mp hD1
  clear hq9
  clear hp9
  refine lv_aload_n hx hb dX4_tellNight_4 rfl (lv_at hl0 0 rfl) ?_
  refine va_getsN hx hb hG.2.1.2.2.2.2.1 hS1 hown (va_Nw.use rfl hG.1.2.2.2.2.2.2.2.2.2.2.2.1) (fun _ h9 => h9) dX4_tellNight_5 ?_
  refine lv_iload_n hx hb dX4_tellNight_8 rfl (lv_at hl0 2 rfl) ?_
  refine tld_i (f := tbM) hx hb hG.2.1.2.2.2.2.2 hS1 p9 rfl (by first | omega | assumption) (by decide) dX4_tellNight_9 ?_
  refine cV_i (wc := [eO cy ee (nI (nxt T n ps)) (nI (te T n (nxt T n ps))) (tkn T n (nxt T n ps)) va1_1, pO cy ee (nI n), ia cy (ee 2) 120 T]) (wr := pS cy dd X) (rest := []) hx hb hml hown hw hG hK hP1 hD1 hS1 hA hl0 kc_X4_takeNumber kw_3_17 [.int (tbM p9)] (c_X4_takeNumber l D cy G H1.size ee n T (nxt T n ps) va1_1 (tbM p9) (by first | omega | assumption) hnx.2 hv_1 (by first | omega | assumption)) [0, 1, 2] [3, 4, 5, 6, 7, 8, 9, 10, 11, 12] rfl rfl rfl rfl rfl 0 rfl rfl rfl rfl rfl (Nat.le_of_ble_eq_true rfl) ⟨Nat.le_of_ble_eq_true rfl, Nat.le_of_ble_eq_true rfl⟩ dX4_tellNight_10 ⟨Nat.le_of_ble_eq_true rfl, Nat.le_of_ble_eq_true rfl⟩ (fun r_10 u9 H2 locs2 hu9 hP2 hD2 hS2 => ?_)
  clear hP1 hD1 hS1 locs1 H1
  obtain ⟨va1_10, rfl⟩ : ∃ z9, z9 = u9 := ⟨_, rfl⟩
  obtain ⟨hr_10, hv1_10⟩ := hu9
  replace hv1_10 : tkn T n (tnP T n (tbM p9) (nxt T n ps)) = 2 → va1_10 = nI (numV T n (tnP T n (tbM p9) (nxt T n ps))) := hv1_10
  replace hP2 : va_P D vwCl (pS cy dd X ++ ([eO cy ee (nI (tnP T n (tbM p9) (nxt T n ps))) (nI (te T n (tnP T n (tbM p9) (nxt T n ps)))) (tkn T n (tnP T n (tbM p9) (nxt T n ps))) va1_10, pO cy ee (nI n), ia cy (ee 2) 120 T])) H2 := hP2
  replace hD2 : va_D (va_A _ sz) (pS cy dd X ++ ([eO cy ee (nI (tnP T n (tbM p9) (nxt T n ps))) (nI (te T n (tnP T n (tbM p9) (nxt T n ps)))) (tkn T n (tnP T n (tbM p9) (nxt T n ps))) va1_10, pO cy ee (nI n), ia cy (ee 2) 120 T])) := hD2
  replace hP2 := hP2.sub (ws' := [eO cy ee (nI (tnP T n (tbM p9) (nxt T n ps))) (nI (te T n (tnP T n (tbM p9) (nxt T n ps)))) (tkn T n (tnP T n (tbM p9) (nxt T n ps))) va1_10, pO cy ee (nI n), ia cy (ee 2) 120 T] ++ (pS cy dd X)) [10, 11, 12, 0, 1, 2, 3, 4, 5, 6, 7, 8, 9] rfl
  replace hD2 := hD2.sub (ws' := [eO cy ee (nI (tnP T n (tbM p9) (nxt T n ps))) (nI (te T n (tnP T n (tbM p9) (nxt T n ps)))) (tkn T n (tnP T n (tbM p9) (nxt T n ps))) va1_10, pO cy ee (nI n), ia cy (ee 2) 120 T] ++ (pS cy dd X)) [10, 11, 12, 0, 1, 2, 3, 4, 5, 6, 7, 8, 9] (by decide) rfl
  subst hr_10
  by_cases hk9 : okN T n (nxt T n ps) (tbM p9)
  · refine tp (show (if okN T n (nxt T n ps) (tbM p9) then nI (numV T n (nxt T n ps)) else -1) = nI (numV T n (nxt T n ps)) from if_pos hk9) ?_
    have hnl := numV_le T n (nxt T n ps)
    refine lv_istore_n (lv' := [(3, .int (nI (numV T n (nxt T n ps)))), (0, .ref (ee 0)), (1, .ref (dd 0)), (2, .int (nI p9))]) hx hb dX4_tellNight_13 rfl hl0 (by decide) rfl (fun ls1 hl1 => ?_)
    clear hl0 ls0
    refine lv_iload_n hx hb dX4_tellNight_14 rfl (lv_at hl1 0 rfl) ?_
    refine lv_if_ge (tgt := 20) hx hb dX4_tellNight_15 (by decide) (fun _ => ?_) (fun c => absurd (nI_pos' (by omega)) c)
    refine lv_aload_n hx hb dX4_tellNight_20 rfl (lv_at hl1 2 rfl) ?_
    refine va_get (D := D) (ci := 1) (v := .ref (dd 9)) (C := RX1) (T := TX1) (N := 12) hx hb hw iX1 hown hK hP2 3 rfl rfl 10 (by decide) (hw _ kw_1_62) (fun _ h9 => h9) rfl dX4_tellNight_21 ?_
    refine lv_iload_n hx hb dX4_tellNight_24 rfl (lv_at hl1 3 rfl) ?_
    refine lv_iload_n hx hb dX4_tellNight_25 rfl (lv_at hl1 0 rfl) ?_
    refine ast_i (f := fun k => if k < 6 then X (2 + k) else 0) (ws' := [eO cy ee (nI (tnP T n (tbM p9) (nxt T n ps))) (nI (te T n (tnP T n (tbM p9) (nxt T n ps)))) (tkn T n (tnP T n (tbM p9) (nxt T n ps))) va1_10, pO cy ee (nI n), ia cy (ee 2) 120 T] ++ (pS cy dd (upd X (2 + p9) (nI (numV T n (nxt T n ps)))))) hx hb hK hP2 hD2 hS2 12 0 rfl rfl p9 rfl (by first | omega | assumption) (by decide) (congrArg (fun z => [eO cy ee (nI (tnP T n (tbM p9) (nxt T n ps))) (nI (te T n (tnP T n (tbM p9) (nxt T n ps)))) (tkn T n (tnP T n (tbM p9) (nxt T n ps))) va1_10, pO cy ee (nI n), ia cy (ee 2) 120 T] ++ (z)) (pS_nt cy dd X p9 (nI (numV T n (nxt T n ps))) (by first | decide | omega))) dX4_tellNight_26 (fun H3 locs3 hP3 hD3 hS3 => ?_)
    clear hP2 hD2 hS2 locs2 H2
    have hq9 : ([eO cy ee (nI (tnP T n (tbM p9) (nxt T n ps))) (nI (te T n (tnP T n (tbM p9) (nxt T n ps)))) (tkn T n (tnP T n (tbM p9) (nxt T n ps))) va1_10, pO cy ee (nI n), ia cy (ee 2) 120 T] ++ (pS cy dd (upd X (2 + p9) (nI (numV T n (nxt T n ps)))))) = ([eO cy ee (nI (tnP T n (tbM p9) (nxt T n ps))) (nI (te T n (tnP T n (tbM p9) (nxt T n ps)))) (tkn T n (tnP T n (tbM p9) (nxt T n ps))) va1_10, pO cy ee (nI n), ia cy (ee 2) 120 T] ++ (pS cy dd (ntS T n X p9 ps))) := congrArg (fun z9 => [eO cy ee (nI (tnP T n (tbM p9) (nxt T n ps))) (nI (te T n (tnP T n (tbM p9) (nxt T n ps)))) (tkn T n (tnP T n (tbM p9) (nxt T n ps))) va1_10, pO cy ee (nI n), ia cy (ee 2) 120 T] ++ (pS cy dd z9)) (show (upd X (2 + p9) (nI (numV T n (nxt T n ps)))) = (ntS T n X p9 ps) from (if_pos hk9).symm)
    replace hP3 := (congrArg (fun z9 => va_P D vwCl z9 _) hq9).mp hP3
    replace hD3 := (congrArg (fun z9 => va_D _ z9) hq9).mp hD3
    clear hq9
    refine lv_iconst (v := 1) hx hb dX4_tellNight_27 (by decide) ?_
    refine re_z va1_10 hx hb hr hlocks hP3 hD3 hS3 dX4_tellNight_28 rfl ?_
    exact (⟨(b2i_t hk9).symm, hv1_10⟩)
  · refine tp (show (if okN T n (nxt T n ps) (tbM p9) then nI (numV T n (nxt T n ps)) else -1) = -1 from if_neg hk9) ?_
    refine lv_istore_n (lv' := [(3, .int (-1)), (0, .ref (ee 0)), (1, .ref (dd 0)), (2, .int (nI p9))]) hx hb dX4_tellNight_13 rfl hl0 (by decide) rfl (fun ls1 hl1 => ?_)
    clear hl0 ls0
    refine lv_iload_n hx hb dX4_tellNight_14 rfl (lv_at hl1 0 rfl) ?_
    refine lv_if_ge (tgt := 20) hx hb dX4_tellNight_15 (by decide) (fun c => absurd c (by decide)) (fun _ => ?_)
    have hq9 : ([eO cy ee (nI (tnP T n (tbM p9) (nxt T n ps))) (nI (te T n (tnP T n (tbM p9) (nxt T n ps)))) (tkn T n (tnP T n (tbM p9) (nxt T n ps))) va1_10, pO cy ee (nI n), ia cy (ee 2) 120 T] ++ (pS cy dd X)) = ([eO cy ee (nI (tnP T n (tbM p9) (nxt T n ps))) (nI (te T n (tnP T n (tbM p9) (nxt T n ps)))) (tkn T n (tnP T n (tbM p9) (nxt T n ps))) va1_10, pO cy ee (nI n), ia cy (ee 2) 120 T] ++ (pS cy dd (ntS T n X p9 ps))) := congrArg (fun z9 => [eO cy ee (nI (tnP T n (tbM p9) (nxt T n ps))) (nI (te T n (tnP T n (tbM p9) (nxt T n ps)))) (tkn T n (tnP T n (tbM p9) (nxt T n ps))) va1_10, pO cy ee (nI n), ia cy (ee 2) 120 T] ++ (pS cy dd z9)) (show X = (ntS T n X p9 ps) from (if_neg hk9).symm)
    replace hP2 := (congrArg (fun z9 => va_P D vwCl z9 _) hq9).mp hP2
    replace hD2 := (congrArg (fun z9 => va_D _ z9) hq9).mp hD2
    clear hq9
    refine lv_iconst (v := 0) hx hb dX4_tellNight_18 (by decide) ?_
    refine re_z va1_10 hx hb hr hlocks hP2 hD2 hS2 dX4_tellNight_19 rfl ?_
    exact (⟨(b2i_f hk9).symm, hv1_10⟩)
