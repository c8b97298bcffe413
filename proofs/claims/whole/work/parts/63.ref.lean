theorem kc_X7_gapItem : kV yX7_gapItem cX7_gapItem 8 none 1 := ⟨kw_5_27, kw_s_42, kw_1_8, kw_5_28, by decide, by decide, by decide +kernel⟩
set_option maxHeartbeats 4000000 in
set_option maxRecDepth 100000 in
theorem c_X7_gapItem (l : Launch) (D : va_G) (cy : Nat → ClassId) (G : Nat → Nat) (sz : Nat) (mm : Nat → Nat) (ik : Int32) (vl : Int32) (rm : Int32) (rr : Int32) (om : Int32) (n : Nat) (T : Nat → Int32) (S : Nat → Int32) (ps : Nat) (x1 : Int32) (wf : wf S) (hn : n ≤ 120) (hs : ps ≤ n) : Met l yX7_gapItem (wm yX7_gapItem cX7_gapItem 8 none) { frames := 6, cells := 0, slots := 0, locals := 135 } (va_Pc [.ref (mm 0), .int x1] (pr D (TY cy) G ([mO cy mm ik (nI n) (nI ((false, ps).2)) (nI (te T n ((false, ps).2))) vl (b2i ((false, ps).1 = true)) rm rr om, ia cy (mm 1) 169 S, ia cy (mm 5) 120 T]) sz)) (va_Qv (fun (u : Int32) => True) (fun (u : Int32) t => po D (va_A ([mO cy mm ik (nI n) (nI ((false, ps).2)) (nI (te T n ((false, ps).2))) vl (b2i ((false, ps).1 = true)) rm rr om, ia cy (mm 1) 169 S, ia cy (mm 5) 120 T]) sz) ([mO cy mm ik (nI n) (nI ((g7 T n S ps).2)) (nI (te T n ((g7 T n S ps).2))) u (b2i ((g7 T n S ps).1 = true)) rm rr om, ia cy (mm 1) 169 (if (g7 T n S ps).1 = true then S else gpS T n S x1 ps), ia cy (mm 5) 120 T]) t) (va_A ([mO cy mm ik (nI n) (nI ((false, ps).2)) (nI (te T n ((false, ps).2))) vl (b2i ((false, ps).1 = true)) rm rr om, ia cy (mm 1) 169 S, ia cy (mm 5) 120 T]) sz)) 0 0 (va_A ([mO cy mm ik (nI n) (nI ((false, ps).2)) (nI (te T n ((false, ps).2))) vl (b2i ((false, ps).1 = true)) rm rr om, ia cy (mm 1) 169 S, ia cy (mm 5) 120 T]) sz) := by
  refine mk_rw (by decide) RX7 rfl (Nat.le_of_ble_eq_true rfl) [(0, .ref (mm 0)), (1, .int x1)] rfl ?_
  intro p e s m below meth c hx hb hml hown hr hlocks hin hw hsz hA hG hK H0 locs0 hP0 hD0 hS0 ls0 hl0
  clear hin
  have hg20 := wf_g20 wf
  have hrm := rcm wf
  have hg1 : (g1 T n S ps).2 ≤ n := (ndR_b (r := (false, ps)) hs).2
  have hg2 : (g2 T n S ps).2 ≤ n := (nmR_b hg1).2
  have hg3 : (g3 T n S ps).2 ≤ n := (otR_b hg2).2
  have hg4 : (g4 T n S ps).2 ≤ n := (nmR_b hg3).2
  have hg5 : (g5 T n S ps).2 ≤ n := (phR_b hg4).2
  have hg6 : (g6 T n S ps).2 ≤ n := (phR_b hg5).2
  refine wjn (ι := Unit) (A := (va_A ([mO cy mm ik (nI n) (nI ((false, ps).2)) (nI (te T n ((false, ps).2))) vl (b2i ((false, ps).1 = true)) rm rr om, ia cy (mm 1) 169 S, ia cy (mm 5) 120 T]) sz)) (nL := 8) (D := D) (fun x9 => True) (fun x9 => [mO cy mm ik (nI n) (nI ((false, ps).2)) (nI (te T n ((false, ps).2))) vl (b2i ((false, ps).1 = true)) rm rr om, ia cy (mm 1) 169 S, ia cy (mm 5) 120 T]) (fun x9 => [(0, .ref (mm 0)), (1, .int x1)]) (fun x9 => [.int (b2i (decide (gcN S < 20) = true)), .ref (mm 0)]) 17 ?_ (fun J_17 => ?_)
  · intro x9 hI H1 locs1 ls1 hP1 hD1 hS1 hl1
    replace hP1 : va_P D vwCl ([mO cy mm ik (nI n) (nI ((false, ps).2)) (nI (te T n ((false, ps).2))) vl (b2i ((false, ps).1 = true)) rm rr om, ia cy (mm 1) 169 S, ia cy (mm 5) 120 T]) H1 := hP1
    replace hD1 : va_D (va_A _ sz) ([mO cy mm ik (nI n) (nI ((false, ps).2)) (nI (te T n ((false, ps).2))) vl (b2i ((false, ps).1 = true)) rm rr om, ia cy (mm 1) 169 S, ia cy (mm 5) 120 T]) := hD1
    replace hl1 : lv_has ls1 8 [(0, .ref (mm 0)), (1, .int x1)] := hl1
    show W p l e _ s m _ below meth c _ _ _ _ _ (F0 m 17 ls1 [.int (b2i (decide (gcN S < 20) = true)), .ref (mm 0)])
    refine cV_v (wc := [mO cy mm ik (nI n) (nI ((false, ps).2)) (nI (te T n ((false, ps).2))) vl (b2i ((false, ps).1 = true)) rm rr om, ia cy (mm 5) 120 T]) (wr := [ia cy (mm 1) 169 S]) (rest := []) hx hb hml hown hw hG hK hP1 hD1 hS1 hA hl1 kc_X7_needs kw_5_29 [.int (b2i (decide (gcN S < 20) = true))] (c_X7_needs l D cy G H1.size mm ik vl rm rr om n T (false, ps) (decide (gcN S < 20)) (by first | omega | assumption) hs) [0, 2] [1] rfl rfl rfl rfl rfl 0 rfl rfl rfl rfl rfl (Nat.le_of_ble_eq_true rfl) ⟨Nat.le_of_ble_eq_true rfl, Nat.le_of_ble_eq_true rfl⟩ dX7_gapItem_17 ⟨Nat.le_of_ble_eq_true rfl, Nat.le_of_ble_eq_true rfl⟩ (fun u9 H2 locs2 hu9 hP2 hD2 hS2 => ?_)
    clear hP1 hD1 hS1 locs1 H1
    replace hP2 : va_P D vwCl ([ia cy (mm 1) 169 S, mO cy mm ik (nI n) (nI ((ndR T n (decide (gcN S < 20)) (false, ps)).2)) (nI (te T n ((ndR T n (decide (gcN S < 20)) (false, ps)).2))) vl (b2i ((ndR T n (decide (gcN S < 20)) (false, ps)).1 = true)) rm rr om, ia cy (mm 5) 120 T]) H2 := hP2
    replace hD2 : va_D (va_A _ sz) ([ia cy (mm 1) 169 S, mO cy mm ik (nI n) (nI ((ndR T n (decide (gcN S < 20)) (false, ps)).2)) (nI (te T n ((ndR T n (decide (gcN S < 20)) (false, ps)).2))) vl (b2i ((ndR T n (decide (gcN S < 20)) (false, ps)).1 = true)) rm rr om, ia cy (mm 5) 120 T]) := hD2
    replace hP2 := hP2.sub (ws' := [mO cy mm ik (nI n) (nI ((ndR T n (decide (gcN S < 20)) (false, ps)).2)) (nI (te T n ((ndR T n (decide (gcN S < 20)) (false, ps)).2))) vl (b2i ((ndR T n (decide (gcN S < 20)) (false, ps)).1 = true)) rm rr om, ia cy (mm 1) 169 S, ia cy (mm 5) 120 T]) [1, 0, 2] rfl
    replace hD2 := hD2.sub (ws' := [mO cy mm ik (nI n) (nI ((ndR T n (decide (gcN S < 20)) (false, ps)).2)) (nI (te T n ((ndR T n (decide (gcN S < 20)) (false, ps)).2))) vl (b2i ((ndR T n (decide (gcN S < 20)) (false, ps)).1 = true)) rm rr om, ia cy (mm 1) 169 S, ia cy (mm 5) 120 T]) [1, 0, 2] (by decide) rfl
    have hp9 : ndR T n (decide (gcN S < 20)) (false, ps) = (g1 T n S ps) := rfl
    have hq9 : ([mO cy mm ik (nI n) (nI ((ndR T n (decide (gcN S < 20)) (false, ps)).2)) (nI (te T n ((ndR T n (decide (gcN S < 20)) (false, ps)).2))) vl (b2i ((ndR T n (decide (gcN S < 20)) (false, ps)).1 = true)) rm rr om, ia cy (mm 1) 169 S, ia cy (mm 5) 120 T]) = ([mO cy mm ik (nI n) (nI ((g1 T n S ps).2)) (nI (te T n ((ndR T n (decide (gcN S < 20)) (false, ps)).2))) vl (b2i ((ndR T n (decide (gcN S < 20)) (false, ps)).1 = true)) rm rr om, ia cy (mm 1) 169 S, ia cy (mm 5) 120 T]) := congrArg (fun z9 => [mO cy mm ik (nI n) z9 (nI (te T n ((ndR T n (decide (gcN S < 20)) (false, ps)).2))) vl (b2i ((ndR T n (decide (gcN S < 20)) (false, ps)).1 = true)) rm rr om, ia cy (mm 1) 169 S, ia cy (mm 5) 120 T]) (show (nI ((ndR T n (decide (gcN S < 20)) (false, ps)).2)) = (nI ((g1 T n S ps).2)) from congrArg (fun z9 : Bool × Nat => nI (z9.2)) hp9)
    replace hP2 := (congrArg (fun z9 => va_P D vwCl z9 _) hq9).mp hP2
    replace hD2 := (congrArg (fun z9 => va_D _ z9) hq9).mp hD2
    clear hq9
    have hq9 : ([mO cy mm ik (nI n) (nI ((g1 T n S ps).2)) (nI (te T n ((ndR T n (decide (gcN S < 20)) (false, ps)).2))) vl (b2i ((ndR T n (decide (gcN S < 20)) (false, ps)).1 = true)) rm rr om, ia cy (mm 1) 169 S, ia cy (mm 5) 120 T]) = ([mO cy mm ik (nI n) (nI ((g1 T n S ps).2)) (nI (te T n ((g1 T n S ps).2))) vl (b2i ((ndR T n (decide (gcN S < 20)) (false, ps)).1 = true)) rm rr om, ia cy (mm 1) 169 S, ia cy (mm 5) 120 T]) := congrArg (fun z9 => [mO cy mm ik (nI n) (nI ((g1 T n S ps).2)) z9 vl (b2i ((ndR T n (decide (gcN S < 20)) (false, ps)).1 = true)) rm rr om, ia cy (mm 1) 169 S, ia cy (mm 5) 120 T]) (show (nI (te T n ((ndR T n (decide (gcN S < 20)) (false, ps)).2))) = (nI (te T n ((g1 T n S ps).2))) from congrArg (fun z9 : Bool × Nat => nI (te T n (z9.2))) hp9)
    replace hP2 := (congrArg (fun z9 => va_P D vwCl z9 _) hq9).mp hP2
    replace hD2 := (congrArg (fun z9 => va_D _ z9) hq9).mp hD2
    clear hq9
    have hq9 : ([mO cy mm ik (nI n) (nI ((g1 T n S ps).2)) (nI (te T n ((g1 T n S ps).2))) vl (b2i ((ndR T n (decide (gcN S < 20)) (false, ps)).1 = true)) rm rr om, ia cy (mm 1) 169 S, ia cy (mm 5) 120 T]) = ([mO cy mm ik (nI n) (nI ((g1 T n S ps).2)) (nI (te T n ((g1 T n S ps).2))) vl (b2i ((g1 T n S ps).1 = true)) rm rr om, ia cy (mm 1) 169 S, ia cy (mm 5) 120 T]) := congrArg (fun z9 => [mO cy mm ik (nI n) (nI ((g1 T n S ps).2)) (nI (te T n ((g1 T n S ps).2))) vl z9 rm rr om, ia cy (mm 1) 169 S, ia cy (mm 5) 120 T]) (show (b2i ((ndR T n (decide (gcN S < 20)) (false, ps)).1 = true)) = (b2i ((g1 T n S ps).1 = true)) from congrArg (fun z9 : Bool × Nat => b2i (z9.1 = true)) hp9)
    replace hP2 := (congrArg (fun z9 => va_P D vwCl z9 _) hq9).mp hP2
    replace hD2 := (congrArg (fun z9 => va_D _ z9) hq9).mp hD2
    clear hq9
    clear hp9
    refine lv_aload_n hx hb dX7_gapItem_20 rfl (lv_at hl1 0 rfl) ?_
    refine lv_iconst (v := 0) hx hb dX7_gapItem_21 (by decide) ?_
    refine lv_aload_n hx hb dX7_gapItem_22 rfl (lv_at hl1 0 rfl) ?_
    refine va_get (D := D) (ci := 7) (v := .ref (mm 1)) (C := RX7) (T := TX7) (N := 23) hx hb hw iX7 hown hK hP2 0 rfl rfl 0 (by decide) (hw _ kw_4_64) (fun _ h9 => h9) rfl dX7_gapItem_23 ?_
    refine lv_iconst (v := 0) hx hb dX7_gapItem_26 (by decide) ?_
    refine ald_i (f := S) hx hb hK hP2 1 0 rfl rfl 0 rfl (by first | omega | assumption) (by decide) dX7_gapItem_27 ?_
    refine tp (show (S 0) = nI (rcN S) from wf_r wf) ?_
    refine lv_iconst (v := 1) hx hb dX7_gapItem_28 (by decide) ?_
    refine lv_isub hx hb dX7_gapItem_29 ?_
    refine cV_v (wc := [mO cy mm ik (nI n) (nI ((g1 T n S ps).2)) (nI (te T n ((g1 T n S ps).2))) vl (b2i ((g1 T n S ps).1 = true)) rm rr om, ia cy (mm 5) 120 T]) (wr := [ia cy (mm 1) 169 S]) (rest := []) hx hb hml hown hw hG hK hP2 hD2 hS2 hA hl1 kc_X7_number kw_5_33 [.int 0, .int ((nI (rcN S)) - 1)] (c_X7_number l D cy G H2.size mm ik vl rm rr om n T (g1 T n S ps) ((nI (rcN S)) - 1) (by first | omega | assumption) hg1 hrm) [0, 2] [1] rfl rfl rfl rfl rfl 0 rfl rfl rfl rfl rfl (Nat.le_of_ble_eq_true rfl) ⟨Nat.le_of_ble_eq_true rfl, Nat.le_of_ble_eq_true rfl⟩ dX7_gapItem_30 ⟨Nat.le_of_ble_eq_true rfl, Nat.le_of_ble_eq_true rfl⟩ (fun u9 H3 locs3 hu9 hP3 hD3 hS3 => ?_)
    clear hP2 hD2 hS2 locs2 H2
    obtain ⟨vl1_30, rfl⟩ : ∃ z9, z9 = u9 := ⟨_, rfl⟩
    have hvl_30 := hu9
    replace hvl_30 : (nmR T n ((nI (rcN S)) - 1) (g1 T n S ps)).1 = false → vl1_30 = nI (numV T n ((g1 T n S ps).2)) := hvl_30
    replace hP3 : va_P D vwCl ([ia cy (mm 1) 169 S, mO cy mm ik (nI n) (nI ((nmR T n ((nI (rcN S)) - 1) (g1 T n S ps)).2)) (nI (te T n ((nmR T n ((nI (rcN S)) - 1) (g1 T n S ps)).2))) vl1_30 (b2i ((nmR T n ((nI (rcN S)) - 1) (g1 T n S ps)).1 = true)) rm rr om, ia cy (mm 5) 120 T]) H3 := hP3
    replace hD3 : va_D (va_A _ sz) ([ia cy (mm 1) 169 S, mO cy mm ik (nI n) (nI ((nmR T n ((nI (rcN S)) - 1) (g1 T n S ps)).2)) (nI (te T n ((nmR T n ((nI (rcN S)) - 1) (g1 T n S ps)).2))) vl1_30 (b2i ((nmR T n ((nI (rcN S)) - 1) (g1 T n S ps)).1 = true)) rm rr om, ia cy (mm 5) 120 T]) := hD3
    replace hP3 := hP3.sub (ws' := [mO cy mm ik (nI n) (nI ((nmR T n ((nI (rcN S)) - 1) (g1 T n S ps)).2)) (nI (te T n ((nmR T n ((nI (rcN S)) - 1) (g1 T n S ps)).2))) vl1_30 (b2i ((nmR T n ((nI (rcN S)) - 1) (g1 T n S ps)).1 = true)) rm rr om, ia cy (mm 1) 169 S, ia cy (mm 5) 120 T]) [1, 0, 2] rfl
    replace hD3 := hD3.sub (ws' := [mO cy mm ik (nI n) (nI ((nmR T n ((nI (rcN S)) - 1) (g1 T n S ps)).2)) (nI (te T n ((nmR T n ((nI (rcN S)) - 1) (g1 T n S ps)).2))) vl1_30 (b2i ((nmR T n ((nI (rcN S)) - 1) (g1 T n S ps)).1 = true)) rm rr om, ia cy (mm 1) 169 S, ia cy (mm 5) 120 T]) [1, 0, 2] (by decide) rfl
    have hp9 : nmR T n ((nI (rcN S)) - 1) (g1 T n S ps) = (g2 T n S ps) := rfl
    have hq9 : ([mO cy mm ik (nI n) (nI ((nmR T n ((nI (rcN S)) - 1) (g1 T n S ps)).2)) (nI (te T n ((nmR T n ((nI (rcN S)) - 1) (g1 T n S ps)).2))) vl1_30 (b2i ((nmR T n ((nI (rcN S)) - 1) (g1 T n S ps)).1 = true)) rm rr om, ia cy (mm 1) 169 S, ia cy (mm 5) 120 T]) = ([mO cy mm ik (nI n) (nI ((g2 T n S ps).2)) (nI (te T n ((nmR T n ((nI (rcN S)) - 1) (g1 T n S ps)).2))) vl1_30 (b2i ((nmR T n ((nI (rcN S)) - 1) (g1 T n S ps)).1 = true)) rm rr om, ia cy (mm 1) 169 S, ia cy (mm 5) 120 T]) := congrArg (fun z9 => [mO cy mm ik (nI n) z9 (nI (te T n ((nmR T n ((nI (rcN S)) - 1) (g1 T n S ps)).2))) vl1_30 (b2i ((nmR T n ((nI (rcN S)) - 1) (g1 T n S ps)).1 = true)) rm rr om, ia cy (mm 1) 169 S, ia cy (mm 5) 120 T]) (show (nI ((nmR T n ((nI (rcN S)) - 1) (g1 T n S ps)).2)) = (nI ((g2 T n S ps).2)) from congrArg (fun z9 : Bool × Nat => nI (z9.2)) hp9)
    replace hP3 := (congrArg (fun z9 => va_P D vwCl z9 _) hq9).mp hP3
    replace hD3 := (congrArg (fun z9 => va_D _ z9) hq9).mp hD3
    clear hq9
    have hq9 : ([mO cy mm ik (nI n) (nI ((g2 T n S ps).2)) (nI (te T n ((nmR T n ((nI (rcN S)) - 1) (g1 T n S ps)).2))) vl1_30 (b2i ((nmR T n ((nI (rcN S)) - 1) (g1 T n S ps)).1 = true)) rm rr om, ia cy (mm 1) 169 S, ia cy (mm 5) 120 T]) = ([mO cy mm ik (nI n) (nI ((g2 T n S ps).2)) (nI (te T n ((g2 T n S ps).2))) vl1_30 (b2i ((nmR T n ((nI (rcN S)) - 1) (g1 T n S ps)).1 = true)) rm rr om, ia cy (mm 1) 169 S, ia cy (mm 5) 120 T]) := congrArg (fun z9 => [mO cy mm ik (nI n) (nI ((g2 T n S ps).2)) z9 vl1_30 (b2i ((nmR T n ((nI (rcN S)) - 1) (g1 T n S ps)).1 = true)) rm rr om, ia cy (mm 1) 169 S, ia cy (mm 5) 120 T]) (show (nI (te T n ((nmR T n ((nI (rcN S)) - 1) (g1 T n S ps)).2))) = (nI (te T n ((g2 T n S ps).2))) from congrArg (fun z9 : Bool × Nat => nI (te T n (z9.2))) hp9)
    replace hP3 := (congrArg (fun z9 => va_P D vwCl z9 _) hq9).mp hP3
    replace hD3 := (congrArg (fun z9 => va_D _ z9) hq9).mp hD3
    clear hq9
    have hq9 : ([mO cy mm ik (nI n) (nI ((g2 T n S ps).2)) (nI (te T n ((g2 T n S ps).2))) vl1_30 (b2i ((nmR T n ((nI (rcN S)) - 1) (g1 T n S ps)).1 = true)) rm rr om, ia cy (mm 1) 169 S, ia cy (mm 5) 120 T]) = ([mO cy mm ik (nI n) (nI ((g2 T n S ps).2)) (nI (te T n ((g2 T n S ps).2))) vl1_30 (b2i ((g2 T n S ps).1 = true)) rm rr om, ia cy (mm 1) 169 S, ia cy (mm 5) 120 T]) := congrArg (fun z9 => [mO cy mm ik (nI n) (nI ((g2 T n S ps).2)) (nI (te T n ((g2 T n S ps).2))) vl1_30 z9 rm rr om, ia cy (mm 1) 169 S, ia cy (mm 5) 120 T]) (show (b2i ((nmR T n ((nI (rcN S)) - 1) (g1 T n S ps)).1 = true)) = (b2i ((g2 T n S ps).1 = true)) from congrArg (fun z9 : Bool × Nat => b2i (z9.1 = true)) hp9)
    replace hP3 := (congrArg (fun z9 => va_P D vwCl z9 _) hq9).mp hP3
    replace hD3 := (congrArg (fun z9 => va_D _ z9) hq9).mp hD3
    clear hq9
    clear hp9
    refine lv_aload_n hx hb dX7_gapItem_33 rfl (lv_at hl1 0 rfl) ?_
    refine va_get (D := D) (ci := 7) (v := .int vl1_30) (C := RX7) (T := TX7) (N := 23) hx hb hw iX7 hown hK hP3 0 rfl rfl 9 (by decide) (hw _ kw_4_73) (fun _ h9 => h9) rfl dX7_gapItem_34 ?_
    refine lv_istore_n (lv' := [(2, .int vl1_30), (0, .ref (mm 0)), (1, .int x1)]) hx hb dX7_gapItem_37 rfl hl1 (by decide) rfl (fun ls2 hl2 => ?_)
    clear hl1 ls1
    refine lv_iconst (v := (-1)) hx hb dX7_gapItem_38 (by decide) ?_
    refine lv_istore_n (lv' := [(3, .int (-1)), (2, .int vl1_30), (0, .ref (mm 0)), (1, .int x1)]) hx hb dX7_gapItem_39 rfl hl2 (by decide) rfl (fun ls3 hl3 => ?_)
    clear hl2 ls2
    refine wjn (ι := Int32 × Int32) (A := (va_A ([mO cy mm ik (nI n) (nI ((false, ps).2)) (nI (te T n ((false, ps).2))) vl (b2i ((false, ps).1 = true)) rm rr om, ia cy (mm 1) 169 S, ia cy (mm 5) 120 T]) sz)) (nL := 8) (D := D) (fun x9 => ((g3 T n S ps).1 = false → x9.1 = otV T n ((g2 T n S ps).2))) (fun x9 => [mO cy mm ik (nI n) (nI ((g3 T n S ps).2)) (nI (te T n ((g3 T n S ps).2))) x9.2 (b2i ((g3 T n S ps).1 = true)) rm rr om, ia cy (mm 1) 169 S, ia cy (mm 5) 120 T]) (fun x9 => [(3, .int x9.1), (2, .int vl1_30), (0, .ref (mm 0)), (1, .int x1)]) (fun x9 => []) 129 ?_ (fun J_129 => ?_)
    · intro x9 hI H4 locs4 ls4 hP4 hD4 hS4 hl4
      obtain ⟨ot9, vl9⟩ := x9
      have hot := hI
      replace hot : (g3 T n S ps).1 = false → ot9 = otV T n ((g2 T n S ps).2) := hot
      replace hP4 : va_P D vwCl ([mO cy mm ik (nI n) (nI ((g3 T n S ps).2)) (nI (te T n ((g3 T n S ps).2))) vl9 (b2i ((g3 T n S ps).1 = true)) rm rr om, ia cy (mm 1) 169 S, ia cy (mm 5) 120 T]) H4 := hP4
      replace hD4 : va_D (va_A _ sz) ([mO cy mm ik (nI n) (nI ((g3 T n S ps).2)) (nI (te T n ((g3 T n S ps).2))) vl9 (b2i ((g3 T n S ps).1 = true)) rm rr om, ia cy (mm 1) 169 S, ia cy (mm 5) 120 T]) := hD4
      replace hl4 : lv_has ls4 8 [(3, .int ot9), (2, .int vl1_30), (0, .ref (mm 0)), (1, .int x1)] := hl4
      show W p l e _ s m _ below meth c _ _ _ _ _ (F0 m 129 ls4 [])
      refine lv_aload_n hx hb dX7_gapItem_129 rfl (lv_at hl4 2 rfl) ?_
      refine lv_iconst (v := 0) hx hb dX7_gapItem_130 (by decide) ?_
      refine lv_bipush (v := 99) hx hb dX7_gapItem_131 (by decide) ?_
      refine cV_v (wc := [mO cy mm ik (nI n) (nI ((g3 T n S ps).2)) (nI (te T n ((g3 T n S ps).2))) vl9 (b2i ((g3 T n S ps).1 = true)) rm rr om, ia cy (mm 5) 120 T]) (wr := [ia cy (mm 1) 169 S]) (rest := []) hx hb hml hown hw hG hK hP4 hD4 hS4 hA hl4 kc_X7_number kw_5_33 [.int 0, .int 99] (c_X7_number l D cy G H4.size mm ik vl9 rm rr om n T (g3 T n S ps) 99 (by first | omega | assumption) hg3 (by decide)) [0, 2] [1] rfl rfl rfl rfl rfl 0 rfl rfl rfl rfl rfl (Nat.le_of_ble_eq_true rfl) ⟨Nat.le_of_ble_eq_true rfl, Nat.le_of_ble_eq_true rfl⟩ dX7_gapItem_133 ⟨Nat.le_of_ble_eq_true rfl, Nat.le_of_ble_eq_true rfl⟩ (fun u9 H5 locs5 hu9 hP5 hD5 hS5 => ?_)
      clear hP4 hD4 hS4 locs4 H4
      obtain ⟨vl1_133, rfl⟩ : ∃ z9, z9 = u9 := ⟨_, rfl⟩
      have hvl_133 := hu9
      replace hvl_133 : (nmR T n 99 (g3 T n S ps)).1 = false → vl1_133 = nI (numV T n ((g3 T n S ps).2)) := hvl_133
      replace hP5 : va_P D vwCl ([ia cy (mm 1) 169 S, mO cy mm ik (nI n) (nI ((nmR T n 99 (g3 T n S ps)).2)) (nI (te T n ((nmR T n 99 (g3 T n S ps)).2))) vl1_133 (b2i ((nmR T n 99 (g3 T n S ps)).1 = true)) rm rr om, ia cy (mm 5) 120 T]) H5 := hP5
      replace hD5 : va_D (va_A _ sz) ([ia cy (mm 1) 169 S, mO cy mm ik (nI n) (nI ((nmR T n 99 (g3 T n S ps)).2)) (nI (te T n ((nmR T n 99 (g3 T n S ps)).2))) vl1_133 (b2i ((nmR T n 99 (g3 T n S ps)).1 = true)) rm rr om, ia cy (mm 5) 120 T]) := hD5
      replace hP5 := hP5.sub (ws' := [mO cy mm ik (nI n) (nI ((nmR T n 99 (g3 T n S ps)).2)) (nI (te T n ((nmR T n 99 (g3 T n S ps)).2))) vl1_133 (b2i ((nmR T n 99 (g3 T n S ps)).1 = true)) rm rr om, ia cy (mm 1) 169 S, ia cy (mm 5) 120 T]) [1, 0, 2] rfl
      replace hD5 := hD5.sub (ws' := [mO cy mm ik (nI n) (nI ((nmR T n 99 (g3 T n S ps)).2)) (nI (te T n ((nmR T n 99 (g3 T n S ps)).2))) vl1_133 (b2i ((nmR T n 99 (g3 T n S ps)).1 = true)) rm rr om, ia cy (mm 1) 169 S, ia cy (mm 5) 120 T]) [1, 0, 2] (by decide) rfl
      have hp9 : nmR T n 99 (g3 T n S ps) = (g4 T n S ps) := rfl
      have hq9 : ([mO cy mm ik (nI n) (nI ((nmR T n 99 (g3 T n S ps)).2)) (nI (te T n ((nmR T n 99 (g3 T n S ps)).2))) vl1_133 (b2i ((nmR T n 99 (g3 T n S ps)).1 = true)) rm rr om, ia cy (mm 1) 169 S, ia cy (mm 5) 120 T]) = ([mO cy mm ik (nI n) (nI ((g4 T n S ps).2)) (nI (te T n ((nmR T n 99 (g3 T n S ps)).2))) vl1_133 (b2i ((nmR T n 99 (g3 T n S ps)).1 = true)) rm rr om, ia cy (mm 1) 169 S, ia cy (mm 5) 120 T]) := congrArg (fun z9 => [mO cy mm ik (nI n) z9 (nI (te T n ((nmR T n 99 (g3 T n S ps)).2))) vl1_133 (b2i ((nmR T n 99 (g3 T n S ps)).1 = true)) rm rr om, ia cy (mm 1) 169 S, ia cy (mm 5) 120 T]) (show (nI ((nmR T n 99 (g3 T n S ps)).2)) = (nI ((g4 T n S ps).2)) from congrArg (fun z9 : Bool × Nat => nI (z9.2)) hp9)
      replace hP5 := (congrArg (fun z9 => va_P D vwCl z9 _) hq9).mp hP5
      replace hD5 := (congrArg (fun z9 => va_D _ z9) hq9).mp hD5
      clear hq9
      have hq9 : ([mO cy mm ik (nI n) (nI ((g4 T n S ps).2)) (nI (te T n ((nmR T n 99 (g3 T n S ps)).2))) vl1_133 (b2i ((nmR T n 99 (g3 T n S ps)).1 = true)) rm rr om, ia cy (mm 1) 169 S, ia cy (mm 5) 120 T]) = ([mO cy mm ik (nI n) (nI ((g4 T n S ps).2)) (nI (te T n ((g4 T n S ps).2))) vl1_133 (b2i ((nmR T n 99 (g3 T n S ps)).1 = true)) rm rr om, ia cy (mm 1) 169 S, ia cy (mm 5) 120 T]) := congrArg (fun z9 => [mO cy mm ik (nI n) (nI ((g4 T n S ps).2)) z9 vl1_133 (b2i ((nmR T n 99 (g3 T n S ps)).1 = true)) rm rr om, ia cy (mm 1) 169 S, ia cy (mm 5) 120 T]) (show (nI (te T n ((nmR T n 99 (g3 T n S ps)).2))) = (nI (te T n ((g4 T n S ps).2))) from congrArg (fun z9 : Bool × Nat => nI (te T n (z9.2))) hp9)
      replace hP5 := (congrArg (fun z9 => va_P D vwCl z9 _) hq9).mp hP5
      replace hD5 := (congrArg (fun z9 => va_D _ z9) hq9).mp hD5
      clear hq9
      have hq9 : ([mO cy mm ik (nI n) (nI ((g4 T n S ps).2)) (nI (te T n ((g4 T n S ps).2))) vl1_133 (b2i ((nmR T n 99 (g3 T n S ps)).1 = true)) rm rr om, ia cy (mm 1) 169 S, ia cy (mm 5) 120 T]) = ([mO cy mm ik (nI n) (nI ((g4 T n S ps).2)) (nI (te T n ((g4 T n S ps).2))) vl1_133 (b2i ((g4 T n S ps).1 = true)) rm rr om, ia cy (mm 1) 169 S, ia cy (mm 5) 120 T]) := congrArg (fun z9 => [mO cy mm ik (nI n) (nI ((g4 T n S ps).2)) (nI (te T n ((g4 T n S ps).2))) vl1_133 z9 rm rr om, ia cy (mm 1) 169 S, ia cy (mm 5) 120 T]) (show (b2i ((nmR T n 99 (g3 T n S ps)).1 = true)) = (b2i ((g4 T n S ps).1 = true)) from congrArg (fun z9 : Bool × Nat => b2i (z9.1 = true)) hp9)
      replace hP5 := (congrArg (fun z9 => va_P D vwCl z9 _) hq9).mp hP5
      replace hD5 := (congrArg (fun z9 => va_D _ z9) hq9).mp hD5
      clear hq9
      clear hp9
      refine lv_aload_n hx hb dX7_gapItem_136 rfl (lv_at hl4 2 rfl) ?_
      refine va_get (D := D) (ci := 7) (v := .int vl1_133) (C := RX7) (T := TX7) (N := 23) hx hb hw iX7 hown hK hP5 0 rfl rfl 9 (by decide) (hw _ kw_4_73) (fun _ h9 => h9) rfl dX7_gapItem_137 ?_
      refine lv_istore (lv' := [(4, .int vl1_133), (3, .int ot9), (2, .int vl1_30), (0, .ref (mm 0)), (1, .int x1)]) hx hb dX7_gapItem_140 hl4 (by decide) rfl (fun ls5 hl5 => ?_)
      clear hl4 ls4
      refine lv_aload_n hx hb dX7_gapItem_142 rfl (lv_at hl5 3 rfl) ?_
      refine lv_aload_n hx hb dX7_gapItem_143 rfl (lv_at hl5 3 rfl) ?_
      refine lv_bipush (v := 104) hx hb dX7_gapItem_144 (by decide) ?_
      refine lv_bipush (v := 105) hx hb dX7_gapItem_146 (by decide) ?_
      refine lv_bipush (v := 103) hx hb dX7_gapItem_148 (by decide) ?_
      refine lv_bipush (v := 104) hx hb dX7_gapItem_150 (by decide) ?_
      refine lv_iconst (v := 0) hx hb dX7_gapItem_152 (by decide) ?_
      refine lv_iconst (v := 0) hx hb dX7_gapItem_153 (by decide) ?_
      refine lv_iconst (v := 0) hx hb dX7_gapItem_154 (by decide) ?_
      refine rV_i (wc := [mO cy mm ik (nI n) (nI ((g4 T n S ps).2)) (nI (te T n ((g4 T n S ps).2))) vl1_133 (b2i ((g4 T n S ps).1 = true)) rm rr om, ia cy (mm 5) 120 T]) (rest := [.ref (mm 0)]) hx hb hml hown hw hG hK hP5 hS5 hA hl5 kc_X7_isWord kw_5_17 [.int 104, .int 105, .int 103, .int 104, .int 0, .int 0, .int 0] (c_X7_isWord l D cy G H5.size mm ik vl1_133 rm rr om n T (g4 T n S ps) 8 104 105 103 104 0 0 0 (by first | omega | assumption) hg4 (by decide) (by decide) (by decide) (by decide) (by decide) (by decide) (by decide) (by decide)) [0, 2] rfl 0 rfl rfl rfl rfl rfl (Nat.le_of_ble_eq_true rfl) ⟨Nat.le_of_ble_eq_true rfl, Nat.le_of_ble_eq_true rfl⟩ dX7_gapItem_155 ⟨Nat.le_of_ble_eq_true rfl, Nat.le_of_ble_eq_true rfl⟩ (fun r_155 H6 locs6 hr_155 hP6 hS6 => ?_)
      have hD6 := hD5
      clear hP5 hD5 hS5 locs5 H5
      subst hr_155
      refine lv_bipush (v := 9) hx hb dX7_gapItem_158 (by decide) ?_
      refine cV_i (wc := [mO cy mm ik (nI n) (nI ((g4 T n S ps).2)) (nI (te T n ((g4 T n S ps).2))) vl1_133 (b2i ((g4 T n S ps).1 = true)) rm rr om, ia cy (mm 5) 120 T]) (wr := [ia cy (mm 1) 169 S]) (rest := []) hx hb hml hown hw hG hK hP6 hD6 hS6 hA hl5 kc_X7_perhaps kw_5_41 [.int (b2i ((g4 T n S ps).1 = false ∧ isW T n ((g4 T n S ps).2) 8 = true)), .int 9] (c_X7_perhaps l D cy G H6.size mm ik vl1_133 rm rr om n T (g4 T n S ps) 8 9 (by first | omega | assumption) hg4 (by decide)) [0, 2] [1] rfl rfl rfl rfl rfl 0 rfl rfl rfl rfl rfl (Nat.le_of_ble_eq_true rfl) ⟨Nat.le_of_ble_eq_true rfl, Nat.le_of_ble_eq_true rfl⟩ dX7_gapItem_160 ⟨Nat.le_of_ble_eq_true rfl, Nat.le_of_ble_eq_true rfl⟩ (fun r_160 u9 H7 locs7 hu9 hP7 hD7 hS7 => ?_)
      clear hP6 hD6 hS6 locs6 H6
      obtain ⟨vl1_160, rfl⟩ : ∃ z9, z9 = u9 := ⟨_, rfl⟩
      have hvl_160 := hu9
      replace hvl_160 : (phR T n 8 9 (g4 T n S ps)).1 = false → r_160 = phV T n 8 ((g4 T n S ps).2) := hvl_160
      replace hP7 : va_P D vwCl ([ia cy (mm 1) 169 S, mO cy mm ik (nI n) (nI ((phR T n 8 9 (g4 T n S ps)).2)) (nI (te T n ((phR T n 8 9 (g4 T n S ps)).2))) vl1_160 (b2i ((phR T n 8 9 (g4 T n S ps)).1 = true)) rm rr om, ia cy (mm 5) 120 T]) H7 := hP7
      replace hD7 : va_D (va_A _ sz) ([ia cy (mm 1) 169 S, mO cy mm ik (nI n) (nI ((phR T n 8 9 (g4 T n S ps)).2)) (nI (te T n ((phR T n 8 9 (g4 T n S ps)).2))) vl1_160 (b2i ((phR T n 8 9 (g4 T n S ps)).1 = true)) rm rr om, ia cy (mm 5) 120 T]) := hD7
      replace hP7 := hP7.sub (ws' := [mO cy mm ik (nI n) (nI ((phR T n 8 9 (g4 T n S ps)).2)) (nI (te T n ((phR T n 8 9 (g4 T n S ps)).2))) vl1_160 (b2i ((phR T n 8 9 (g4 T n S ps)).1 = true)) rm rr om, ia cy (mm 1) 169 S, ia cy (mm 5) 120 T]) [1, 0, 2] rfl
      replace hD7 := hD7.sub (ws' := [mO cy mm ik (nI n) (nI ((phR T n 8 9 (g4 T n S ps)).2)) (nI (te T n ((phR T n 8 9 (g4 T n S ps)).2))) vl1_160 (b2i ((phR T n 8 9 (g4 T n S ps)).1 = true)) rm rr om, ia cy (mm 1) 169 S, ia cy (mm 5) 120 T]) [1, 0, 2] (by decide) rfl
      have hp9 : phR T n 8 9 (g4 T n S ps) = (g5 T n S ps) := rfl
      have hq9 : ([mO cy mm ik (nI n) (nI ((phR T n 8 9 (g4 T n S ps)).2)) (nI (te T n ((phR T n 8 9 (g4 T n S ps)).2))) vl1_160 (b2i ((phR T n 8 9 (g4 T n S ps)).1 = true)) rm rr om, ia cy (mm 1) 169 S, ia cy (mm 5) 120 T]) = ([mO cy mm ik (nI n) (nI ((g5 T n S ps).2)) (nI (te T n ((phR T n 8 9 (g4 T n S ps)).2))) vl1_160 (b2i ((phR T n 8 9 (g4 T n S ps)).1 = true)) rm rr om, ia cy (mm 1) 169 S, ia cy (mm 5) 120 T]) := congrArg (fun z9 => [mO cy mm ik (nI n) z9 (nI (te T n ((phR T n 8 9 (g4 T n S ps)).2))) vl1_160 (b2i ((phR T n 8 9 (g4 T n S ps)).1 = true)) rm rr om, ia cy (mm 1) 169 S, ia cy (mm 5) 120 T]) (show (nI ((phR T n 8 9 (g4 T n S ps)).2)) = (nI ((g5 T n S ps).2)) from congrArg (fun z9 : Bool × Nat => nI (z9.2)) hp9)
      replace hP7 := (congrArg (fun z9 => va_P D vwCl z9 _) hq9).mp hP7
      replace hD7 := (congrArg (fun z9 => va_D _ z9) hq9).mp hD7
      clear hq9
      have hq9 : ([mO cy mm ik (nI n) (nI ((g5 T n S ps).2)) (nI (te T n ((phR T n 8 9 (g4 T n S ps)).2))) vl1_160 (b2i ((phR T n 8 9 (g4 T n S ps)).1 = true)) rm rr om, ia cy (mm 1) 169 S, ia cy (mm 5) 120 T]) = ([mO cy mm ik (nI n) (nI ((g5 T n S ps).2)) (nI (te T n ((g5 T n S ps).2))) vl1_160 (b2i ((phR T n 8 9 (g4 T n S ps)).1 = true)) rm rr om, ia cy (mm 1) 169 S, ia cy (mm 5) 120 T]) := congrArg (fun z9 => [mO cy mm ik (nI n) (nI ((g5 T n S ps).2)) z9 vl1_160 (b2i ((phR T n 8 9 (g4 T n S ps)).1 = true)) rm rr om, ia cy (mm 1) 169 S, ia cy (mm 5) 120 T]) (show (nI (te T n ((phR T n 8 9 (g4 T n S ps)).2))) = (nI (te T n ((g5 T n S ps).2))) from congrArg (fun z9 : Bool × Nat => nI (te T n (z9.2))) hp9)
      replace hP7 := (congrArg (fun z9 => va_P D vwCl z9 _) hq9).mp hP7
      replace hD7 := (congrArg (fun z9 => va_D _ z9) hq9).mp hD7
      clear hq9
      have hq9 : ([mO cy mm ik (nI n) (nI ((g5 T n S ps).2)) (nI (te T n ((g5 T n S ps).2))) vl1_160 (b2i ((phR T n 8 9 (g4 T n S ps)).1 = true)) rm rr om, ia cy (mm 1) 169 S, ia cy (mm 5) 120 T]) = ([mO cy mm ik (nI n) (nI ((g5 T n S ps).2)) (nI (te T n ((g5 T n S ps).2))) vl1_160 (b2i ((g5 T n S ps).1 = true)) rm rr om, ia cy (mm 1) 169 S, ia cy (mm 5) 120 T]) := congrArg (fun z9 => [mO cy mm ik (nI n) (nI ((g5 T n S ps).2)) (nI (te T n ((g5 T n S ps).2))) vl1_160 z9 rm rr om, ia cy (mm 1) 169 S, ia cy (mm 5) 120 T]) (show (b2i ((phR T n 8 9 (g4 T n S ps)).1 = true)) = (b2i ((g5 T n S ps).1 = true)) from congrArg (fun z9 : Bool × Nat => b2i (z9.1 = true)) hp9)
      replace hP7 := (congrArg (fun z9 => va_P D vwCl z9 _) hq9).mp hP7
      replace hD7 := (congrArg (fun z9 => va_D _ z9) hq9).mp hD7
      clear hq9
      clear hp9
      refine lv_istore (lv' := [(5, .int r_160), (4, .int vl1_133), (3, .int ot9), (2, .int vl1_30), (0, .ref (mm 0)), (1, .int x1)]) hx hb dX7_gapItem_163 hl5 (by decide) rfl (fun ls6 hl6 => ?_)
      clear hl5 ls5
      refine lv_aload_n hx hb dX7_gapItem_165 rfl (lv_at hl6 4 rfl) ?_
      refine lv_aload_n hx hb dX7_gapItem_166 rfl (lv_at hl6 4 rfl) ?_
      refine lv_bipush (v := 115) hx hb dX7_gapItem_167 (by decide) ?_
      refine lv_bipush (v := 105) hx hb dX7_gapItem_169 (by decide) ?_
      refine lv_bipush (v := 100) hx hb dX7_gapItem_171 (by decide) ?_
      refine lv_bipush (v := 101) hx hb dX7_gapItem_173 (by decide) ?_
      refine lv_iconst (v := 0) hx hb dX7_gapItem_175 (by decide) ?_
      refine lv_iconst (v := 0) hx hb dX7_gapItem_176 (by decide) ?_
      refine lv_iconst (v := 0) hx hb dX7_gapItem_177 (by decide) ?_
      refine rV_i (wc := [mO cy mm ik (nI n) (nI ((g5 T n S ps).2)) (nI (te T n ((g5 T n S ps).2))) vl1_160 (b2i ((g5 T n S ps).1 = true)) rm rr om, ia cy (mm 5) 120 T]) (rest := [.ref (mm 0)]) hx hb hml hown hw hG hK hP7 hS7 hA hl6 kc_X7_isWord kw_5_17 [.int 115, .int 105, .int 100, .int 101, .int 0, .int 0, .int 0] (c_X7_isWord l D cy G H7.size mm ik vl1_160 rm rr om n T (g5 T n S ps) 9 115 105 100 101 0 0 0 (by first | omega | assumption) hg5 (by decide) (by decide) (by decide) (by decide) (by decide) (by decide) (by decide) (by decide)) [0, 2] rfl 0 rfl rfl rfl rfl rfl (Nat.le_of_ble_eq_true rfl) ⟨Nat.le_of_ble_eq_true rfl, Nat.le_of_ble_eq_true rfl⟩ dX7_gapItem_178 ⟨Nat.le_of_ble_eq_true rfl, Nat.le_of_ble_eq_true rfl⟩ (fun r_178 H8 locs8 hr_178 hP8 hS8 => ?_)
      have hD8 := hD7
      clear hP7 hD7 hS7 locs7 H7
      subst hr_178
      refine lv_iconst (v := 3) hx hb dX7_gapItem_181 (by decide) ?_
      refine cV_i (wc := [mO cy mm ik (nI n) (nI ((g5 T n S ps).2)) (nI (te T n ((g5 T n S ps).2))) vl1_160 (b2i ((g5 T n S ps).1 = true)) rm rr om, ia cy (mm 5) 120 T]) (wr := [ia cy (mm 1) 169 S]) (rest := []) hx hb hml hown hw hG hK hP8 hD8 hS8 hA hl6 kc_X7_perhaps kw_5_41 [.int (b2i ((g5 T n S ps).1 = false ∧ isW T n ((g5 T n S ps).2) 9 = true)), .int 3] (c_X7_perhaps l D cy G H8.size mm ik vl1_160 rm rr om n T (g5 T n S ps) 9 3 (by first | omega | assumption) hg5 (by decide)) [0, 2] [1] rfl rfl rfl rfl rfl 0 rfl rfl rfl rfl rfl (Nat.le_of_ble_eq_true rfl) ⟨Nat.le_of_ble_eq_true rfl, Nat.le_of_ble_eq_true rfl⟩ dX7_gapItem_182 ⟨Nat.le_of_ble_eq_true rfl, Nat.le_of_ble_eq_true rfl⟩ (fun r_182 u9 H9 locs9 hu9 hP9 hD9 hS9 => ?_)
      clear hP8 hD8 hS8 locs8 H8
      obtain ⟨vl1_182, rfl⟩ : ∃ z9, z9 = u9 := ⟨_, rfl⟩
      have hvl_182 := hu9
      replace hvl_182 : (phR T n 9 3 (g5 T n S ps)).1 = false → r_182 = phV T n 9 ((g5 T n S ps).2) := hvl_182
      replace hP9 : va_P D vwCl ([ia cy (mm 1) 169 S, mO cy mm ik (nI n) (nI ((phR T n 9 3 (g5 T n S ps)).2)) (nI (te T n ((phR T n 9 3 (g5 T n S ps)).2))) vl1_182 (b2i ((phR T n 9 3 (g5 T n S ps)).1 = true)) rm rr om, ia cy (mm 5) 120 T]) H9 := hP9
      replace hD9 : va_D (va_A _ sz) ([ia cy (mm 1) 169 S, mO cy mm ik (nI n) (nI ((phR T n 9 3 (g5 T n S ps)).2)) (nI (te T n ((phR T n 9 3 (g5 T n S ps)).2))) vl1_182 (b2i ((phR T n 9 3 (g5 T n S ps)).1 = true)) rm rr om, ia cy (mm 5) 120 T]) := hD9
      replace hP9 := hP9.sub (ws' := [mO cy mm ik (nI n) (nI ((phR T n 9 3 (g5 T n S ps)).2)) (nI (te T n ((phR T n 9 3 (g5 T n S ps)).2))) vl1_182 (b2i ((phR T n 9 3 (g5 T n S ps)).1 = true)) rm rr om, ia cy (mm 1) 169 S, ia cy (mm 5) 120 T]) [1, 0, 2] rfl
      replace hD9 := hD9.sub (ws' := [mO cy mm ik (nI n) (nI ((phR T n 9 3 (g5 T n S ps)).2)) (nI (te T n ((phR T n 9 3 (g5 T n S ps)).2))) vl1_182 (b2i ((phR T n 9 3 (g5 T n S ps)).1 = true)) rm rr om, ia cy (mm 1) 169 S, ia cy (mm 5) 120 T]) [1, 0, 2] (by decide) rfl
      have hp9 : phR T n 9 3 (g5 T n S ps) = (g6 T n S ps) := rfl
      have hq9 : ([mO cy mm ik (nI n) (nI ((phR T n 9 3 (g5 T n S ps)).2)) (nI (te T n ((phR T n 9 3 (g5 T n S ps)).2))) vl1_182 (b2i ((phR T n 9 3 (g5 T n S ps)).1 = true)) rm rr om, ia cy (mm 1) 169 S, ia cy (mm 5) 120 T]) = ([mO cy mm ik (nI n) (nI ((g6 T n S ps).2)) (nI (te T n ((phR T n 9 3 (g5 T n S ps)).2))) vl1_182 (b2i ((phR T n 9 3 (g5 T n S ps)).1 = true)) rm rr om, ia cy (mm 1) 169 S, ia cy (mm 5) 120 T]) := congrArg (fun z9 => [mO cy mm ik (nI n) z9 (nI (te T n ((phR T n 9 3 (g5 T n S ps)).2))) vl1_182 (b2i ((phR T n 9 3 (g5 T n S ps)).1 = true)) rm rr om, ia cy (mm 1) 169 S, ia cy (mm 5) 120 T]) (show (nI ((phR T n 9 3 (g5 T n S ps)).2)) = (nI ((g6 T n S ps).2)) from congrArg (fun z9 : Bool × Nat => nI (z9.2)) hp9)
      replace hP9 := (congrArg (fun z9 => va_P D vwCl z9 _) hq9).mp hP9
      replace hD9 := (congrArg (fun z9 => va_D _ z9) hq9).mp hD9
      clear hq9
      have hq9 : ([mO cy mm ik (nI n) (nI ((g6 T n S ps).2)) (nI (te T n ((phR T n 9 3 (g5 T n S ps)).2))) vl1_182 (b2i ((phR T n 9 3 (g5 T n S ps)).1 = true)) rm rr om, ia cy (mm 1) 169 S, ia cy (mm 5) 120 T]) = ([mO cy mm ik (nI n) (nI ((g6 T n S ps).2)) (nI (te T n ((g6 T n S ps).2))) vl1_182 (b2i ((phR T n 9 3 (g5 T n S ps)).1 = true)) rm rr om, ia cy (mm 1) 169 S, ia cy (mm 5) 120 T]) := congrArg (fun z9 => [mO cy mm ik (nI n) (nI ((g6 T n S ps).2)) z9 vl1_182 (b2i ((phR T n 9 3 (g5 T n S ps)).1 = true)) rm rr om, ia cy (mm 1) 169 S, ia cy (mm 5) 120 T]) (show (nI (te T n ((phR T n 9 3 (g5 T n S ps)).2))) = (nI (te T n ((g6 T n S ps).2))) from congrArg (fun z9 : Bool × Nat => nI (te T n (z9.2))) hp9)
      replace hP9 := (congrArg (fun z9 => va_P D vwCl z9 _) hq9).mp hP9
      replace hD9 := (congrArg (fun z9 => va_D _ z9) hq9).mp hD9
      clear hq9
      have hq9 : ([mO cy mm ik (nI n) (nI ((g6 T n S ps).2)) (nI (te T n ((g6 T n S ps).2))) vl1_182 (b2i ((phR T n 9 3 (g5 T n S ps)).1 = true)) rm rr om, ia cy (mm 1) 169 S, ia cy (mm 5) 120 T]) = ([mO cy mm ik (nI n) (nI ((g6 T n S ps).2)) (nI (te T n ((g6 T n S ps).2))) vl1_182 (b2i ((g6 T n S ps).1 = true)) rm rr om, ia cy (mm 1) 169 S, ia cy (mm 5) 120 T]) := congrArg (fun z9 => [mO cy mm ik (nI n) (nI ((g6 T n S ps).2)) (nI (te T n ((g6 T n S ps).2))) vl1_182 z9 rm rr om, ia cy (mm 1) 169 S, ia cy (mm 5) 120 T]) (show (b2i ((phR T n 9 3 (g5 T n S ps)).1 = true)) = (b2i ((g6 T n S ps).1 = true)) from congrArg (fun z9 : Bool × Nat => b2i (z9.1 = true)) hp9)
      replace hP9 := (congrArg (fun z9 => va_P D vwCl z9 _) hq9).mp hP9
      replace hD9 := (congrArg (fun z9 => va_D _ z9) hq9).mp hD9
      clear hq9
      clear hp9
      refine lv_istore (lv' := [(6, .int r_182), (5, .int r_160), (4, .int vl1_133), (3, .int ot9), (2, .int vl1_30), (0, .ref (mm 0)), (1, .int x1)]) hx hb dX7_gapItem_185 hl6 (by decide) rfl (fun ls7 hl7 => ?_)
      clear hl6 ls6
      refine lv_aload_n hx hb dX7_gapItem_187 rfl (lv_at hl7 5 rfl) ?_
      refine lv_aload_n hx hb dX7_gapItem_188 rfl (lv_at hl7 5 rfl) ?_
      refine lv_bipush (v := 99) hx hb dX7_gapItem_189 (by decide) ?_
      refine lv_bipush (v := 111) hx hb dX7_gapItem_191 (by decide) ?_
      refine lv_bipush (v := 115) hx hb dX7_gapItem_193 (by decide) ?_
      refine lv_bipush (v := 116) hx hb dX7_gapItem_195 (by decide) ?_
      refine lv_iconst (v := 0) hx hb dX7_gapItem_197 (by decide) ?_
      refine lv_iconst (v := 0) hx hb dX7_gapItem_198 (by decide) ?_
      refine lv_iconst (v := 0) hx hb dX7_gapItem_199 (by decide) ?_
      refine rV_i (wc := [mO cy mm ik (nI n) (nI ((g6 T n S ps).2)) (nI (te T n ((g6 T n S ps).2))) vl1_182 (b2i ((g6 T n S ps).1 = true)) rm rr om, ia cy (mm 5) 120 T]) (rest := [.ref (mm 0)]) hx hb hml hown hw hG hK hP9 hS9 hA hl7 kc_X7_isWord kw_5_17 [.int 99, .int 111, .int 115, .int 116, .int 0, .int 0, .int 0] (c_X7_isWord l D cy G H9.size mm ik vl1_182 rm rr om n T (g6 T n S ps) 10 99 111 115 116 0 0 0 (by first | omega | assumption) hg6 (by decide) (by decide) (by decide) (by decide) (by decide) (by decide) (by decide) (by decide)) [0, 2] rfl 0 rfl rfl rfl rfl rfl (Nat.le_of_ble_eq_true rfl) ⟨Nat.le_of_ble_eq_true rfl, Nat.le_of_ble_eq_true rfl⟩ dX7_gapItem_200 ⟨Nat.le_of_ble_eq_true rfl, Nat.le_of_ble_eq_true rfl⟩ (fun r_200 H10 locs10 hr_200 hP10 hS10 => ?_)
      have hD10 := hD9
      clear hP9 hD9 hS9 locs9 H9
      subst hr_200
      refine lv_bipush (v := 99) hx hb dX7_gapItem_203 (by decide) ?_
      refine cV_i (wc := [mO cy mm ik (nI n) (nI ((g6 T n S ps).2)) (nI (te T n ((g6 T n S ps).2))) vl1_182 (b2i ((g6 T n S ps).1 = true)) rm rr om, ia cy (mm 5) 120 T]) (wr := [ia cy (mm 1) 169 S]) (rest := []) hx hb hml hown hw hG hK hP10 hD10 hS10 hA hl7 kc_X7_perhaps kw_5_41 [.int (b2i ((g6 T n S ps).1 = false ∧ isW T n ((g6 T n S ps).2) 10 = true)), .int 99] (c_X7_perhaps l D cy G H10.size mm ik vl1_182 rm rr om n T (g6 T n S ps) 10 99 (by first | omega | assumption) hg6 (by decide)) [0, 2] [1] rfl rfl rfl rfl rfl 0 rfl rfl rfl rfl rfl (Nat.le_of_ble_eq_true rfl) ⟨Nat.le_of_ble_eq_true rfl, Nat.le_of_ble_eq_true rfl⟩ dX7_gapItem_205 ⟨Nat.le_of_ble_eq_true rfl, Nat.le_of_ble_eq_true rfl⟩ (fun r_205 u9 H11 locs11 hu9 hP11 hD11 hS11 => ?_)
      clear hP10 hD10 hS10 locs10 H10
      obtain ⟨vl1_205, rfl⟩ : ∃ z9, z9 = u9 := ⟨_, rfl⟩
      have hvl_205 := hu9
      replace hvl_205 : (phR T n 10 99 (g6 T n S ps)).1 = false → r_205 = phV T n 10 ((g6 T n S ps).2) := hvl_205
      replace hP11 : va_P D vwCl ([ia cy (mm 1) 169 S, mO cy mm ik (nI n) (nI ((phR T n 10 99 (g6 T n S ps)).2)) (nI (te T n ((phR T n 10 99 (g6 T n S ps)).2))) vl1_205 (b2i ((phR T n 10 99 (g6 T n S ps)).1 = true)) rm rr om, ia cy (mm 5) 120 T]) H11 := hP11
      replace hD11 : va_D (va_A _ sz) ([ia cy (mm 1) 169 S, mO cy mm ik (nI n) (nI ((phR T n 10 99 (g6 T n S ps)).2)) (nI (te T n ((phR T n 10 99 (g6 T n S ps)).2))) vl1_205 (b2i ((phR T n 10 99 (g6 T n S ps)).1 = true)) rm rr om, ia cy (mm 5) 120 T]) := hD11
      replace hP11 := hP11.sub (ws' := [mO cy mm ik (nI n) (nI ((phR T n 10 99 (g6 T n S ps)).2)) (nI (te T n ((phR T n 10 99 (g6 T n S ps)).2))) vl1_205 (b2i ((phR T n 10 99 (g6 T n S ps)).1 = true)) rm rr om, ia cy (mm 1) 169 S, ia cy (mm 5) 120 T]) [1, 0, 2] rfl
      replace hD11 := hD11.sub (ws' := [mO cy mm ik (nI n) (nI ((phR T n 10 99 (g6 T n S ps)).2)) (nI (te T n ((phR T n 10 99 (g6 T n S ps)).2))) vl1_205 (b2i ((phR T n 10 99 (g6 T n S ps)).1 = true)) rm rr om, ia cy (mm 1) 169 S, ia cy (mm 5) 120 T]) [1, 0, 2] (by decide) rfl
      have hp9 : phR T n 10 99 (g6 T n S ps) = (g7 T n S ps) := rfl
      have hq9 : ([mO cy mm ik (nI n) (nI ((phR T n 10 99 (g6 T n S ps)).2)) (nI (te T n ((phR T n 10 99 (g6 T n S ps)).2))) vl1_205 (b2i ((phR T n 10 99 (g6 T n S ps)).1 = true)) rm rr om, ia cy (mm 1) 169 S, ia cy (mm 5) 120 T]) = ([mO cy mm ik (nI n) (nI ((g7 T n S ps).2)) (nI (te T n ((phR T n 10 99 (g6 T n S ps)).2))) vl1_205 (b2i ((phR T n 10 99 (g6 T n S ps)).1 = true)) rm rr om, ia cy (mm 1) 169 S, ia cy (mm 5) 120 T]) := congrArg (fun z9 => [mO cy mm ik (nI n) z9 (nI (te T n ((phR T n 10 99 (g6 T n S ps)).2))) vl1_205 (b2i ((phR T n 10 99 (g6 T n S ps)).1 = true)) rm rr om, ia cy (mm 1) 169 S, ia cy (mm 5) 120 T]) (show (nI ((phR T n 10 99 (g6 T n S ps)).2)) = (nI ((g7 T n S ps).2)) from congrArg (fun z9 : Bool × Nat => nI (z9.2)) hp9)
      replace hP11 := (congrArg (fun z9 => va_P D vwCl z9 _) hq9).mp hP11
      replace hD11 := (congrArg (fun z9 => va_D _ z9) hq9).mp hD11
      clear hq9
      have hq9 : ([mO cy mm ik (nI n) (nI ((g7 T n S ps).2)) (nI (te T n ((phR T n 10 99 (g6 T n S ps)).2))) vl1_205 (b2i ((phR T n 10 99 (g6 T n S ps)).1 = true)) rm rr om, ia cy (mm 1) 169 S, ia cy (mm 5) 120 T]) = ([mO cy mm ik (nI n) (nI ((g7 T n S ps).2)) (nI (te T n ((g7 T n S ps).2))) vl1_205 (b2i ((phR T n 10 99 (g6 T n S ps)).1 = true)) rm rr om, ia cy (mm 1) 169 S, ia cy (mm 5) 120 T]) := congrArg (fun z9 => [mO cy mm ik (nI n) (nI ((g7 T n S ps).2)) z9 vl1_205 (b2i ((phR T n 10 99 (g6 T n S ps)).1 = true)) rm rr om, ia cy (mm 1) 169 S, ia cy (mm 5) 120 T]) (show (nI (te T n ((phR T n 10 99 (g6 T n S ps)).2))) = (nI (te T n ((g7 T n S ps).2))) from congrArg (fun z9 : Bool × Nat => nI (te T n (z9.2))) hp9)
      replace hP11 := (congrArg (fun z9 => va_P D vwCl z9 _) hq9).mp hP11
      replace hD11 := (congrArg (fun z9 => va_D _ z9) hq9).mp hD11
      clear hq9
      have hq9 : ([mO cy mm ik (nI n) (nI ((g7 T n S ps).2)) (nI (te T n ((g7 T n S ps).2))) vl1_205 (b2i ((phR T n 10 99 (g6 T n S ps)).1 = true)) rm rr om, ia cy (mm 1) 169 S, ia cy (mm 5) 120 T]) = ([mO cy mm ik (nI n) (nI ((g7 T n S ps).2)) (nI (te T n ((g7 T n S ps).2))) vl1_205 (b2i ((g7 T n S ps).1 = true)) rm rr om, ia cy (mm 1) 169 S, ia cy (mm 5) 120 T]) := congrArg (fun z9 => [mO cy mm ik (nI n) (nI ((g7 T n S ps).2)) (nI (te T n ((g7 T n S ps).2))) vl1_205 z9 rm rr om, ia cy (mm 1) 169 S, ia cy (mm 5) 120 T]) (show (b2i ((phR T n 10 99 (g6 T n S ps)).1 = true)) = (b2i ((g7 T n S ps).1 = true)) from congrArg (fun z9 : Bool × Nat => b2i (z9.1 = true)) hp9)
      replace hP11 := (congrArg (fun z9 => va_P D vwCl z9 _) hq9).mp hP11
      replace hD11 := (congrArg (fun z9 => va_D _ z9) hq9).mp hD11
      clear hq9
      clear hp9
      refine lv_istore (lv' := [(7, .int r_205), (6, .int r_182), (5, .int r_160), (4, .int vl1_133), (3, .int ot9), (2, .int vl1_30), (0, .ref (mm 0)), (1, .int x1)]) hx hb dX7_gapItem_208 hl7 (by decide) rfl (fun ls8 hl8 => ?_)
      clear hl7 ls7
      refine lv_aload_n hx hb dX7_gapItem_210 rfl (lv_at hl8 6 rfl) ?_
      refine va_get (D := D) (ci := 7) (v := .int (b2i ((g7 T n S ps).1 = true))) (C := RX7) (T := TX7) (N := 23) hx hb hw iX7 hown hK hP11 0 rfl rfl 10 (by decide) (hw _ kw_4_74) (fun _ h9 => h9) rfl dX7_gapItem_211 ?_
      refine lb_ne (tgt := 233) hx hb dX7_gapItem_214 (by decide) (fun c_214 => ?_) (fun c_214 => ?_)
      · have hq9 : ([mO cy mm ik (nI n) (nI ((g7 T n S ps).2)) (nI (te T n ((g7 T n S ps).2))) vl1_205 (b2i ((g7 T n S ps).1 = true)) rm rr om, ia cy (mm 1) 169 S, ia cy (mm 5) 120 T]) = ([mO cy mm ik (nI n) (nI ((g7 T n S ps).2)) (nI (te T n ((g7 T n S ps).2))) vl1_205 (b2i ((g7 T n S ps).1 = true)) rm rr om, ia cy (mm 1) 169 (if (g7 T n S ps).1 = true then S else gpS T n S x1 ps), ia cy (mm 5) 120 T]) := congrArg (fun z9 => [mO cy mm ik (nI n) (nI ((g7 T n S ps).2)) (nI (te T n ((g7 T n S ps).2))) vl1_205 (b2i ((g7 T n S ps).1 = true)) rm rr om, ia cy (mm 1) 169 z9, ia cy (mm 5) 120 T]) (show S = (if (g7 T n S ps).1 = true then S else gpS T n S x1 ps) from (if_pos c_214).symm)
        replace hP11 := (congrArg (fun z9 => va_P D vwCl z9 _) hq9).mp hP11
        replace hD11 := (congrArg (fun z9 => va_D _ z9) hq9).mp hD11
        clear hq9
        refine re_v vl1_205 hx hb hr hlocks hP11 hD11 hS11 dX7_gapItem_233 ?_
        exact (trivial)
      · have hal9 := g_all (T := T) (n := n) (S := S) (s := ps) (by have h9 := c_214; simpa using h9)
        have h7f : (g7 T n S ps).1 = false := by have h9 := c_214; simpa using h9
        refine lv_aload_n hx hb dX7_gapItem_217 rfl (lv_at hl8 6 rfl) ?_
        refine lv_iload_n hx hb dX7_gapItem_218 rfl (lv_at hl8 7 rfl) ?_
        refine lv_iload_n hx hb dX7_gapItem_219 rfl (lv_at hl8 5 rfl) ?_
        refine lv_iload_n hx hb dX7_gapItem_220 rfl (lv_at hl8 4 rfl) ?_
        refine lv_iload hx hb dX7_gapItem_221 (lv_at hl8 3 rfl) ?_
        refine lv_iload hx hb dX7_gapItem_223 (lv_at hl8 2 rfl) ?_
        refine lv_iload hx hb dX7_gapItem_225 (lv_at hl8 1 rfl) ?_
        refine lv_iload hx hb dX7_gapItem_227 (lv_at hl8 0 rfl) ?_
        refine cV_i (wc := [mO cy mm ik (nI n) (nI ((g7 T n S ps).2)) (nI (te T n ((g7 T n S ps).2))) vl1_205 (b2i ((g7 T n S ps).1 = true)) rm rr om, ia cy (mm 1) 169 S]) (wr := [ia cy (mm 5) 120 T]) (rest := []) hx hb hml hown hw hG hK hP11 hD11 hS11 hA hl8 kc_X7_newGap kw_4_161 [.int x1, .int vl1_30, .int ot9, .int vl1_133, .int r_160, .int r_182, .int r_205] (c_X7_newGap l D cy G H11.size mm ik (nI n) (nI ((g7 T n S ps).2)) (nI (te T n ((g7 T n S ps).2))) vl1_205 (b2i ((g7 T n S ps).1 = true)) rm rr om S x1 vl1_30 ot9 vl1_133 r_160 r_182 r_205 wf hal9.2.2.2.2.2) [0, 1] [2] rfl rfl rfl rfl rfl 0 rfl rfl rfl rfl rfl (Nat.le_of_ble_eq_true rfl) ⟨Nat.le_of_ble_eq_true rfl, Nat.le_of_ble_eq_true rfl⟩ dX7_gapItem_229 ⟨Nat.le_of_ble_eq_true rfl, Nat.le_of_ble_eq_true rfl⟩ (fun r_229 u9 H12 locs12 hu9 hP12 hD12 hS12 => ?_)
        clear hP11 hD11 hS11 locs11 H11
        have hr_229 := hu9
        replace hP12 : va_P D vwCl ([ia cy (mm 5) 120 T, mO cy mm ik (nI n) (nI ((g7 T n S ps).2)) (nI (te T n ((g7 T n S ps).2))) vl1_205 (b2i ((g7 T n S ps).1 = true)) rm rr om, ia cy (mm 1) 169 (newGap S (gcN S) x1 vl1_30 ot9 vl1_133 r_160 r_182 r_205)]) H12 := hP12
        replace hD12 : va_D (va_A _ sz) ([ia cy (mm 5) 120 T, mO cy mm ik (nI n) (nI ((g7 T n S ps).2)) (nI (te T n ((g7 T n S ps).2))) vl1_205 (b2i ((g7 T n S ps).1 = true)) rm rr om, ia cy (mm 1) 169 (newGap S (gcN S) x1 vl1_30 ot9 vl1_133 r_160 r_182 r_205)]) := hD12
        replace hP12 := hP12.sub (ws' := [mO cy mm ik (nI n) (nI ((g7 T n S ps).2)) (nI (te T n ((g7 T n S ps).2))) vl1_205 (b2i ((g7 T n S ps).1 = true)) rm rr om, ia cy (mm 1) 169 (newGap S (gcN S) x1 vl1_30 ot9 vl1_133 r_160 r_182 r_205), ia cy (mm 5) 120 T]) [1, 2, 0] rfl
        replace hD12 := hD12.sub (ws' := [mO cy mm ik (nI n) (nI ((g7 T n S ps).2)) (nI (te T n ((g7 T n S ps).2))) vl1_205 (b2i ((g7 T n S ps).1 = true)) rm rr om, ia cy (mm 1) 169 (newGap S (gcN S) x1 vl1_30 ot9 vl1_133 r_160 r_182 r_205), ia cy (mm 5) 120 T]) [1, 2, 0] (by decide) rfl
        subst hr_229
        refine lv_pop hx hb dX7_gapItem_232 rfl ?_
        have hq9 : ([mO cy mm ik (nI n) (nI ((g7 T n S ps).2)) (nI (te T n ((g7 T n S ps).2))) vl1_205 (b2i ((g7 T n S ps).1 = true)) rm rr om, ia cy (mm 1) 169 (newGap S (gcN S) x1 vl1_30 ot9 vl1_133 r_160 r_182 r_205), ia cy (mm 5) 120 T]) = ([mO cy mm ik (nI n) (nI ((g7 T n S ps).2)) (nI (te T n ((g7 T n S ps).2))) vl1_205 (b2i ((g7 T n S ps).1 = true)) rm rr om, ia cy (mm 1) 169 (if (g7 T n S ps).1 = true then S else gpS T n S x1 ps), ia cy (mm 5) 120 T]) := congrArg (fun z9 => [mO cy mm ik (nI n) (nI ((g7 T n S ps).2)) (nI (te T n ((g7 T n S ps).2))) vl1_205 (b2i ((g7 T n S ps).1 = true)) rm rr om, ia cy (mm 1) 169 z9, ia cy (mm 5) 120 T]) (show (newGap S (gcN S) x1 vl1_30 ot9 vl1_133 r_160 r_182 r_205) = (if (g7 T n S ps).1 = true then S else gpS T n S x1 ps) from by rw [if_neg c_214]; unfold gpS; rw [hvl_30 hal9.2.2.2.2.1, hot hal9.2.2.2.1, hvl_133 hal9.2.2.1, hvl_160 hal9.2.1, hvl_182 hal9.1, hvl_205 h7f])
        replace hP12 := (congrArg (fun z9 => va_P D vwCl z9 _) hq9).mp hP12
        replace hD12 := (congrArg (fun z9 => va_D _ z9) hq9).mp hD12
        clear hq9
        refine re_v vl1_205 hx hb hr hlocks hP12 hD12 hS12 dX7_gapItem_233 ?_
        exact (trivial)
    refine lv_aload_n hx hb dX7_gapItem_40 rfl (lv_at hl3 2 rfl) ?_
    refine lv_bipush (v := 111) hx hb dX7_gapItem_41 (by decide) ?_
    refine lv_bipush (v := 117) hx hb dX7_gapItem_43 (by decide) ?_
    refine lv_bipush (v := 116) hx hb dX7_gapItem_45 (by decide) ?_
    refine lv_iconst (v := 0) hx hb dX7_gapItem_47 (by decide) ?_
    refine lv_iconst (v := 0) hx hb dX7_gapItem_48 (by decide) ?_
    refine lv_iconst (v := 0) hx hb dX7_gapItem_49 (by decide) ?_
    refine lv_iconst (v := 0) hx hb dX7_gapItem_50 (by decide) ?_
    refine rV_i (wc := [mO cy mm ik (nI n) (nI ((g2 T n S ps).2)) (nI (te T n ((g2 T n S ps).2))) vl1_30 (b2i ((g2 T n S ps).1 = true)) rm rr om, ia cy (mm 5) 120 T]) (rest := []) hx hb hml hown hw hG hK hP3 hS3 hA hl3 kc_X7_isWord kw_5_17 [.int 111, .int 117, .int 116, .int 0, .int 0, .int 0, .int 0] (c_X7_isWord l D cy G H3.size mm ik vl1_30 rm rr om n T (g2 T n S ps) 7 111 117 116 0 0 0 0 (by first | omega | assumption) hg2 (by decide) (by decide) (by decide) (by decide) (by decide) (by decide) (by decide) (by decide)) [0, 2] rfl 0 rfl rfl rfl rfl rfl (Nat.le_of_ble_eq_true rfl) ⟨Nat.le_of_ble_eq_true rfl, Nat.le_of_ble_eq_true rfl⟩ dX7_gapItem_51 ⟨Nat.le_of_ble_eq_true rfl, Nat.le_of_ble_eq_true rfl⟩ (fun r_51 H4 locs4 hr_51 hP4 hS4 => ?_)
    have hD4 := hD3
    clear hP3 hD3 hS3 locs3 H3
    subst hr_51
    refine lb_eq (tgt := 65) hx hb dX7_gapItem_54 (by decide) (fun c_54 => ?_) (fun c_54 => ?_)
    · refine wjn (ι := Unit) (A := (va_A ([mO cy mm ik (nI n) (nI ((false, ps).2)) (nI (te T n ((false, ps).2))) vl (b2i ((false, ps).1 = true)) rm rr om, ia cy (mm 1) 169 S, ia cy (mm 5) 120 T]) sz)) (nL := 8) (D := D) (fun x9 => True) (fun x9 => [mO cy mm ik (nI n) (nI ((g2 T n S ps).2)) (nI (te T n ((g2 T n S ps).2))) vl1_30 (b2i ((g2 T n S ps).1 = true)) rm rr om, ia cy (mm 1) 169 S, ia cy (mm 5) 120 T]) (fun x9 => [(3, .int (-1)), (2, .int vl1_30), (0, .ref (mm 0)), (1, .int x1)]) (fun x9 => [.int (b2i (smB T n (numV T n ((g1 T n S ps).2)) (g2 T n S ps) = true))]) 99 ?_ (fun J_99 => ?_)
      · intro x9 hI H5 locs5 ls4 hP5 hD5 hS5 hl4
        replace hP5 : va_P D vwCl ([mO cy mm ik (nI n) (nI ((g2 T n S ps).2)) (nI (te T n ((g2 T n S ps).2))) vl1_30 (b2i ((g2 T n S ps).1 = true)) rm rr om, ia cy (mm 1) 169 S, ia cy (mm 5) 120 T]) H5 := hP5
        replace hD5 : va_D (va_A _ sz) ([mO cy mm ik (nI n) (nI ((g2 T n S ps).2)) (nI (te T n ((g2 T n S ps).2))) vl1_30 (b2i ((g2 T n S ps).1 = true)) rm rr om, ia cy (mm 1) 169 S, ia cy (mm 5) 120 T]) := hD5
        replace hl4 : lv_has ls4 8 [(3, .int (-1)), (2, .int vl1_30), (0, .ref (mm 0)), (1, .int x1)] := hl4
        show W p l e _ s m _ below meth c _ _ _ _ _ (F0 m 99 ls4 [.int (b2i (smB T n (numV T n ((g1 T n S ps).2)) (g2 T n S ps) = true))])
        refine lv_istore (lv' := [(4, .int (b2i (smB T n (numV T n ((g1 T n S ps).2)) (g2 T n S ps) = true))), (3, .int (-1)), (2, .int vl1_30), (0, .ref (mm 0)), (1, .int x1)]) hx hb dX7_gapItem_99 hl4 (by decide) rfl (fun ls5 hl5 => ?_)
        clear hl4 ls4
        refine lv_iload hx hb dX7_gapItem_101 (lv_at hl5 0 rfl) ?_
        refine lb_eq (tgt := 111) hx hb dX7_gapItem_103 (by decide) (fun c_103 => ?_) (fun c_103 => ?_)
        · refine lv_aload_n hx hb dX7_gapItem_111 rfl (lv_at hl5 3 rfl) ?_
          refine lv_iconst (v := 0) hx hb dX7_gapItem_112 (by decide) ?_
          refine lv_aload_n hx hb dX7_gapItem_113 rfl (lv_at hl5 3 rfl) ?_
          refine va_get (D := D) (ci := 7) (v := .ref (mm 1)) (C := RX7) (T := TX7) (N := 23) hx hb hw iX7 hown hK hP5 0 rfl rfl 0 (by decide) (hw _ kw_4_64) (fun _ h9 => h9) rfl dX7_gapItem_114 ?_
          refine lv_iconst (v := 0) hx hb dX7_gapItem_117 (by decide) ?_
          refine ald_i (f := S) hx hb hK hP5 1 0 rfl rfl 0 rfl (by first | omega | assumption) (by decide) dX7_gapItem_118 ?_
          refine tp (show (S 0) = nI (rcN S) from wf_r wf) ?_
          refine lv_iconst (v := 1) hx hb dX7_gapItem_119 (by decide) ?_
          refine lv_isub hx hb dX7_gapItem_120 ?_
          refine cV_v (wc := [mO cy mm ik (nI n) (nI ((g2 T n S ps).2)) (nI (te T n ((g2 T n S ps).2))) vl1_30 (b2i ((g2 T n S ps).1 = true)) rm rr om, ia cy (mm 5) 120 T]) (wr := [ia cy (mm 1) 169 S]) (rest := []) hx hb hml hown hw hG hK hP5 hD5 hS5 hA hl5 kc_X7_number kw_5_33 [.int 0, .int ((nI (rcN S)) - 1)] (c_X7_number l D cy G H5.size mm ik vl1_30 rm rr om n T (g2 T n S ps) ((nI (rcN S)) - 1) (by first | omega | assumption) hg2 hrm) [0, 2] [1] rfl rfl rfl rfl rfl 0 rfl rfl rfl rfl rfl (Nat.le_of_ble_eq_true rfl) ⟨Nat.le_of_ble_eq_true rfl, Nat.le_of_ble_eq_true rfl⟩ dX7_gapItem_121 ⟨Nat.le_of_ble_eq_true rfl, Nat.le_of_ble_eq_true rfl⟩ (fun u9 H6 locs6 hu9 hP6 hD6 hS6 => ?_)
          clear hP5 hD5 hS5 locs5 H5
          obtain ⟨vl1_121, rfl⟩ : ∃ z9, z9 = u9 := ⟨_, rfl⟩
          have hvl_121 := hu9
          replace hvl_121 : (nmR T n ((nI (rcN S)) - 1) (g2 T n S ps)).1 = false → vl1_121 = nI (numV T n ((g2 T n S ps).2)) := hvl_121
          replace hP6 : va_P D vwCl ([ia cy (mm 1) 169 S, mO cy mm ik (nI n) (nI ((nmR T n ((nI (rcN S)) - 1) (g2 T n S ps)).2)) (nI (te T n ((nmR T n ((nI (rcN S)) - 1) (g2 T n S ps)).2))) vl1_121 (b2i ((nmR T n ((nI (rcN S)) - 1) (g2 T n S ps)).1 = true)) rm rr om, ia cy (mm 5) 120 T]) H6 := hP6
          replace hD6 : va_D (va_A _ sz) ([ia cy (mm 1) 169 S, mO cy mm ik (nI n) (nI ((nmR T n ((nI (rcN S)) - 1) (g2 T n S ps)).2)) (nI (te T n ((nmR T n ((nI (rcN S)) - 1) (g2 T n S ps)).2))) vl1_121 (b2i ((nmR T n ((nI (rcN S)) - 1) (g2 T n S ps)).1 = true)) rm rr om, ia cy (mm 5) 120 T]) := hD6
          replace hP6 := hP6.sub (ws' := [mO cy mm ik (nI n) (nI ((nmR T n ((nI (rcN S)) - 1) (g2 T n S ps)).2)) (nI (te T n ((nmR T n ((nI (rcN S)) - 1) (g2 T n S ps)).2))) vl1_121 (b2i ((nmR T n ((nI (rcN S)) - 1) (g2 T n S ps)).1 = true)) rm rr om, ia cy (mm 1) 169 S, ia cy (mm 5) 120 T]) [1, 0, 2] rfl
          replace hD6 := hD6.sub (ws' := [mO cy mm ik (nI n) (nI ((nmR T n ((nI (rcN S)) - 1) (g2 T n S ps)).2)) (nI (te T n ((nmR T n ((nI (rcN S)) - 1) (g2 T n S ps)).2))) vl1_121 (b2i ((nmR T n ((nI (rcN S)) - 1) (g2 T n S ps)).1 = true)) rm rr om, ia cy (mm 1) 169 S, ia cy (mm 5) 120 T]) [1, 0, 2] (by decide) rfl
          have hp9 : nmR T n ((nI (rcN S)) - 1) (g2 T n S ps) = (g3 T n S ps) := ot_other c_54 c_103
          have hq9 : ([mO cy mm ik (nI n) (nI ((nmR T n ((nI (rcN S)) - 1) (g2 T n S ps)).2)) (nI (te T n ((nmR T n ((nI (rcN S)) - 1) (g2 T n S ps)).2))) vl1_121 (b2i ((nmR T n ((nI (rcN S)) - 1) (g2 T n S ps)).1 = true)) rm rr om, ia cy (mm 1) 169 S, ia cy (mm 5) 120 T]) = ([mO cy mm ik (nI n) (nI ((g3 T n S ps).2)) (nI (te T n ((nmR T n ((nI (rcN S)) - 1) (g2 T n S ps)).2))) vl1_121 (b2i ((nmR T n ((nI (rcN S)) - 1) (g2 T n S ps)).1 = true)) rm rr om, ia cy (mm 1) 169 S, ia cy (mm 5) 120 T]) := congrArg (fun z9 => [mO cy mm ik (nI n) z9 (nI (te T n ((nmR T n ((nI (rcN S)) - 1) (g2 T n S ps)).2))) vl1_121 (b2i ((nmR T n ((nI (rcN S)) - 1) (g2 T n S ps)).1 = true)) rm rr om, ia cy (mm 1) 169 S, ia cy (mm 5) 120 T]) (show (nI ((nmR T n ((nI (rcN S)) - 1) (g2 T n S ps)).2)) = (nI ((g3 T n S ps).2)) from congrArg (fun z9 : Bool × Nat => nI (z9.2)) hp9)
          replace hP6 := (congrArg (fun z9 => va_P D vwCl z9 _) hq9).mp hP6
          replace hD6 := (congrArg (fun z9 => va_D _ z9) hq9).mp hD6
          clear hq9
          have hq9 : ([mO cy mm ik (nI n) (nI ((g3 T n S ps).2)) (nI (te T n ((nmR T n ((nI (rcN S)) - 1) (g2 T n S ps)).2))) vl1_121 (b2i ((nmR T n ((nI (rcN S)) - 1) (g2 T n S ps)).1 = true)) rm rr om, ia cy (mm 1) 169 S, ia cy (mm 5) 120 T]) = ([mO cy mm ik (nI n) (nI ((g3 T n S ps).2)) (nI (te T n ((g3 T n S ps).2))) vl1_121 (b2i ((nmR T n ((nI (rcN S)) - 1) (g2 T n S ps)).1 = true)) rm rr om, ia cy (mm 1) 169 S, ia cy (mm 5) 120 T]) := congrArg (fun z9 => [mO cy mm ik (nI n) (nI ((g3 T n S ps).2)) z9 vl1_121 (b2i ((nmR T n ((nI (rcN S)) - 1) (g2 T n S ps)).1 = true)) rm rr om, ia cy (mm 1) 169 S, ia cy (mm 5) 120 T]) (show (nI (te T n ((nmR T n ((nI (rcN S)) - 1) (g2 T n S ps)).2))) = (nI (te T n ((g3 T n S ps).2))) from congrArg (fun z9 : Bool × Nat => nI (te T n (z9.2))) hp9)
          replace hP6 := (congrArg (fun z9 => va_P D vwCl z9 _) hq9).mp hP6
          replace hD6 := (congrArg (fun z9 => va_D _ z9) hq9).mp hD6
          clear hq9
          have hq9 : ([mO cy mm ik (nI n) (nI ((g3 T n S ps).2)) (nI (te T n ((g3 T n S ps).2))) vl1_121 (b2i ((nmR T n ((nI (rcN S)) - 1) (g2 T n S ps)).1 = true)) rm rr om, ia cy (mm 1) 169 S, ia cy (mm 5) 120 T]) = ([mO cy mm ik (nI n) (nI ((g3 T n S ps).2)) (nI (te T n ((g3 T n S ps).2))) vl1_121 (b2i ((g3 T n S ps).1 = true)) rm rr om, ia cy (mm 1) 169 S, ia cy (mm 5) 120 T]) := congrArg (fun z9 => [mO cy mm ik (nI n) (nI ((g3 T n S ps).2)) (nI (te T n ((g3 T n S ps).2))) vl1_121 z9 rm rr om, ia cy (mm 1) 169 S, ia cy (mm 5) 120 T]) (show (b2i ((nmR T n ((nI (rcN S)) - 1) (g2 T n S ps)).1 = true)) = (b2i ((g3 T n S ps).1 = true)) from congrArg (fun z9 : Bool × Nat => b2i (z9.1 = true)) hp9)
          replace hP6 := (congrArg (fun z9 => va_P D vwCl z9 _) hq9).mp hP6
          replace hD6 := (congrArg (fun z9 => va_D _ z9) hq9).mp hD6
          clear hq9
          clear hp9
          refine lv_aload_n hx hb dX7_gapItem_124 rfl (lv_at hl5 3 rfl) ?_
          refine va_get (D := D) (ci := 7) (v := .int vl1_121) (C := RX7) (T := TX7) (N := 23) hx hb hw iX7 hown hK hP6 0 rfl rfl 9 (by decide) (hw _ kw_4_73) (fun _ h9 => h9) rfl dX7_gapItem_125 ?_
          refine lv_istore_n (lv' := [(3, .int vl1_121), (4, .int (b2i (smB T n (numV T n ((g1 T n S ps).2)) (g2 T n S ps) = true))), (2, .int vl1_30), (0, .ref (mm 0)), (1, .int x1)]) hx hb dX7_gapItem_128 rfl hl5 (by decide) rfl (fun ls6 hl6 => ?_)
          clear hl5 ls5
          exact J_129 (vl1_121, vl1_121) (fun z9 => (hvl_121 (by rw [ot_other c_54 c_103]; exact z9)).trans (ot_v c_54 z9).1.symm) H6 locs6 ls6 hP6 hD6 hS6 (lv_sub hl6 [0, 2, 3, 4] rfl)
        · refine lv_aload_n hx hb dX7_gapItem_106 rfl (lv_at hl5 3 rfl) ?_
          refine lv_iconst (v := 1) hx hb dX7_gapItem_107 (by decide) ?_
          refine pt (D := D) (ci := 7) (v := .int 1) (ty := .boolean) (C := RX7) (T := TX7) (N := 23) (ws' := [mO cy mm ik (nI n) (nI ((g2 T n S ps).2)) (nI (te T n ((g2 T n S ps).2))) vl1_30 1 rm rr om, ia cy (mm 1) 169 S, ia cy (mm 5) 120 T]) hx hb hw iX7 tyX7 tyX7_ok nmX7 hown hK hP5 hD5 hS5 0 rfl rfl 10 (by decide) kw_4_74 (fun _ h9 => h9) rfl (by decide +kernel) rfl rfl (Nat.le_of_ble_eq_true rfl) rfl dX7_gapItem_108 (fun H6 locs6 hP6 hD6 hS6 => ?_)
          clear hP5 hD5 hS5 locs5 H5
          have hq9 : ([mO cy mm ik (nI n) (nI ((g2 T n S ps).2)) (nI (te T n ((g2 T n S ps).2))) vl1_30 1 rm rr om, ia cy (mm 1) 169 S, ia cy (mm 5) 120 T]) = ([mO cy mm ik (nI n) (nI ((g2 T n S ps).2)) (nI (te T n ((g2 T n S ps).2))) vl1_30 (b2i ((true, (g2 T n S ps).2).1 = true)) rm rr om, ia cy (mm 1) 169 S, ia cy (mm 5) 120 T]) := congrArg (fun z9 => [mO cy mm ik (nI n) (nI ((g2 T n S ps).2)) (nI (te T n ((g2 T n S ps).2))) vl1_30 z9 rm rr om, ia cy (mm 1) 169 S, ia cy (mm 5) 120 T]) (show 1 = (b2i ((true, (g2 T n S ps).2).1 = true)) from rfl)
          replace hP6 := (congrArg (fun z9 => va_P D vwCl z9 _) hq9).mp hP6
          replace hD6 := (congrArg (fun z9 => va_D _ z9) hq9).mp hD6
          clear hq9
          have hq9 : ([mO cy mm ik (nI n) (nI ((g2 T n S ps).2)) (nI (te T n ((g2 T n S ps).2))) vl1_30 (b2i ((true, (g2 T n S ps).2).1 = true)) rm rr om, ia cy (mm 1) 169 S, ia cy (mm 5) 120 T]) = ([mO cy mm ik (nI n) (nI ((true, (g2 T n S ps).2).2)) (nI (te T n ((g2 T n S ps).2))) vl1_30 (b2i ((true, (g2 T n S ps).2).1 = true)) rm rr om, ia cy (mm 1) 169 S, ia cy (mm 5) 120 T]) := congrArg (fun z9 => [mO cy mm ik (nI n) z9 (nI (te T n ((g2 T n S ps).2))) vl1_30 (b2i ((true, (g2 T n S ps).2).1 = true)) rm rr om, ia cy (mm 1) 169 S, ia cy (mm 5) 120 T]) (show (nI ((g2 T n S ps).2)) = (nI ((true, (g2 T n S ps).2).2)) from rfl)
          replace hP6 := (congrArg (fun z9 => va_P D vwCl z9 _) hq9).mp hP6
          replace hD6 := (congrArg (fun z9 => va_D _ z9) hq9).mp hD6
          clear hq9
          have hq9 : ([mO cy mm ik (nI n) (nI ((true, (g2 T n S ps).2).2)) (nI (te T n ((g2 T n S ps).2))) vl1_30 (b2i ((true, (g2 T n S ps).2).1 = true)) rm rr om, ia cy (mm 1) 169 S, ia cy (mm 5) 120 T]) = ([mO cy mm ik (nI n) (nI ((true, (g2 T n S ps).2).2)) (nI (te T n ((true, (g2 T n S ps).2).2))) vl1_30 (b2i ((true, (g2 T n S ps).2).1 = true)) rm rr om, ia cy (mm 1) 169 S, ia cy (mm 5) 120 T]) := congrArg (fun z9 => [mO cy mm ik (nI n) (nI ((true, (g2 T n S ps).2).2)) z9 vl1_30 (b2i ((true, (g2 T n S ps).2).1 = true)) rm rr om, ia cy (mm 1) 169 S, ia cy (mm 5) 120 T]) (show (nI (te T n ((g2 T n S ps).2))) = (nI (te T n ((true, (g2 T n S ps).2).2))) from rfl)
          replace hP6 := (congrArg (fun z9 => va_P D vwCl z9 _) hq9).mp hP6
          replace hD6 := (congrArg (fun z9 => va_D _ z9) hq9).mp hD6
          clear hq9
          refine lv_aload_n hx hb dX7_gapItem_111 rfl (lv_at hl5 3 rfl) ?_
          refine lv_iconst (v := 0) hx hb dX7_gapItem_112 (by decide) ?_
          refine lv_aload_n hx hb dX7_gapItem_113 rfl (lv_at hl5 3 rfl) ?_
          refine va_get (D := D) (ci := 7) (v := .ref (mm 1)) (C := RX7) (T := TX7) (N := 23) hx hb hw iX7 hown hK hP6 0 rfl rfl 0 (by decide) (hw _ kw_4_64) (fun _ h9 => h9) rfl dX7_gapItem_114 ?_
          refine lv_iconst (v := 0) hx hb dX7_gapItem_117 (by decide) ?_
          refine ald_i (f := S) hx hb hK hP6 1 0 rfl rfl 0 rfl (by first | omega | assumption) (by decide) dX7_gapItem_118 ?_
          refine tp (show (S 0) = nI (rcN S) from wf_r wf) ?_
          refine lv_iconst (v := 1) hx hb dX7_gapItem_119 (by decide) ?_
          refine lv_isub hx hb dX7_gapItem_120 ?_
          refine cV_v (wc := [mO cy mm ik (nI n) (nI ((true, (g2 T n S ps).2).2)) (nI (te T n ((true, (g2 T n S ps).2).2))) vl1_30 (b2i ((true, (g2 T n S ps).2).1 = true)) rm rr om, ia cy (mm 5) 120 T]) (wr := [ia cy (mm 1) 169 S]) (rest := []) hx hb hml hown hw hG hK hP6 hD6 hS6 hA hl5 kc_X7_number kw_5_33 [.int 0, .int ((nI (rcN S)) - 1)] (c_X7_number l D cy G H6.size mm ik vl1_30 rm rr om n T (true, (g2 T n S ps).2) ((nI (rcN S)) - 1) (by first | omega | assumption) hg2 hrm) [0, 2] [1] rfl rfl rfl rfl rfl 0 rfl rfl rfl rfl rfl (Nat.le_of_ble_eq_true rfl) ⟨Nat.le_of_ble_eq_true rfl, Nat.le_of_ble_eq_true rfl⟩ dX7_gapItem_121 ⟨Nat.le_of_ble_eq_true rfl, Nat.le_of_ble_eq_true rfl⟩ (fun u9 H7 locs7 hu9 hP7 hD7 hS7 => ?_)
          clear hP6 hD6 hS6 locs6 H6
          obtain ⟨vl1_121, rfl⟩ : ∃ z9, z9 = u9 := ⟨_, rfl⟩
          have hvl_121 := hu9
          replace hvl_121 : (nmR T n ((nI (rcN S)) - 1) (true, (g2 T n S ps).2)).1 = false → vl1_121 = nI (numV T n ((true, (g2 T n S ps).2).2)) := hvl_121
          replace hP7 : va_P D vwCl ([ia cy (mm 1) 169 S, mO cy mm ik (nI n) (nI ((nmR T n ((nI (rcN S)) - 1) (true, (g2 T n S ps).2)).2)) (nI (te T n ((nmR T n ((nI (rcN S)) - 1) (true, (g2 T n S ps).2)).2))) vl1_121 (b2i ((nmR T n ((nI (rcN S)) - 1) (true, (g2 T n S ps).2)).1 = true)) rm rr om, ia cy (mm 5) 120 T]) H7 := hP7
          replace hD7 : va_D (va_A _ sz) ([ia cy (mm 1) 169 S, mO cy mm ik (nI n) (nI ((nmR T n ((nI (rcN S)) - 1) (true, (g2 T n S ps).2)).2)) (nI (te T n ((nmR T n ((nI (rcN S)) - 1) (true, (g2 T n S ps).2)).2))) vl1_121 (b2i ((nmR T n ((nI (rcN S)) - 1) (true, (g2 T n S ps).2)).1 = true)) rm rr om, ia cy (mm 5) 120 T]) := hD7
          replace hP7 := hP7.sub (ws' := [mO cy mm ik (nI n) (nI ((nmR T n ((nI (rcN S)) - 1) (true, (g2 T n S ps).2)).2)) (nI (te T n ((nmR T n ((nI (rcN S)) - 1) (true, (g2 T n S ps).2)).2))) vl1_121 (b2i ((nmR T n ((nI (rcN S)) - 1) (true, (g2 T n S ps).2)).1 = true)) rm rr om, ia cy (mm 1) 169 S, ia cy (mm 5) 120 T]) [1, 0, 2] rfl
          replace hD7 := hD7.sub (ws' := [mO cy mm ik (nI n) (nI ((nmR T n ((nI (rcN S)) - 1) (true, (g2 T n S ps).2)).2)) (nI (te T n ((nmR T n ((nI (rcN S)) - 1) (true, (g2 T n S ps).2)).2))) vl1_121 (b2i ((nmR T n ((nI (rcN S)) - 1) (true, (g2 T n S ps).2)).1 = true)) rm rr om, ia cy (mm 1) 169 S, ia cy (mm 5) 120 T]) [1, 0, 2] (by decide) rfl
          have hp9 : nmR T n ((nI (rcN S)) - 1) (true, (g2 T n S ps).2) = (g3 T n S ps) := ot_same c_54 c_103
          have hq9 : ([mO cy mm ik (nI n) (nI ((nmR T n ((nI (rcN S)) - 1) (true, (g2 T n S ps).2)).2)) (nI (te T n ((nmR T n ((nI (rcN S)) - 1) (true, (g2 T n S ps).2)).2))) vl1_121 (b2i ((nmR T n ((nI (rcN S)) - 1) (true, (g2 T n S ps).2)).1 = true)) rm rr om, ia cy (mm 1) 169 S, ia cy (mm 5) 120 T]) = ([mO cy mm ik (nI n) (nI ((g3 T n S ps).2)) (nI (te T n ((nmR T n ((nI (rcN S)) - 1) (true, (g2 T n S ps).2)).2))) vl1_121 (b2i ((nmR T n ((nI (rcN S)) - 1) (true, (g2 T n S ps).2)).1 = true)) rm rr om, ia cy (mm 1) 169 S, ia cy (mm 5) 120 T]) := congrArg (fun z9 => [mO cy mm ik (nI n) z9 (nI (te T n ((nmR T n ((nI (rcN S)) - 1) (true, (g2 T n S ps).2)).2))) vl1_121 (b2i ((nmR T n ((nI (rcN S)) - 1) (true, (g2 T n S ps).2)).1 = true)) rm rr om, ia cy (mm 1) 169 S, ia cy (mm 5) 120 T]) (show (nI ((nmR T n ((nI (rcN S)) - 1) (true, (g2 T n S ps).2)).2)) = (nI ((g3 T n S ps).2)) from congrArg (fun z9 : Bool × Nat => nI (z9.2)) hp9)
          replace hP7 := (congrArg (fun z9 => va_P D vwCl z9 _) hq9).mp hP7
          replace hD7 := (congrArg (fun z9 => va_D _ z9) hq9).mp hD7
          clear hq9
          have hq9 : ([mO cy mm ik (nI n) (nI ((g3 T n S ps).2)) (nI (te T n ((nmR T n ((nI (rcN S)) - 1) (true, (g2 T n S ps).2)).2))) vl1_121 (b2i ((nmR T n ((nI (rcN S)) - 1) (true, (g2 T n S ps).2)).1 = true)) rm rr om, ia cy (mm 1) 169 S, ia cy (mm 5) 120 T]) = ([mO cy mm ik (nI n) (nI ((g3 T n S ps).2)) (nI (te T n ((g3 T n S ps).2))) vl1_121 (b2i ((nmR T n ((nI (rcN S)) - 1) (true, (g2 T n S ps).2)).1 = true)) rm rr om, ia cy (mm 1) 169 S, ia cy (mm 5) 120 T]) := congrArg (fun z9 => [mO cy mm ik (nI n) (nI ((g3 T n S ps).2)) z9 vl1_121 (b2i ((nmR T n ((nI (rcN S)) - 1) (true, (g2 T n S ps).2)).1 = true)) rm rr om, ia cy (mm 1) 169 S, ia cy (mm 5) 120 T]) (show (nI (te T n ((nmR T n ((nI (rcN S)) - 1) (true, (g2 T n S ps).2)).2))) = (nI (te T n ((g3 T n S ps).2))) from congrArg (fun z9 : Bool × Nat => nI (te T n (z9.2))) hp9)
          replace hP7 := (congrArg (fun z9 => va_P D vwCl z9 _) hq9).mp hP7
          replace hD7 := (congrArg (fun z9 => va_D _ z9) hq9).mp hD7
          clear hq9
          have hq9 : ([mO cy mm ik (nI n) (nI ((g3 T n S ps).2)) (nI (te T n ((g3 T n S ps).2))) vl1_121 (b2i ((nmR T n ((nI (rcN S)) - 1) (true, (g2 T n S ps).2)).1 = true)) rm rr om, ia cy (mm 1) 169 S, ia cy (mm 5) 120 T]) = ([mO cy mm ik (nI n) (nI ((g3 T n S ps).2)) (nI (te T n ((g3 T n S ps).2))) vl1_121 (b2i ((g3 T n S ps).1 = true)) rm rr om, ia cy (mm 1) 169 S, ia cy (mm 5) 120 T]) := congrArg (fun z9 => [mO cy mm ik (nI n) (nI ((g3 T n S ps).2)) (nI (te T n ((g3 T n S ps).2))) vl1_121 z9 rm rr om, ia cy (mm 1) 169 S, ia cy (mm 5) 120 T]) (show (b2i ((nmR T n ((nI (rcN S)) - 1) (true, (g2 T n S ps).2)).1 = true)) = (b2i ((g3 T n S ps).1 = true)) from congrArg (fun z9 : Bool × Nat => b2i (z9.1 = true)) hp9)
          replace hP7 := (congrArg (fun z9 => va_P D vwCl z9 _) hq9).mp hP7
          replace hD7 := (congrArg (fun z9 => va_D _ z9) hq9).mp hD7
          clear hq9
          clear hp9
          refine lv_aload_n hx hb dX7_gapItem_124 rfl (lv_at hl5 3 rfl) ?_
          refine va_get (D := D) (ci := 7) (v := .int vl1_121) (C := RX7) (T := TX7) (N := 23) hx hb hw iX7 hown hK hP7 0 rfl rfl 9 (by decide) (hw _ kw_4_73) (fun _ h9 => h9) rfl dX7_gapItem_125 ?_
          refine lv_istore_n (lv' := [(3, .int vl1_121), (4, .int (b2i (smB T n (numV T n ((g1 T n S ps).2)) (g2 T n S ps) = true))), (2, .int vl1_30), (0, .ref (mm 0)), (1, .int x1)]) hx hb dX7_gapItem_128 rfl hl5 (by decide) rfl (fun ls6 hl6 => ?_)
          clear hl5 ls5
          exact J_129 (vl1_121, vl1_121) (fun z9 => (hvl_121 (by rw [ot_same c_54 c_103]; exact z9)).trans (ot_v c_54 z9).1.symm) H7 locs7 ls6 hP7 hD7 hS7 (lv_sub hl6 [0, 2, 3, 4] rfl)
      refine lv_aload_n hx hb dX7_gapItem_65 rfl (lv_at hl3 2 rfl) ?_
      refine va_get (D := D) (ci := 7) (v := .int (b2i ((g2 T n S ps).1 = true))) (C := RX7) (T := TX7) (N := 23) hx hb hw iX7 hown hK hP4 0 rfl rfl 10 (by decide) (hw _ kw_4_74) (fun _ h9 => h9) rfl dX7_gapItem_66 ?_
      refine lb_ne (tgt := 98) hx hb dX7_gapItem_69 (by decide) (fun c_69 => ?_) (fun c_69 => ?_)
      · refine lv_iconst (v := 0) hx hb dX7_gapItem_98 (by decide) ?_
        refine tp (show (0) = b2i (smB T n (numV T n ((g1 T n S ps).2)) (g2 T n S ps) = true) from (b2i_f (fun z9 => absurd ((of_decide_eq_true z9).1.symm.trans c_69) (by decide))).symm) ?_
        exact J_99 () trivial H4 locs4 ls3 hP4 hD4 hS4 (lv_sub hl3 [0, 1, 2, 3] rfl)
      · refine lv_aload_n hx hb dX7_gapItem_72 rfl (lv_at hl3 2 rfl) ?_
        refine lv_aload_n hx hb dX7_gapItem_73 rfl (lv_at hl3 2 rfl) ?_
        refine va_get (D := D) (ci := 7) (v := .int (nI ((g2 T n S ps).2))) (C := RX7) (T := TX7) (N := 23) hx hb hw iX7 hown hK hP4 0 rfl rfl 7 (by decide) (hw _ kw_4_71) (fun _ h9 => h9) rfl dX7_gapItem_74 ?_
        refine rV_i (wc := [mO cy mm ik (nI n) (nI ((g2 T n S ps).2)) (nI (te T n ((g2 T n S ps).2))) vl1_30 (b2i ((g2 T n S ps).1 = true)) rm rr om, ia cy (mm 5) 120 T]) (rest := []) hx hb hml hown hw hG hK hP4 hS4 hA hl3 kc_X7_byteAt kw_4_235 [.int (nI ((g2 T n S ps).2))] (c_X7_byteAt l D cy G H4.size mm ik (nI ((g2 T n S ps).2)) (nI (te T n ((g2 T n S ps).2))) vl1_30 (b2i ((g2 T n S ps).1 = true)) rm rr om n T ((g2 T n S ps).2) (by first | omega | assumption) (by omega)) [0, 2] rfl 0 rfl rfl rfl rfl rfl (Nat.le_of_ble_eq_true rfl) ⟨Nat.le_of_ble_eq_true rfl, Nat.le_of_ble_eq_true rfl⟩ dX7_gapItem_77 ⟨Nat.le_of_ble_eq_true rfl, Nat.le_of_ble_eq_true rfl⟩ (fun r_77 H5 locs5 hr_77 hP5 hS5 => ?_)
        have hD5 := hD4
        clear hP4 hD4 hS4 locs4 H4
        subst hr_77
        refine rT_i (wc := []) (rest := []) hx hb hml hown hw hG hK hP5 hS5 hA hl3 kc_X7_isDigit kw_5_4 [.int (bt T n ((g2 T n S ps).2))] (c_X7_isDigit l D cy G H5.size (bt T n ((g2 T n S ps).2))) [] rfl rfl rfl (Nat.le_of_ble_eq_true rfl) ⟨Nat.le_of_ble_eq_true rfl, Nat.le_of_ble_eq_true rfl⟩ dX7_gapItem_80 ⟨Nat.le_of_ble_eq_true rfl, Nat.le_of_ble_eq_true rfl⟩ (fun r_80 H6 locs6 hr_80 hP6 hS6 => ?_)
        have hD6 := hD5
        clear hP5 hD5 hS5 locs5 H5
        subst hr_80
        refine lb_eq (tgt := 98) hx hb dX7_gapItem_83 (by decide) (fun c_83 => ?_) (fun c_83 => ?_)
        · refine lv_iconst (v := 0) hx hb dX7_gapItem_98 (by decide) ?_
          refine tp (show (0) = b2i (smB T n (numV T n ((g1 T n S ps).2)) (g2 T n S ps) = true) from (b2i_f (fun z9 => c_83 (of_decide_eq_true z9).2.1)).symm) ?_
          exact J_99 () trivial H6 locs6 ls3 hP6 hD6 hS6 (lv_sub hl3 [0, 1, 2, 3] rfl)
        · refine lv_aload_n hx hb dX7_gapItem_86 rfl (lv_at hl3 2 rfl) ?_
          refine lv_iload_n hx hb dX7_gapItem_87 rfl (lv_at hl3 1 rfl) ?_
          refine tp (show (vl1_30) = nI (numV T n ((g1 T n S ps).2)) from hvl_30 (by have h9 := c_69; simpa using h9 : (g2 T n S ps).1 = false)) ?_
          refine rV_i (wc := [mO cy mm ik (nI n) (nI ((g2 T n S ps).2)) (nI (te T n ((g2 T n S ps).2))) vl1_30 (b2i ((g2 T n S ps).1 = true)) rm rr om, ia cy (mm 5) 120 T]) (rest := []) hx hb hml hown hw hG hK hP6 hS6 hA hl3 kc_X7_sameNumber kw_5_37 [.int (nI (numV T n ((g1 T n S ps).2)))] (c_X7_sameNumber l D cy G H6.size mm ik vl1_30 rm rr om n T (g2 T n S ps) (numV T n ((g1 T n S ps).2)) (by first | omega | assumption) hg2 (g_room wf (by have h9 := c_69; simpa using h9)) c_83) [0, 2] rfl 0 rfl rfl rfl rfl rfl (Nat.le_of_ble_eq_true rfl) ⟨Nat.le_of_ble_eq_true rfl, Nat.le_of_ble_eq_true rfl⟩ dX7_gapItem_88 ⟨Nat.le_of_ble_eq_true rfl, Nat.le_of_ble_eq_true rfl⟩ (fun r_88 H7 locs7 hr_88 hP7 hS7 => ?_)
          have hD7 := hD6
          clear hP6 hD6 hS6 locs6 H6
          subst hr_88
          refine lb_eq (tgt := 98) hx hb dX7_gapItem_91 (by decide) (fun c_91 => ?_) (fun c_91 => ?_)
          · refine lv_iconst (v := 0) hx hb dX7_gapItem_98 (by decide) ?_
            refine tp (show (0) = b2i (smB T n (numV T n ((g1 T n S ps).2)) (g2 T n S ps) = true) from (b2i_f (fun z9 => c_91 (of_decide_eq_true z9).2.2)).symm) ?_
            exact J_99 () trivial H7 locs7 ls3 hP7 hD7 hS7 (lv_sub hl3 [0, 1, 2, 3] rfl)
          · refine lv_iconst (v := 1) hx hb dX7_gapItem_94 (by decide) ?_
            refine lv_goto (tgt := 99) hx hb dX7_gapItem_95 (by decide) ?_
            refine tp (show (1) = b2i (smB T n (numV T n ((g1 T n S ps).2)) (g2 T n S ps) = true) from (b2i_t (decide_eq_true ⟨by have h9 := c_69; simpa using h9, c_83, c_91⟩)).symm) ?_
            exact J_99 () trivial H7 locs7 ls3 hP7 hD7 hS7 (lv_sub hl3 [0, 1, 2, 3] rfl)
    · refine lv_aload_n hx hb dX7_gapItem_57 rfl (lv_at hl3 2 rfl) ?_
      refine lv_iconst (v := 1) hx hb dX7_gapItem_58 (by decide) ?_
      refine tp (show (1) = b2i (true = true) from (b2i_t rfl).symm) ?_
      refine cV_v (wc := [mO cy mm ik (nI n) (nI ((g2 T n S ps).2)) (nI (te T n ((g2 T n S ps).2))) vl1_30 (b2i ((g2 T n S ps).1 = true)) rm rr om, ia cy (mm 5) 120 T]) (wr := [ia cy (mm 1) 169 S]) (rest := []) hx hb hml hown hw hG hK hP4 hD4 hS4 hA hl3 kc_X7_needs kw_5_29 [.int (b2i (true = true))] (c_X7_needs l D cy G H4.size mm ik vl1_30 rm rr om n T (g2 T n S ps) true (by first | omega | assumption) hg2) [0, 2] [1] rfl rfl rfl rfl rfl 0 rfl rfl rfl rfl rfl (Nat.le_of_ble_eq_true rfl) ⟨Nat.le_of_ble_eq_true rfl, Nat.le_of_ble_eq_true rfl⟩ dX7_gapItem_59 ⟨Nat.le_of_ble_eq_true rfl, Nat.le_of_ble_eq_true rfl⟩ (fun u9 H5 locs5 hu9 hP5 hD5 hS5 => ?_)
      clear hP4 hD4 hS4 locs4 H4
      replace hP5 : va_P D vwCl ([ia cy (mm 1) 169 S, mO cy mm ik (nI n) (nI ((ndR T n true (g2 T n S ps)).2)) (nI (te T n ((ndR T n true (g2 T n S ps)).2))) vl1_30 (b2i ((ndR T n true (g2 T n S ps)).1 = true)) rm rr om, ia cy (mm 5) 120 T]) H5 := hP5
      replace hD5 : va_D (va_A _ sz) ([ia cy (mm 1) 169 S, mO cy mm ik (nI n) (nI ((ndR T n true (g2 T n S ps)).2)) (nI (te T n ((ndR T n true (g2 T n S ps)).2))) vl1_30 (b2i ((ndR T n true (g2 T n S ps)).1 = true)) rm rr om, ia cy (mm 5) 120 T]) := hD5
      replace hP5 := hP5.sub (ws' := [mO cy mm ik (nI n) (nI ((ndR T n true (g2 T n S ps)).2)) (nI (te T n ((ndR T n true (g2 T n S ps)).2))) vl1_30 (b2i ((ndR T n true (g2 T n S ps)).1 = true)) rm rr om, ia cy (mm 1) 169 S, ia cy (mm 5) 120 T]) [1, 0, 2] rfl
      replace hD5 := hD5.sub (ws' := [mO cy mm ik (nI n) (nI ((ndR T n true (g2 T n S ps)).2)) (nI (te T n ((ndR T n true (g2 T n S ps)).2))) vl1_30 (b2i ((ndR T n true (g2 T n S ps)).1 = true)) rm rr om, ia cy (mm 1) 169 S, ia cy (mm 5) 120 T]) [1, 0, 2] (by decide) rfl
      have hp9 : ndR T n true (g2 T n S ps) = (g3 T n S ps) := ot_out c_54
      have hq9 : ([mO cy mm ik (nI n) (nI ((ndR T n true (g2 T n S ps)).2)) (nI (te T n ((ndR T n true (g2 T n S ps)).2))) vl1_30 (b2i ((ndR T n true (g2 T n S ps)).1 = true)) rm rr om, ia cy (mm 1) 169 S, ia cy (mm 5) 120 T]) = ([mO cy mm ik (nI n) (nI ((g3 T n S ps).2)) (nI (te T n ((ndR T n true (g2 T n S ps)).2))) vl1_30 (b2i ((ndR T n true (g2 T n S ps)).1 = true)) rm rr om, ia cy (mm 1) 169 S, ia cy (mm 5) 120 T]) := congrArg (fun z9 => [mO cy mm ik (nI n) z9 (nI (te T n ((ndR T n true (g2 T n S ps)).2))) vl1_30 (b2i ((ndR T n true (g2 T n S ps)).1 = true)) rm rr om, ia cy (mm 1) 169 S, ia cy (mm 5) 120 T]) (show (nI ((ndR T n true (g2 T n S ps)).2)) = (nI ((g3 T n S ps).2)) from congrArg (fun z9 : Bool × Nat => nI (z9.2)) hp9)
      replace hP5 := (congrArg (fun z9 => va_P D vwCl z9 _) hq9).mp hP5
      replace hD5 := (congrArg (fun z9 => va_D _ z9) hq9).mp hD5
      clear hq9
      have hq9 : ([mO cy mm ik (nI n) (nI ((g3 T n S ps).2)) (nI (te T n ((ndR T n true (g2 T n S ps)).2))) vl1_30 (b2i ((ndR T n true (g2 T n S ps)).1 = true)) rm rr om, ia cy (mm 1) 169 S, ia cy (mm 5) 120 T]) = ([mO cy mm ik (nI n) (nI ((g3 T n S ps).2)) (nI (te T n ((g3 T n S ps).2))) vl1_30 (b2i ((ndR T n true (g2 T n S ps)).1 = true)) rm rr om, ia cy (mm 1) 169 S, ia cy (mm 5) 120 T]) := congrArg (fun z9 => [mO cy mm ik (nI n) (nI ((g3 T n S ps).2)) z9 vl1_30 (b2i ((ndR T n true (g2 T n S ps)).1 = true)) rm rr om, ia cy (mm 1) 169 S, ia cy (mm 5) 120 T]) (show (nI (te T n ((ndR T n true (g2 T n S ps)).2))) = (nI (te T n ((g3 T n S ps).2))) from congrArg (fun z9 : Bool × Nat => nI (te T n (z9.2))) hp9)
      replace hP5 := (congrArg (fun z9 => va_P D vwCl z9 _) hq9).mp hP5
      replace hD5 := (congrArg (fun z9 => va_D _ z9) hq9).mp hD5
      clear hq9
      have hq9 : ([mO cy mm ik (nI n) (nI ((g3 T n S ps).2)) (nI (te T n ((g3 T n S ps).2))) vl1_30 (b2i ((ndR T n true (g2 T n S ps)).1 = true)) rm rr om, ia cy (mm 1) 169 S, ia cy (mm 5) 120 T]) = ([mO cy mm ik (nI n) (nI ((g3 T n S ps).2)) (nI (te T n ((g3 T n S ps).2))) vl1_30 (b2i ((g3 T n S ps).1 = true)) rm rr om, ia cy (mm 1) 169 S, ia cy (mm 5) 120 T]) := congrArg (fun z9 => [mO cy mm ik (nI n) (nI ((g3 T n S ps).2)) (nI (te T n ((g3 T n S ps).2))) vl1_30 z9 rm rr om, ia cy (mm 1) 169 S, ia cy (mm 5) 120 T]) (show (b2i ((ndR T n true (g2 T n S ps)).1 = true)) = (b2i ((g3 T n S ps).1 = true)) from congrArg (fun z9 : Bool × Nat => b2i (z9.1 = true)) hp9)
      replace hP5 := (congrArg (fun z9 => va_P D vwCl z9 _) hq9).mp hP5
      replace hD5 := (congrArg (fun z9 => va_D _ z9) hq9).mp hD5
      clear hq9
      clear hp9
      refine lv_goto (tgt := 129) hx hb dX7_gapItem_62 (by decide) ?_
      exact J_129 (-1, vl1_30) (fun z9 => (if_pos c_54.2).symm) H5 locs5 ls3 hP5 hD5 hS5 (lv_sub hl3 [0, 1, 2, 3] rfl)
  refine lv_aload_n hx hb dX7_gapItem_0 rfl (lv_at hl0 0 rfl) ?_
  refine lv_aload_n hx hb dX7_gapItem_1 rfl (lv_at hl0 0 rfl) ?_
  refine va_get (D := D) (ci := 7) (v := .ref (mm 1)) (C := RX7) (T := TX7) (N := 23) hx hb hw iX7 hown hK hP0 0 rfl rfl 0 (by decide) (hw _ kw_4_64) (fun _ h9 => h9) rfl dX7_gapItem_2 ?_
  refine lv_iconst (v := 1) hx hb dX7_gapItem_5 (by decide) ?_
  refine ald_i (f := S) hx hb hK hP0 1 0 rfl rfl 1 rfl (by first | omega | assumption) (by decide) dX7_gapItem_6 ?_
  refine tp (show (S 1) = nI (gcN S) from wf_g wf) ?_
  refine lv_bipush (v := 20) hx hb dX7_gapItem_7 (by decide) ?_
  refine ln_ge (tgt := 16) (gcN S) 20 rfl rfl (by omega) (by omega) hx hb dX7_gapItem_9 (by decide) (fun c_9 => ?_) (fun c_9 => ?_)
  · refine lv_iconst (v := 0) hx hb dX7_gapItem_16 (by decide) ?_
    refine tp (show (0) = b2i (decide (gcN S < 20) = true) from (b2i_f (fun z9 => absurd (of_decide_eq_true z9) (by omega))).symm) ?_
    exact J_17 () trivial H0 locs0 ls0 hP0 hD0 hS0 (lv_sub hl0 [0, 1] rfl)
  · refine lv_iconst (v := 1) hx hb dX7_gapItem_12 (by decide) ?_
    refine lv_goto (tgt := 17) hx hb dX7_gapItem_13 (by decide) ?_
    refine tp (show (1) = b2i (decide (gcN S < 20) = true) from (b2i_t (decide_eq_true (by omega))).symm) ?_
    exact J_17 () trivial H0 locs0 ls0 hP0 hD0 hS0 (lv_sub hl0 [0, 1] rfl)

theorem kc_X7_nightItem : kV yX7_nightItem cX7_nightItem 2 none 0 := ⟨kw_5_47, kw_s_47, kw_1_8, kw_5_48, by decide, by decide, by decide +kernel⟩
set_option maxHeartbeats 4000000 in
set_option maxRecDepth 100000 in
theorem c_X7_nightItem (l : Launch) (D : va_G) (cy : Nat → ClassId) (G : Nat → Nat) (sz : Nat) (mm : Nat → Nat) (ik : Int32) (vl : Int32) (rm : Int32) (rr : Int32) (om : Int32) (n : Nat) (T : Nat → Int32) (S : Nat → Int32) (rq : Bool × Nat) (wf : wf S) (hn : n ≤ 120) (hs : rq.2 ≤ n) : Met l yX7_nightItem (wm yX7_nightItem cX7_nightItem 2 none) { frames := 5, cells := 0, slots := 0, locals := 113 } (va_Pc [.ref (mm 0)] (pr D (TY cy) G ([mO cy mm ik (nI n) (nI (rq.2)) (nI (te T n (rq.2))) vl (b2i (rq.1 = true)) rm rr om, ia cy (mm 1) 169 S, ia cy (mm 5) 120 T]) sz)) (va_Qv (fun (u : Int32) => True) (fun (u : Int32) t => po D (va_A ([mO cy mm ik (nI n) (nI (rq.2)) (nI (te T n (rq.2))) vl (b2i (rq.1 = true)) rm rr om, ia cy (mm 1) 169 S, ia cy (mm 5) 120 T]) sz) ([mO cy mm ik (nI n) (nI ((ntR T n rq).2)) (nI (te T n ((ntR T n rq).2))) u (b2i ((ntR T n rq).1 = true)) rm rr om, ia cy (mm 1) 169 (if (ntR T n rq).1 = true then S else upd S (2 + bstN (prt T n (rq.2))) (nI (numV T n (nxt T n (rq.2))))), ia cy (mm 5) 120 T]) t) (va_A ([mO cy mm ik (nI n) (nI (rq.2)) (nI (te T n (rq.2))) vl (b2i (rq.1 = true)) rm rr om, ia cy (mm 1) 169 S, ia cy (mm 5) 120 T]) sz)) 0 0 (va_A ([mO cy mm ik (nI n) (nI (rq.2)) (nI (te T n (rq.2))) vl (b2i (rq.1 = true)) rm rr om, ia cy (mm 1) 169 S, ia cy (mm 5) 120 T]) sz) := by
  refine mk_rw (by decide) RX7 rfl (Nat.le_of_ble_eq_true rfl) [(0, .ref (mm 0))] rfl ?_
  intro p e s m below meth c hx hb hml hown hr hlocks hin hw hsz hA hG hK H0 locs0 hP0 hD0 hS0 ls0 hl0
  clear hin
  have hnt := ndR_b (T := T) (p := true) hs
  have hnf := ndR_b (T := T) (p := false) hs
  refine lv_aload_n hx hb dX7_nightItem_0 rfl (lv_at hl0 0 rfl) ?_
  refine lv_bipush (v := 99) hx hb dX7_nightItem_1 (by decide) ?_
  refine lv_bipush (v := 111) hx hb dX7_nightItem_3 (by decide) ?_
  refine lv_bipush (v := 108) hx hb dX7_nightItem_5 (by decide) ?_
  refine lv_bipush (v := 100) hx hb dX7_nightItem_7 (by decide) ?_
  refine lv_iconst (v := 0) hx hb dX7_nightItem_9 (by decide) ?_
  refine lv_iconst (v := 0) hx hb dX7_nightItem_10 (by decide) ?_
  refine lv_iconst (v := 0) hx hb dX7_nightItem_11 (by decide) ?_
  refine rV_i (wc := [mO cy mm ik (nI n) (nI (rq.2)) (nI (te T n (rq.2))) vl (b2i (rq.1 = true)) rm rr om, ia cy (mm 5) 120 T]) (rest := []) hx hb hml hown hw hG hK hP0 hS0 hA hl0 kc_X7_isWord kw_5_17 [.int 99, .int 111, .int 108, .int 100, .int 0, .int 0, .int 0] (c_X7_isWord l D cy G H0.size mm ik vl rm rr om n T rq 11 99 111 108 100 0 0 0 (by first | omega | assumption) (by first | omega | assumption) (by decide) (by decide) (by decide) (by decide) (by decide) (by decide) (by decide) (by decide)) [0, 2] rfl 0 rfl rfl rfl rfl rfl (Nat.le_of_ble_eq_true rfl) ⟨Nat.le_of_ble_eq_true rfl, Nat.le_of_ble_eq_true rfl⟩ dX7_nightItem_12 ⟨Nat.le_of_ble_eq_true rfl, Nat.le_of_ble_eq_true rfl⟩ (fun r_12 H1 locs1 hr_12 hP1 hS1 => ?_)
  have hD1 := hD0
  clear hP0 hD0 hS0 locs0 H0
  subst hr_12
  refine lb_eq (tgt := 22) hx hb dX7_nightItem_15 (by decide) (fun c_15 => ?_) (fun c_15 => ?_)
  · refine lv_aload_n hx hb dX7_nightItem_22 rfl (lv_at hl0 0 rfl) ?_
    refine lv_bipush (v := 119) hx hb dX7_nightItem_23 (by decide) ?_
    refine lv_bipush (v := 105) hx hb dX7_nightItem_25 (by decide) ?_
    refine lv_bipush (v := 110) hx hb dX7_nightItem_27 (by decide) ?_
    refine lv_bipush (v := 100) hx hb dX7_nightItem_29 (by decide) ?_
    refine lv_iconst (v := 0) hx hb dX7_nightItem_31 (by decide) ?_
    refine lv_iconst (v := 0) hx hb dX7_nightItem_32 (by decide) ?_
    refine lv_iconst (v := 0) hx hb dX7_nightItem_33 (by decide) ?_
    refine rV_i (wc := [mO cy mm ik (nI n) (nI (rq.2)) (nI (te T n (rq.2))) vl (b2i (rq.1 = true)) rm rr om, ia cy (mm 5) 120 T]) (rest := []) hx hb hml hown hw hG hK hP1 hS1 hA hl0 kc_X7_isWord kw_5_17 [.int 119, .int 105, .int 110, .int 100, .int 0, .int 0, .int 0] (c_X7_isWord l D cy G H1.size mm ik vl rm rr om n T rq 12 119 105 110 100 0 0 0 (by first | omega | assumption) (by first | omega | assumption) (by decide) (by decide) (by decide) (by decide) (by decide) (by decide) (by decide) (by decide)) [0, 2] rfl 0 rfl rfl rfl rfl rfl (Nat.le_of_ble_eq_true rfl) ⟨Nat.le_of_ble_eq_true rfl, Nat.le_of_ble_eq_true rfl⟩ dX7_nightItem_34 ⟨Nat.le_of_ble_eq_true rfl, Nat.le_of_ble_eq_true rfl⟩ (fun r_34 H2 locs2 hr_34 hP2 hS2 => ?_)
    have hD2 := hD1
    clear hP1 hD1 hS1 locs1 H1
    subst hr_34
    refine lb_eq (tgt := 44) hx hb dX7_nightItem_37 (by decide) (fun c_37 => ?_) (fun c_37 => ?_)
    · refine lv_aload_n hx hb dX7_nightItem_44 rfl (lv_at hl0 0 rfl) ?_
      refine lv_bipush (v := 116) hx hb dX7_nightItem_45 (by decide) ?_
      refine lv_bipush (v := 104) hx hb dX7_nightItem_47 (by decide) ?_
      refine lv_bipush (v := 117) hx hb dX7_nightItem_49 (by decide) ?_
      refine lv_bipush (v := 109) hx hb dX7_nightItem_51 (by decide) ?_
      refine lv_bipush (v := 98) hx hb dX7_nightItem_53 (by decide) ?_
      refine lv_iconst (v := 0) hx hb dX7_nightItem_55 (by decide) ?_
      refine lv_iconst (v := 0) hx hb dX7_nightItem_56 (by decide) ?_
      refine rV_i (wc := [mO cy mm ik (nI n) (nI (rq.2)) (nI (te T n (rq.2))) vl (b2i (rq.1 = true)) rm rr om, ia cy (mm 5) 120 T]) (rest := []) hx hb hml hown hw hG hK hP2 hS2 hA hl0 kc_X7_isWord kw_5_17 [.int 116, .int 104, .int 117, .int 109, .int 98, .int 0, .int 0] (c_X7_isWord l D cy G H2.size mm ik vl rm rr om n T rq 13 116 104 117 109 98 0 0 (by first | omega | assumption) (by first | omega | assumption) (by decide) (by decide) (by decide) (by decide) (by decide) (by decide) (by decide) (by decide)) [0, 2] rfl 0 rfl rfl rfl rfl rfl (Nat.le_of_ble_eq_true rfl) ⟨Nat.le_of_ble_eq_true rfl, Nat.le_of_ble_eq_true rfl⟩ dX7_nightItem_57 ⟨Nat.le_of_ble_eq_true rfl, Nat.le_of_ble_eq_true rfl⟩ (fun r_57 H3 locs3 hr_57 hP3 hS3 => ?_)
      have hD3 := hD2
      clear hP2 hD2 hS2 locs2 H2
      subst hr_57
      refine lb_eq (tgt := 67) hx hb dX7_nightItem_60 (by decide) (fun c_60 => ?_) (fun c_60 => ?_)
      · refine lv_iconst (v := (-1)) hx hb dX7_nightItem_67 (by decide) ?_
        refine lv_istore_n (lv' := [(1, .int (-1)), (0, .ref (mm 0))]) hx hb dX7_nightItem_68 rfl hl0 (by decide) rfl (fun ls1 hl1 => ?_)
        clear hl0 ls0
        have hx9 : rq.1 = true ∨ prt T n (rq.2) = -1 := by
          by_cases q9 : rq.1 = true
          · exact Or.inl q9
          · have q8 : rq.1 = false := by simpa using q9
            exact Or.inr (prt_n (fun z8 => c_15 ⟨q8, z8⟩) (fun z8 => c_37 ⟨q8, z8⟩) (fun z8 => c_60 ⟨q8, z8⟩))
        refine lv_aload_n hx hb dX7_nightItem_69 rfl (lv_at hl1 1 rfl) ?_
        refine lv_iload_n hx hb dX7_nightItem_70 rfl (lv_at hl1 0 rfl) ?_
        refine lv_if_lt (tgt := 78) hx hb dX7_nightItem_71 (by decide) (fun _ => ?_) (fun c => absurd (by decide) c)
        refine lv_iconst (v := 0) hx hb dX7_nightItem_78 (by decide) ?_
        refine tp (show (0) = b2i (false = true) from (b2i_f (by decide)).symm) ?_
        refine cV_v (wc := [mO cy mm ik (nI n) (nI (rq.2)) (nI (te T n (rq.2))) vl (b2i (rq.1 = true)) rm rr om, ia cy (mm 5) 120 T]) (wr := [ia cy (mm 1) 169 S]) (rest := []) hx hb hml hown hw hG hK hP3 hD3 hS3 hA hl1 kc_X7_needs kw_5_29 [.int (b2i (false = true))] (c_X7_needs l D cy G H3.size mm ik vl rm rr om n T rq false (by first | omega | assumption) (by first | omega | assumption)) [0, 2] [1] rfl rfl rfl rfl rfl 0 rfl rfl rfl rfl rfl (Nat.le_of_ble_eq_true rfl) ⟨Nat.le_of_ble_eq_true rfl, Nat.le_of_ble_eq_true rfl⟩ dX7_nightItem_79 ⟨Nat.le_of_ble_eq_true rfl, Nat.le_of_ble_eq_true rfl⟩ (fun u9 H4 locs4 hu9 hP4 hD4 hS4 => ?_)
        clear hP3 hD3 hS3 locs3 H3
        replace hP4 : va_P D vwCl ([ia cy (mm 1) 169 S, mO cy mm ik (nI n) (nI ((ndR T n false rq).2)) (nI (te T n ((ndR T n false rq).2))) vl (b2i ((ndR T n false rq).1 = true)) rm rr om, ia cy (mm 5) 120 T]) H4 := hP4
        replace hD4 : va_D (va_A _ sz) ([ia cy (mm 1) 169 S, mO cy mm ik (nI n) (nI ((ndR T n false rq).2)) (nI (te T n ((ndR T n false rq).2))) vl (b2i ((ndR T n false rq).1 = true)) rm rr om, ia cy (mm 5) 120 T]) := hD4
        replace hP4 := hP4.sub (ws' := [mO cy mm ik (nI n) (nI ((ndR T n false rq).2)) (nI (te T n ((ndR T n false rq).2))) vl (b2i ((ndR T n false rq).1 = true)) rm rr om, ia cy (mm 1) 169 S, ia cy (mm 5) 120 T]) [1, 0, 2] rfl
        replace hD4 := hD4.sub (ws' := [mO cy mm ik (nI n) (nI ((ndR T n false rq).2)) (nI (te T n ((ndR T n false rq).2))) vl (b2i ((ndR T n false rq).1 = true)) rm rr om, ia cy (mm 1) 169 S, ia cy (mm 5) 120 T]) [1, 0, 2] (by decide) rfl
        refine lv_aload_n hx hb dX7_nightItem_82 rfl (lv_at hl1 1 rfl) ?_
        refine lv_iconst (v := 0) hx hb dX7_nightItem_83 (by decide) ?_
        refine lv_iload_n hx hb dX7_nightItem_84 rfl (lv_at hl1 0 rfl) ?_
        refine rT_i (wc := []) (rest := [.int 0, .ref (mm 0)]) hx hb hml hown hw hG hK hP4 hS4 hA hl1 kc_X7_mostOf kw_4_211 [.int (-1)] (c_X7_mostOf l D cy G H4.size (-1)) [] rfl rfl rfl (Nat.le_of_ble_eq_true rfl) ⟨Nat.le_of_ble_eq_true rfl, Nat.le_of_ble_eq_true rfl⟩ dX7_nightItem_85 ⟨Nat.le_of_ble_eq_true rfl, Nat.le_of_ble_eq_true rfl⟩ (fun r_85 H5 locs5 hr_85 hP5 hS5 => ?_)
        have hD5 := hD4
        clear hP4 hD4 hS4 locs4 H4
        subst hr_85
        refine tp (show (if (-1) = 0 then 40 else if (-1) = 2 then 3 else if (-1) = 5 then 100 else 99) = 99 from by decide) ?_
        refine cV_v (wc := [mO cy mm ik (nI n) (nI ((ndR T n false rq).2)) (nI (te T n ((ndR T n false rq).2))) vl (b2i ((ndR T n false rq).1 = true)) rm rr om, ia cy (mm 5) 120 T]) (wr := [ia cy (mm 1) 169 S]) (rest := []) hx hb hml hown hw hG hK hP5 hD5 hS5 hA hl1 kc_X7_number kw_5_33 [.int 0, .int 99] (c_X7_number l D cy G H5.size mm ik vl rm rr om n T (ndR T n false rq) 99 (by first | omega | assumption) hnf.2 (by decide)) [0, 2] [1] rfl rfl rfl rfl rfl 0 rfl rfl rfl rfl rfl (Nat.le_of_ble_eq_true rfl) ⟨Nat.le_of_ble_eq_true rfl, Nat.le_of_ble_eq_true rfl⟩ dX7_nightItem_88 ⟨Nat.le_of_ble_eq_true rfl, Nat.le_of_ble_eq_true rfl⟩ (fun u9 H6 locs6 hu9 hP6 hD6 hS6 => ?_)
        clear hP5 hD5 hS5 locs5 H5
        obtain ⟨vl1_88, rfl⟩ : ∃ z9, z9 = u9 := ⟨_, rfl⟩
        have hvl_88 := hu9
        replace hvl_88 : (nmR T n 99 (ndR T n false rq)).1 = false → vl1_88 = nI (numV T n ((ndR T n false rq).2)) := hvl_88
        replace hP6 : va_P D vwCl ([ia cy (mm 1) 169 S, mO cy mm ik (nI n) (nI ((nmR T n 99 (ndR T n false rq)).2)) (nI (te T n ((nmR T n 99 (ndR T n false rq)).2))) vl1_88 (b2i ((nmR T n 99 (ndR T n false rq)).1 = true)) rm rr om, ia cy (mm 5) 120 T]) H6 := hP6
        replace hD6 : va_D (va_A _ sz) ([ia cy (mm 1) 169 S, mO cy mm ik (nI n) (nI ((nmR T n 99 (ndR T n false rq)).2)) (nI (te T n ((nmR T n 99 (ndR T n false rq)).2))) vl1_88 (b2i ((nmR T n 99 (ndR T n false rq)).1 = true)) rm rr om, ia cy (mm 5) 120 T]) := hD6
        replace hP6 := hP6.sub (ws' := [mO cy mm ik (nI n) (nI ((nmR T n 99 (ndR T n false rq)).2)) (nI (te T n ((nmR T n 99 (ndR T n false rq)).2))) vl1_88 (b2i ((nmR T n 99 (ndR T n false rq)).1 = true)) rm rr om, ia cy (mm 1) 169 S, ia cy (mm 5) 120 T]) [1, 0, 2] rfl
        replace hD6 := hD6.sub (ws' := [mO cy mm ik (nI n) (nI ((nmR T n 99 (ndR T n false rq)).2)) (nI (te T n ((nmR T n 99 (ndR T n false rq)).2))) vl1_88 (b2i ((nmR T n 99 (ndR T n false rq)).1 = true)) rm rr om, ia cy (mm 1) 169 S, ia cy (mm 5) 120 T]) [1, 0, 2] (by decide) rfl
        have hp9 : nmR T n 99 (ndR T n false rq) = (ntR T n rq) := (nt_x hx9).1
        have hq9 : ([mO cy mm ik (nI n) (nI ((nmR T n 99 (ndR T n false rq)).2)) (nI (te T n ((nmR T n 99 (ndR T n false rq)).2))) vl1_88 (b2i ((nmR T n 99 (ndR T n false rq)).1 = true)) rm rr om, ia cy (mm 1) 169 S, ia cy (mm 5) 120 T]) = ([mO cy mm ik (nI n) (nI ((ntR T n rq).2)) (nI (te T n ((nmR T n 99 (ndR T n false rq)).2))) vl1_88 (b2i ((nmR T n 99 (ndR T n false rq)).1 = true)) rm rr om, ia cy (mm 1) 169 S, ia cy (mm 5) 120 T]) := congrArg (fun z9 => [mO cy mm ik (nI n) z9 (nI (te T n ((nmR T n 99 (ndR T n false rq)).2))) vl1_88 (b2i ((nmR T n 99 (ndR T n false rq)).1 = true)) rm rr om, ia cy (mm 1) 169 S, ia cy (mm 5) 120 T]) (show (nI ((nmR T n 99 (ndR T n false rq)).2)) = (nI ((ntR T n rq).2)) from congrArg (fun z9 : Bool × Nat => nI (z9.2)) hp9)
        replace hP6 := (congrArg (fun z9 => va_P D vwCl z9 _) hq9).mp hP6
        replace hD6 := (congrArg (fun z9 => va_D _ z9) hq9).mp hD6
        clear hq9
        have hq9 : ([mO cy mm ik (nI n) (nI ((ntR T n rq).2)) (nI (te T n ((nmR T n 99 (ndR T n false rq)).2))) vl1_88 (b2i ((nmR T n 99 (ndR T n false rq)).1 = true)) rm rr om, ia cy (mm 1) 169 S, ia cy (mm 5) 120 T]) = ([mO cy mm ik (nI n) (nI ((ntR T n rq).2)) (nI (te T n ((ntR T n rq).2))) vl1_88 (b2i ((nmR T n 99 (ndR T n false rq)).1 = true)) rm rr om, ia cy (mm 1) 169 S, ia cy (mm 5) 120 T]) := congrArg (fun z9 => [mO cy mm ik (nI n) (nI ((ntR T n rq).2)) z9 vl1_88 (b2i ((nmR T n 99 (ndR T n false rq)).1 = true)) rm rr om, ia cy (mm 1) 169 S, ia cy (mm 5) 120 T]) (show (nI (te T n ((nmR T n 99 (ndR T n false rq)).2))) = (nI (te T n ((ntR T n rq).2))) from congrArg (fun z9 : Bool × Nat => nI (te T n (z9.2))) hp9)
        replace hP6 := (congrArg (fun z9 => va_P D vwCl z9 _) hq9).mp hP6
        replace hD6 := (congrArg (fun z9 => va_D _ z9) hq9).mp hD6
        clear hq9
        have hq9 : ([mO cy mm ik (nI n) (nI ((ntR T n rq).2)) (nI (te T n ((ntR T n rq).2))) vl1_88 (b2i ((nmR T n 99 (ndR T n false rq)).1 = true)) rm rr om, ia cy (mm 1) 169 S, ia cy (mm 5) 120 T]) = ([mO cy mm ik (nI n) (nI ((ntR T n rq).2)) (nI (te T n ((ntR T n rq).2))) vl1_88 (b2i ((ntR T n rq).1 = true)) rm rr om, ia cy (mm 1) 169 S, ia cy (mm 5) 120 T]) := congrArg (fun z9 => [mO cy mm ik (nI n) (nI ((ntR T n rq).2)) (nI (te T n ((ntR T n rq).2))) vl1_88 z9 rm rr om, ia cy (mm 1) 169 S, ia cy (mm 5) 120 T]) (show (b2i ((nmR T n 99 (ndR T n false rq)).1 = true)) = (b2i ((ntR T n rq).1 = true)) from congrArg (fun z9 : Bool × Nat => b2i (z9.1 = true)) hp9)
        replace hP6 := (congrArg (fun z9 => va_P D vwCl z9 _) hq9).mp hP6
        replace hD6 := (congrArg (fun z9 => va_D _ z9) hq9).mp hD6
        clear hq9
        clear hp9
        refine lv_aload_n hx hb dX7_nightItem_91 rfl (lv_at hl1 1 rfl) ?_
        refine va_get (D := D) (ci := 7) (v := .int (b2i ((ntR T n rq).1 = true))) (C := RX7) (T := TX7) (N := 23) hx hb hw iX7 hown hK hP6 0 rfl rfl 10 (by decide) (hw _ kw_4_74) (fun _ h9 => h9) rfl dX7_nightItem_92 ?_
        refine lb_ne (tgt := 110) hx hb dX7_nightItem_95 (by decide) (fun c_95 => ?_) (fun c_95 => absurd (nt_x (m := 0) hx9).2 c_95)
        have hq9 : ([mO cy mm ik (nI n) (nI ((ntR T n rq).2)) (nI (te T n ((ntR T n rq).2))) vl1_88 (b2i ((ntR T n rq).1 = true)) rm rr om, ia cy (mm 1) 169 S, ia cy (mm 5) 120 T]) = ([mO cy mm ik (nI n) (nI ((ntR T n rq).2)) (nI (te T n ((ntR T n rq).2))) vl1_88 (b2i ((ntR T n rq).1 = true)) rm rr om, ia cy (mm 1) 169 (if (ntR T n rq).1 = true then S else upd S (2 + bstN (prt T n (rq.2))) (nI (numV T n (nxt T n (rq.2))))), ia cy (mm 5) 120 T]) := congrArg (fun z9 => [mO cy mm ik (nI n) (nI ((ntR T n rq).2)) (nI (te T n ((ntR T n rq).2))) vl1_88 (b2i ((ntR T n rq).1 = true)) rm rr om, ia cy (mm 1) 169 z9, ia cy (mm 5) 120 T]) (show S = (if (ntR T n rq).1 = true then S else upd S (2 + bstN (prt T n (rq.2))) (nI (numV T n (nxt T n (rq.2))))) from (if_pos c_95).symm)
        replace hP6 := (congrArg (fun z9 => va_P D vwCl z9 _) hq9).mp hP6
        replace hD6 := (congrArg (fun z9 => va_D _ z9) hq9).mp hD6
        clear hq9
        refine re_v vl1_88 hx hb hr hlocks hP6 hD6 hS6 dX7_nightItem_110 ?_
        exact (trivial)
      · refine lv_iconst (v := 4) hx hb dX7_nightItem_63 (by decide) ?_
        refine lv_goto (tgt := 68) hx hb dX7_nightItem_64 (by decide) ?_
        refine lv_istore_n (lv' := [(1, .int 4), (0, .ref (mm 0))]) hx hb dX7_nightItem_68 rfl hl0 (by decide) rfl (fun ls1 hl1 => ?_)
        clear hl0 ls0
        refine lv_aload_n hx hb dX7_nightItem_69 rfl (lv_at hl1 1 rfl) ?_
        refine lv_iload_n hx hb dX7_nightItem_70 rfl (lv_at hl1 0 rfl) ?_
        refine lv_if_lt (tgt := 78) hx hb dX7_nightItem_71 (by decide) (fun c => absurd c (by decide)) (fun _ => ?_)
        refine lv_iconst (v := 1) hx hb dX7_nightItem_74 (by decide) ?_
        refine lv_goto (tgt := 79) hx hb dX7_nightItem_75 (by decide) ?_
        refine tp (show (1) = b2i (true = true) from (b2i_t rfl).symm) ?_
        refine cV_v (wc := [mO cy mm ik (nI n) (nI (rq.2)) (nI (te T n (rq.2))) vl (b2i (rq.1 = true)) rm rr om, ia cy (mm 5) 120 T]) (wr := [ia cy (mm 1) 169 S]) (rest := []) hx hb hml hown hw hG hK hP3 hD3 hS3 hA hl1 kc_X7_needs kw_5_29 [.int (b2i (true = true))] (c_X7_needs l D cy G H3.size mm ik vl rm rr om n T rq true (by first | omega | assumption) (by first | omega | assumption)) [0, 2] [1] rfl rfl rfl rfl rfl 0 rfl rfl rfl rfl rfl (Nat.le_of_ble_eq_true rfl) ⟨Nat.le_of_ble_eq_true rfl, Nat.le_of_ble_eq_true rfl⟩ dX7_nightItem_79 ⟨Nat.le_of_ble_eq_true rfl, Nat.le_of_ble_eq_true rfl⟩ (fun u9 H4 locs4 hu9 hP4 hD4 hS4 => ?_)
        clear hP3 hD3 hS3 locs3 H3
        replace hP4 : va_P D vwCl ([ia cy (mm 1) 169 S, mO cy mm ik (nI n) (nI ((ndR T n true rq).2)) (nI (te T n ((ndR T n true rq).2))) vl (b2i ((ndR T n true rq).1 = true)) rm rr om, ia cy (mm 5) 120 T]) H4 := hP4
        replace hD4 : va_D (va_A _ sz) ([ia cy (mm 1) 169 S, mO cy mm ik (nI n) (nI ((ndR T n true rq).2)) (nI (te T n ((ndR T n true rq).2))) vl (b2i ((ndR T n true rq).1 = true)) rm rr om, ia cy (mm 5) 120 T]) := hD4
        replace hP4 := hP4.sub (ws' := [mO cy mm ik (nI n) (nI ((ndR T n true rq).2)) (nI (te T n ((ndR T n true rq).2))) vl (b2i ((ndR T n true rq).1 = true)) rm rr om, ia cy (mm 1) 169 S, ia cy (mm 5) 120 T]) [1, 0, 2] rfl
        replace hD4 := hD4.sub (ws' := [mO cy mm ik (nI n) (nI ((ndR T n true rq).2)) (nI (te T n ((ndR T n true rq).2))) vl (b2i ((ndR T n true rq).1 = true)) rm rr om, ia cy (mm 1) 169 S, ia cy (mm 5) 120 T]) [1, 0, 2] (by decide) rfl
        refine lv_aload_n hx hb dX7_nightItem_82 rfl (lv_at hl1 1 rfl) ?_
        refine lv_iconst (v := 0) hx hb dX7_nightItem_83 (by decide) ?_
        refine lv_iload_n hx hb dX7_nightItem_84 rfl (lv_at hl1 0 rfl) ?_
        refine rT_i (wc := []) (rest := [.int 0, .ref (mm 0)]) hx hb hml hown hw hG hK hP4 hS4 hA hl1 kc_X7_mostOf kw_4_211 [.int 4] (c_X7_mostOf l D cy G H4.size 4) [] rfl rfl rfl (Nat.le_of_ble_eq_true rfl) ⟨Nat.le_of_ble_eq_true rfl, Nat.le_of_ble_eq_true rfl⟩ dX7_nightItem_85 ⟨Nat.le_of_ble_eq_true rfl, Nat.le_of_ble_eq_true rfl⟩ (fun r_85 H5 locs5 hr_85 hP5 hS5 => ?_)
        have hD5 := hD4
        clear hP4 hD4 hS4 locs4 H4
        subst hr_85
        refine tp (show (if 4 = 0 then 40 else if 4 = 2 then 3 else if 4 = 5 then 100 else 99) = 99 from by decide) ?_
        refine cV_v (wc := [mO cy mm ik (nI n) (nI ((ndR T n true rq).2)) (nI (te T n ((ndR T n true rq).2))) vl (b2i ((ndR T n true rq).1 = true)) rm rr om, ia cy (mm 5) 120 T]) (wr := [ia cy (mm 1) 169 S]) (rest := []) hx hb hml hown hw hG hK hP5 hD5 hS5 hA hl1 kc_X7_number kw_5_33 [.int 0, .int 99] (c_X7_number l D cy G H5.size mm ik vl rm rr om n T (ndR T n true rq) 99 (by first | omega | assumption) hnt.2 (by decide)) [0, 2] [1] rfl rfl rfl rfl rfl 0 rfl rfl rfl rfl rfl (Nat.le_of_ble_eq_true rfl) ⟨Nat.le_of_ble_eq_true rfl, Nat.le_of_ble_eq_true rfl⟩ dX7_nightItem_88 ⟨Nat.le_of_ble_eq_true rfl, Nat.le_of_ble_eq_true rfl⟩ (fun u9 H6 locs6 hu9 hP6 hD6 hS6 => ?_)
        clear hP5 hD5 hS5 locs5 H5
        obtain ⟨vl1_88, rfl⟩ : ∃ z9, z9 = u9 := ⟨_, rfl⟩
        have hvl_88 := hu9
        replace hvl_88 : (nmR T n 99 (ndR T n true rq)).1 = false → vl1_88 = nI (numV T n ((ndR T n true rq).2)) := hvl_88
        replace hP6 : va_P D vwCl ([ia cy (mm 1) 169 S, mO cy mm ik (nI n) (nI ((nmR T n 99 (ndR T n true rq)).2)) (nI (te T n ((nmR T n 99 (ndR T n true rq)).2))) vl1_88 (b2i ((nmR T n 99 (ndR T n true rq)).1 = true)) rm rr om, ia cy (mm 5) 120 T]) H6 := hP6
        replace hD6 : va_D (va_A _ sz) ([ia cy (mm 1) 169 S, mO cy mm ik (nI n) (nI ((nmR T n 99 (ndR T n true rq)).2)) (nI (te T n ((nmR T n 99 (ndR T n true rq)).2))) vl1_88 (b2i ((nmR T n 99 (ndR T n true rq)).1 = true)) rm rr om, ia cy (mm 5) 120 T]) := hD6
        replace hP6 := hP6.sub (ws' := [mO cy mm ik (nI n) (nI ((nmR T n 99 (ndR T n true rq)).2)) (nI (te T n ((nmR T n 99 (ndR T n true rq)).2))) vl1_88 (b2i ((nmR T n 99 (ndR T n true rq)).1 = true)) rm rr om, ia cy (mm 1) 169 S, ia cy (mm 5) 120 T]) [1, 0, 2] rfl
        replace hD6 := hD6.sub (ws' := [mO cy mm ik (nI n) (nI ((nmR T n 99 (ndR T n true rq)).2)) (nI (te T n ((nmR T n 99 (ndR T n true rq)).2))) vl1_88 (b2i ((nmR T n 99 (ndR T n true rq)).1 = true)) rm rr om, ia cy (mm 1) 169 S, ia cy (mm 5) 120 T]) [1, 0, 2] (by decide) rfl
        have hp9 : nmR T n 99 (ndR T n true rq) = (ntR T n rq) := nt_g c_60.1 (prt_4 (fun z8 => c_15 ⟨c_60.1, z8⟩) (fun z8 => c_37 ⟨c_60.1, z8⟩) c_60.2) (by decide) (by decide)
        have hq9 : ([mO cy mm ik (nI n) (nI ((nmR T n 99 (ndR T n true rq)).2)) (nI (te T n ((nmR T n 99 (ndR T n true rq)).2))) vl1_88 (b2i ((nmR T n 99 (ndR T n true rq)).1 = true)) rm rr om, ia cy (mm 1) 169 S, ia cy (mm 5) 120 T]) = ([mO cy mm ik (nI n) (nI ((ntR T n rq).2)) (nI (te T n ((nmR T n 99 (ndR T n true rq)).2))) vl1_88 (b2i ((nmR T n 99 (ndR T n true rq)).1 = true)) rm rr om, ia cy (mm 1) 169 S, ia cy (mm 5) 120 T]) := congrArg (fun z9 => [mO cy mm ik (nI n) z9 (nI (te T n ((nmR T n 99 (ndR T n true rq)).2))) vl1_88 (b2i ((nmR T n 99 (ndR T n true rq)).1 = true)) rm rr om, ia cy (mm 1) 169 S, ia cy (mm 5) 120 T]) (show (nI ((nmR T n 99 (ndR T n true rq)).2)) = (nI ((ntR T n rq).2)) from congrArg (fun z9 : Bool × Nat => nI (z9.2)) hp9)
        replace hP6 := (congrArg (fun z9 => va_P D vwCl z9 _) hq9).mp hP6
        replace hD6 := (congrArg (fun z9 => va_D _ z9) hq9).mp hD6
        clear hq9
        have hq9 : ([mO cy mm ik (nI n) (nI ((ntR T n rq).2)) (nI (te T n ((nmR T n 99 (ndR T n true rq)).2))) vl1_88 (b2i ((nmR T n 99 (ndR T n true rq)).1 = true)) rm rr om, ia cy (mm 1) 169 S, ia cy (mm 5) 120 T]) = ([mO cy mm ik (nI n) (nI ((ntR T n rq).2)) (nI (te T n ((ntR T n rq).2))) vl1_88 (b2i ((nmR T n 99 (ndR T n true rq)).1 = true)) rm rr om, ia cy (mm 1) 169 S, ia cy (mm 5) 120 T]) := congrArg (fun z9 => [mO cy mm ik (nI n) (nI ((ntR T n rq).2)) z9 vl1_88 (b2i ((nmR T n 99 (ndR T n true rq)).1 = true)) rm rr om, ia cy (mm 1) 169 S, ia cy (mm 5) 120 T]) (show (nI (te T n ((nmR T n 99 (ndR T n true rq)).2))) = (nI (te T n ((ntR T n rq).2))) from congrArg (fun z9 : Bool × Nat => nI (te T n (z9.2))) hp9)
        replace hP6 := (congrArg (fun z9 => va_P D vwCl z9 _) hq9).mp hP6
        replace hD6 := (congrArg (fun z9 => va_D _ z9) hq9).mp hD6
        clear hq9
        have hq9 : ([mO cy mm ik (nI n) (nI ((ntR T n rq).2)) (nI (te T n ((ntR T n rq).2))) vl1_88 (b2i ((nmR T n 99 (ndR T n true rq)).1 = true)) rm rr om, ia cy (mm 1) 169 S, ia cy (mm 5) 120 T]) = ([mO cy mm ik (nI n) (nI ((ntR T n rq).2)) (nI (te T n ((ntR T n rq).2))) vl1_88 (b2i ((ntR T n rq).1 = true)) rm rr om, ia cy (mm 1) 169 S, ia cy (mm 5) 120 T]) := congrArg (fun z9 => [mO cy mm ik (nI n) (nI ((ntR T n rq).2)) (nI (te T n ((ntR T n rq).2))) vl1_88 z9 rm rr om, ia cy (mm 1) 169 S, ia cy (mm 5) 120 T]) (show (b2i ((nmR T n 99 (ndR T n true rq)).1 = true)) = (b2i ((ntR T n rq).1 = true)) from congrArg (fun z9 : Bool × Nat => b2i (z9.1 = true)) hp9)
        replace hP6 := (congrArg (fun z9 => va_P D vwCl z9 _) hq9).mp hP6
        replace hD6 := (congrArg (fun z9 => va_D _ z9) hq9).mp hD6
        clear hq9
        clear hp9
        refine lv_aload_n hx hb dX7_nightItem_91 rfl (lv_at hl1 1 rfl) ?_
        refine va_get (D := D) (ci := 7) (v := .int (b2i ((ntR T n rq).1 = true))) (C := RX7) (T := TX7) (N := 23) hx hb hw iX7 hown hK hP6 0 rfl rfl 10 (by decide) (hw _ kw_4_74) (fun _ h9 => h9) rfl dX7_nightItem_92 ?_
        refine lb_ne (tgt := 110) hx hb dX7_nightItem_95 (by decide) (fun c_95 => ?_) (fun c_95 => ?_)
        · have hq9 : ([mO cy mm ik (nI n) (nI ((ntR T n rq).2)) (nI (te T n ((ntR T n rq).2))) vl1_88 (b2i ((ntR T n rq).1 = true)) rm rr om, ia cy (mm 1) 169 S, ia cy (mm 5) 120 T]) = ([mO cy mm ik (nI n) (nI ((ntR T n rq).2)) (nI (te T n ((ntR T n rq).2))) vl1_88 (b2i ((ntR T n rq).1 = true)) rm rr om, ia cy (mm 1) 169 (if (ntR T n rq).1 = true then S else upd S (2 + bstN (prt T n (rq.2))) (nI (numV T n (nxt T n (rq.2))))), ia cy (mm 5) 120 T]) := congrArg (fun z9 => [mO cy mm ik (nI n) (nI ((ntR T n rq).2)) (nI (te T n ((ntR T n rq).2))) vl1_88 (b2i ((ntR T n rq).1 = true)) rm rr om, ia cy (mm 1) 169 z9, ia cy (mm 5) 120 T]) (show S = (if (ntR T n rq).1 = true then S else upd S (2 + bstN (prt T n (rq.2))) (nI (numV T n (nxt T n (rq.2))))) from (if_pos c_95).symm)
          replace hP6 := (congrArg (fun z9 => va_P D vwCl z9 _) hq9).mp hP6
          replace hD6 := (congrArg (fun z9 => va_D _ z9) hq9).mp hD6
          clear hq9
          refine re_v vl1_88 hx hb hr hlocks hP6 hD6 hS6 dX7_nightItem_110 ?_
          exact (trivial)
        · have hzf : (nmR T n 99 (ndR T n true rq)).1 = false := by rw [nt_g c_60.1 (prt_4 (fun z8 => c_15 ⟨c_60.1, z8⟩) (fun z8 => c_37 ⟨c_60.1, z8⟩) c_60.2) (by decide) (by decide)]; have h9 := c_95; simpa using h9
          refine lv_aload_n hx hb dX7_nightItem_98 rfl (lv_at hl1 1 rfl) ?_
          refine va_get (D := D) (ci := 7) (v := .ref (mm 1)) (C := RX7) (T := TX7) (N := 23) hx hb hw iX7 hown hK hP6 0 rfl rfl 0 (by decide) (hw _ kw_4_64) (fun _ h9 => h9) rfl dX7_nightItem_99 ?_
          refine lv_iconst (v := 2) hx hb dX7_nightItem_102 (by decide) ?_
          refine lv_iload_n hx hb dX7_nightItem_103 rfl (lv_at hl1 0 rfl) ?_
          refine lv_iadd hx hb dX7_nightItem_104 ?_
          refine tp (show (2 + 4) = 6 from by decide) ?_
          refine lv_aload_n hx hb dX7_nightItem_105 rfl (lv_at hl1 1 rfl) ?_
          refine va_get (D := D) (ci := 7) (v := .int vl1_88) (C := RX7) (T := TX7) (N := 23) hx hb hw iX7 hown hK hP6 0 rfl rfl 9 (by decide) (hw _ kw_4_73) (fun _ h9 => h9) rfl dX7_nightItem_106 ?_
          refine ast_i (f := S) (ws' := [mO cy mm ik (nI n) (nI ((ntR T n rq).2)) (nI (te T n ((ntR T n rq).2))) vl1_88 (b2i ((ntR T n rq).1 = true)) rm rr om, ia cy (mm 1) 169 (upd S 6 vl1_88), ia cy (mm 5) 120 T]) hx hb hK hP6 hD6 hS6 1 0 rfl rfl 6 rfl (by first | omega | assumption) (by decide) rfl dX7_nightItem_109 (fun H7 locs7 hP7 hD7 hS7 => ?_)
          clear hP6 hD6 hS6 locs6 H6
          have hq9 : ([mO cy mm ik (nI n) (nI ((ntR T n rq).2)) (nI (te T n ((ntR T n rq).2))) vl1_88 (b2i ((ntR T n rq).1 = true)) rm rr om, ia cy (mm 1) 169 (upd S 6 vl1_88), ia cy (mm 5) 120 T]) = ([mO cy mm ik (nI n) (nI ((ntR T n rq).2)) (nI (te T n ((ntR T n rq).2))) vl1_88 (b2i ((ntR T n rq).1 = true)) rm rr om, ia cy (mm 1) 169 (if (ntR T n rq).1 = true then S else upd S (2 + bstN (prt T n (rq.2))) (nI (numV T n (nxt T n (rq.2))))), ia cy (mm 5) 120 T]) := congrArg (fun z9 => [mO cy mm ik (nI n) (nI ((ntR T n rq).2)) (nI (te T n ((ntR T n rq).2))) vl1_88 (b2i ((ntR T n rq).1 = true)) rm rr om, ia cy (mm 1) 169 z9, ia cy (mm 5) 120 T]) (show (upd S 6 vl1_88) = (if (ntR T n rq).1 = true then S else upd S (2 + bstN (prt T n (rq.2))) (nI (numV T n (nxt T n (rq.2))))) from by rw [if_neg c_95, (prt_4 (fun z8 => c_15 ⟨c_60.1, z8⟩) (fun z8 => c_37 ⟨c_60.1, z8⟩) c_60.2), hvl_88 hzf, (nd_ok (nm_ok hzf).1).2.2]; rfl)
          replace hP7 := (congrArg (fun z9 => va_P D vwCl z9 _) hq9).mp hP7
          replace hD7 := (congrArg (fun z9 => va_D _ z9) hq9).mp hD7
          clear hq9
          refine re_v vl1_88 hx hb hr hlocks hP7 hD7 hS7 dX7_nightItem_110 ?_
          exact (trivial)
    · refine lv_iconst (v := 1) hx hb dX7_nightItem_40 (by decide) ?_
      refine lv_goto (tgt := 68) hx hb dX7_nightItem_41 (by decide) ?_
      refine lv_istore_n (lv' := [(1, .int 1), (0, .ref (mm 0))]) hx hb dX7_nightItem_68 rfl hl0 (by decide) rfl (fun ls1 hl1 => ?_)
      clear hl0 ls0
      refine lv_aload_n hx hb dX7_nightItem_69 rfl (lv_at hl1 1 rfl) ?_
      refine lv_iload_n hx hb dX7_nightItem_70 rfl (lv_at hl1 0 rfl) ?_
      refine lv_if_lt (tgt := 78) hx hb dX7_nightItem_71 (by decide) (fun c => absurd c (by decide)) (fun _ => ?_)
      refine lv_iconst (v := 1) hx hb dX7_nightItem_74 (by decide) ?_
      refine lv_goto (tgt := 79) hx hb dX7_nightItem_75 (by decide) ?_
      refine tp (show (1) = b2i (true = true) from (b2i_t rfl).symm) ?_
      refine cV_v (wc := [mO cy mm ik (nI n) (nI (rq.2)) (nI (te T n (rq.2))) vl (b2i (rq.1 = true)) rm rr om, ia cy (mm 5) 120 T]) (wr := [ia cy (mm 1) 169 S]) (rest := []) hx hb hml hown hw hG hK hP2 hD2 hS2 hA hl1 kc_X7_needs kw_5_29 [.int (b2i (true = true))] (c_X7_needs l D cy G H2.size mm ik vl rm rr om n T rq true (by first | omega | assumption) (by first | omega | assumption)) [0, 2] [1] rfl rfl rfl rfl rfl 0 rfl rfl rfl rfl rfl (Nat.le_of_ble_eq_true rfl) ⟨Nat.le_of_ble_eq_true rfl, Nat.le_of_ble_eq_true rfl⟩ dX7_nightItem_79 ⟨Nat.le_of_ble_eq_true rfl, Nat.le_of_ble_eq_true rfl⟩ (fun u9 H3 locs3 hu9 hP3 hD3 hS3 => ?_)
      clear hP2 hD2 hS2 locs2 H2
      replace hP3 : va_P D vwCl ([ia cy (mm 1) 169 S, mO cy mm ik (nI n) (nI ((ndR T n true rq).2)) (nI (te T n ((ndR T n true rq).2))) vl (b2i ((ndR T n true rq).1 = true)) rm rr om, ia cy (mm 5) 120 T]) H3 := hP3
      replace hD3 : va_D (va_A _ sz) ([ia cy (mm 1) 169 S, mO cy mm ik (nI n) (nI ((ndR T n true rq).2)) (nI (te T n ((ndR T n true rq).2))) vl (b2i ((ndR T n true rq).1 = true)) rm rr om, ia cy (mm 5) 120 T]) := hD3
      replace hP3 := hP3.sub (ws' := [mO cy mm ik (nI n) (nI ((ndR T n true rq).2)) (nI (te T n ((ndR T n true rq).2))) vl (b2i ((ndR T n true rq).1 = true)) rm rr om, ia cy (mm 1) 169 S, ia cy (mm 5) 120 T]) [1, 0, 2] rfl
      replace hD3 := hD3.sub (ws' := [mO cy mm ik (nI n) (nI ((ndR T n true rq).2)) (nI (te T n ((ndR T n true rq).2))) vl (b2i ((ndR T n true rq).1 = true)) rm rr om, ia cy (mm 1) 169 S, ia cy (mm 5) 120 T]) [1, 0, 2] (by decide) rfl
      refine lv_aload_n hx hb dX7_nightItem_82 rfl (lv_at hl1 1 rfl) ?_
      refine lv_iconst (v := 0) hx hb dX7_nightItem_83 (by decide) ?_
      refine lv_iload_n hx hb dX7_nightItem_84 rfl (lv_at hl1 0 rfl) ?_
      refine rT_i (wc := []) (rest := [.int 0, .ref (mm 0)]) hx hb hml hown hw hG hK hP3 hS3 hA hl1 kc_X7_mostOf kw_4_211 [.int 1] (c_X7_mostOf l D cy G H3.size 1) [] rfl rfl rfl (Nat.le_of_ble_eq_true rfl) ⟨Nat.le_of_ble_eq_true rfl, Nat.le_of_ble_eq_true rfl⟩ dX7_nightItem_85 ⟨Nat.le_of_ble_eq_true rfl, Nat.le_of_ble_eq_true rfl⟩ (fun r_85 H4 locs4 hr_85 hP4 hS4 => ?_)
      have hD4 := hD3
      clear hP3 hD3 hS3 locs3 H3
      subst hr_85
      refine tp (show (if 1 = 0 then 40 else if 1 = 2 then 3 else if 1 = 5 then 100 else 99) = 99 from by decide) ?_
      refine cV_v (wc := [mO cy mm ik (nI n) (nI ((ndR T n true rq).2)) (nI (te T n ((ndR T n true rq).2))) vl (b2i ((ndR T n true rq).1 = true)) rm rr om, ia cy (mm 5) 120 T]) (wr := [ia cy (mm 1) 169 S]) (rest := []) hx hb hml hown hw hG hK hP4 hD4 hS4 hA hl1 kc_X7_number kw_5_33 [.int 0, .int 99] (c_X7_number l D cy G H4.size mm ik vl rm rr om n T (ndR T n true rq) 99 (by first | omega | assumption) hnt.2 (by decide)) [0, 2] [1] rfl rfl rfl rfl rfl 0 rfl rfl rfl rfl rfl (Nat.le_of_ble_eq_true rfl) ⟨Nat.le_of_ble_eq_true rfl, Nat.le_of_ble_eq_true rfl⟩ dX7_nightItem_88 ⟨Nat.le_of_ble_eq_true rfl, Nat.le_of_ble_eq_true rfl⟩ (fun u9 H5 locs5 hu9 hP5 hD5 hS5 => ?_)
      clear hP4 hD4 hS4 locs4 H4
      obtain ⟨vl1_88, rfl⟩ : ∃ z9, z9 = u9 := ⟨_, rfl⟩
      have hvl_88 := hu9
      replace hvl_88 : (nmR T n 99 (ndR T n true rq)).1 = false → vl1_88 = nI (numV T n ((ndR T n true rq).2)) := hvl_88
      replace hP5 : va_P D vwCl ([ia cy (mm 1) 169 S, mO cy mm ik (nI n) (nI ((nmR T n 99 (ndR T n true rq)).2)) (nI (te T n ((nmR T n 99 (ndR T n true rq)).2))) vl1_88 (b2i ((nmR T n 99 (ndR T n true rq)).1 = true)) rm rr om, ia cy (mm 5) 120 T]) H5 := hP5
      replace hD5 : va_D (va_A _ sz) ([ia cy (mm 1) 169 S, mO cy mm ik (nI n) (nI ((nmR T n 99 (ndR T n true rq)).2)) (nI (te T n ((nmR T n 99 (ndR T n true rq)).2))) vl1_88 (b2i ((nmR T n 99 (ndR T n true rq)).1 = true)) rm rr om, ia cy (mm 5) 120 T]) := hD5
      replace hP5 := hP5.sub (ws' := [mO cy mm ik (nI n) (nI ((nmR T n 99 (ndR T n true rq)).2)) (nI (te T n ((nmR T n 99 (ndR T n true rq)).2))) vl1_88 (b2i ((nmR T n 99 (ndR T n true rq)).1 = true)) rm rr om, ia cy (mm 1) 169 S, ia cy (mm 5) 120 T]) [1, 0, 2] rfl
      replace hD5 := hD5.sub (ws' := [mO cy mm ik (nI n) (nI ((nmR T n 99 (ndR T n true rq)).2)) (nI (te T n ((nmR T n 99 (ndR T n true rq)).2))) vl1_88 (b2i ((nmR T n 99 (ndR T n true rq)).1 = true)) rm rr om, ia cy (mm 1) 169 S, ia cy (mm 5) 120 T]) [1, 0, 2] (by decide) rfl
      have hp9 : nmR T n 99 (ndR T n true rq) = (ntR T n rq) := nt_g c_37.1 (prt_1 (fun z8 => c_15 ⟨c_37.1, z8⟩) c_37.2) (by decide) (by decide)
      have hq9 : ([mO cy mm ik (nI n) (nI ((nmR T n 99 (ndR T n true rq)).2)) (nI (te T n ((nmR T n 99 (ndR T n true rq)).2))) vl1_88 (b2i ((nmR T n 99 (ndR T n true rq)).1 = true)) rm rr om, ia cy (mm 1) 169 S, ia cy (mm 5) 120 T]) = ([mO cy mm ik (nI n) (nI ((ntR T n rq).2)) (nI (te T n ((nmR T n 99 (ndR T n true rq)).2))) vl1_88 (b2i ((nmR T n 99 (ndR T n true rq)).1 = true)) rm rr om, ia cy (mm 1) 169 S, ia cy (mm 5) 120 T]) := congrArg (fun z9 => [mO cy mm ik (nI n) z9 (nI (te T n ((nmR T n 99 (ndR T n true rq)).2))) vl1_88 (b2i ((nmR T n 99 (ndR T n true rq)).1 = true)) rm rr om, ia cy (mm 1) 169 S, ia cy (mm 5) 120 T]) (show (nI ((nmR T n 99 (ndR T n true rq)).2)) = (nI ((ntR T n rq).2)) from congrArg (fun z9 : Bool × Nat => nI (z9.2)) hp9)
      replace hP5 := (congrArg (fun z9 => va_P D vwCl z9 _) hq9).mp hP5
      replace hD5 := (congrArg (fun z9 => va_D _ z9) hq9).mp hD5
      clear hq9
      have hq9 : ([mO cy mm ik (nI n) (nI ((ntR T n rq).2)) (nI (te T n ((nmR T n 99 (ndR T n true rq)).2))) vl1_88 (b2i ((nmR T n 99 (ndR T n true rq)).1 = true)) rm rr om, ia cy (mm 1) 169 S, ia cy (mm 5) 120 T]) = ([mO cy mm ik (nI n) (nI ((ntR T n rq).2)) (nI (te T n ((ntR T n rq).2))) vl1_88 (b2i ((nmR T n 99 (ndR T n true rq)).1 = true)) rm rr om, ia cy (mm 1) 169 S, ia cy (mm 5) 120 T]) := congrArg (fun z9 => [mO cy mm ik (nI n) (nI ((ntR T n rq).2)) z9 vl1_88 (b2i ((nmR T n 99 (ndR T n true rq)).1 = true)) rm rr om, ia cy (mm 1) 169 S, ia cy (mm 5) 120 T]) (show (nI (te T n ((nmR T n 99 (ndR T n true rq)).2))) = (nI (te T n ((ntR T n rq).2))) from congrArg (fun z9 : Bool × Nat => nI (te T n (z9.2))) hp9)
      replace hP5 := (congrArg (fun z9 => va_P D vwCl z9 _) hq9).mp hP5
      replace hD5 := (congrArg (fun z9 => va_D _ z9) hq9).mp hD5
      clear hq9
      have hq9 : ([mO cy mm ik (nI n) (nI ((ntR T n rq).2)) (nI (te T n ((ntR T n rq).2))) vl1_88 (b2i ((nmR T n 99 (ndR T n true rq)).1 = true)) rm rr om, ia cy (mm 1) 169 S, ia cy (mm 5) 120 T]) = ([mO cy mm ik (nI n) (nI ((ntR T n rq).2)) (nI (te T n ((ntR T n rq).2))) vl1_88 (b2i ((ntR T n rq).1 = true)) rm rr om, ia cy (mm 1) 169 S, ia cy (mm 5) 120 T]) := congrArg (fun z9 => [mO cy mm ik (nI n) (nI ((ntR T n rq).2)) (nI (te T n ((ntR T n rq).2))) vl1_88 z9 rm rr om, ia cy (mm 1) 169 S, ia cy (mm 5) 120 T]) (show (b2i ((nmR T n 99 (ndR T n true rq)).1 = true)) = (b2i ((ntR T n rq).1 = true)) from congrArg (fun z9 : Bool × Nat => b2i (z9.1 = true)) hp9)
      replace hP5 := (congrArg (fun z9 => va_P D vwCl z9 _) hq9).mp hP5
      replace hD5 := (congrArg (fun z9 => va_D _ z9) hq9).mp hD5
      clear hq9
      clear hp9
      refine lv_aload_n hx hb dX7_nightItem_91 rfl (lv_at hl1 1 rfl) ?_
      refine va_get (D := D) (ci := 7) (v := .int (b2i ((ntR T n rq).1 = true))) (C := RX7) (T := TX7) (N := 23) hx hb hw iX7 hown hK hP5 0 rfl rfl 10 (by decide) (hw _ kw_4_74) (fun _ h9 => h9) rfl dX7_nightItem_92 ?_
      refine lb_ne (tgt := 110) hx hb dX7_nightItem_95 (by decide) (fun c_95 => ?_) (fun c_95 => ?_)
      · have hq9 : ([mO cy mm ik (nI n) (nI ((ntR T n rq).2)) (nI (te T n ((ntR T n rq).2))) vl1_88 (b2i ((ntR T n rq).1 = true)) rm rr om, ia cy (mm 1) 169 S, ia cy (mm 5) 120 T]) = ([mO cy mm ik (nI n) (nI ((ntR T n rq).2)) (nI (te T n ((ntR T n rq).2))) vl1_88 (b2i ((ntR T n rq).1 = true)) rm rr om, ia cy (mm 1) 169 (if (ntR T n rq).1 = true then S else upd S (2 + bstN (prt T n (rq.2))) (nI (numV T n (nxt T n (rq.2))))), ia cy (mm 5) 120 T]) := congrArg (fun z9 => [mO cy mm ik (nI n) (nI ((ntR T n rq).2)) (nI (te T n ((ntR T n rq).2))) vl1_88 (b2i ((ntR T n rq).1 = true)) rm rr om, ia cy (mm 1) 169 z9, ia cy (mm 5) 120 T]) (show S = (if (ntR T n rq).1 = true then S else upd S (2 + bstN (prt T n (rq.2))) (nI (numV T n (nxt T n (rq.2))))) from (if_pos c_95).symm)
        replace hP5 := (congrArg (fun z9 => va_P D vwCl z9 _) hq9).mp hP5
        replace hD5 := (congrArg (fun z9 => va_D _ z9) hq9).mp hD5
        clear hq9
        refine re_v vl1_88 hx hb hr hlocks hP5 hD5 hS5 dX7_nightItem_110 ?_
        exact (trivial)
      · have hzf : (nmR T n 99 (ndR T n true rq)).1 = false := by rw [nt_g c_37.1 (prt_1 (fun z8 => c_15 ⟨c_37.1, z8⟩) c_37.2) (by decide) (by decide)]; have h9 := c_95; simpa using h9
        refine lv_aload_n hx hb dX7_nightItem_98 rfl (lv_at hl1 1 rfl) ?_
        refine va_get (D := D) (ci := 7) (v := .ref (mm 1)) (C := RX7) (T := TX7) (N := 23) hx hb hw iX7 hown hK hP5 0 rfl rfl 0 (by decide) (hw _ kw_4_64) (fun _ h9 => h9) rfl dX7_nightItem_99 ?_
        refine lv_iconst (v := 2) hx hb dX7_nightItem_102 (by decide) ?_
        refine lv_iload_n hx hb dX7_nightItem_103 rfl (lv_at hl1 0 rfl) ?_
        refine lv_iadd hx hb dX7_nightItem_104 ?_
        refine tp (show (2 + 1) = 3 from by decide) ?_
        refine lv_aload_n hx hb dX7_nightItem_105 rfl (lv_at hl1 1 rfl) ?_
        refine va_get (D := D) (ci := 7) (v := .int vl1_88) (C := RX7) (T := TX7) (N := 23) hx hb hw iX7 hown hK hP5 0 rfl rfl 9 (by decide) (hw _ kw_4_73) (fun _ h9 => h9) rfl dX7_nightItem_106 ?_
        refine ast_i (f := S) (ws' := [mO cy mm ik (nI n) (nI ((ntR T n rq).2)) (nI (te T n ((ntR T n rq).2))) vl1_88 (b2i ((ntR T n rq).1 = true)) rm rr om, ia cy (mm 1) 169 (upd S 3 vl1_88), ia cy (mm 5) 120 T]) hx hb hK hP5 hD5 hS5 1 0 rfl rfl 3 rfl (by first | omega | assumption) (by decide) rfl dX7_nightItem_109 (fun H6 locs6 hP6 hD6 hS6 => ?_)
        clear hP5 hD5 hS5 locs5 H5
        have hq9 : ([mO cy mm ik (nI n) (nI ((ntR T n rq).2)) (nI (te T n ((ntR T n rq).2))) vl1_88 (b2i ((ntR T n rq).1 = true)) rm rr om, ia cy (mm 1) 169 (upd S 3 vl1_88), ia cy (mm 5) 120 T]) = ([mO cy mm ik (nI n) (nI ((ntR T n rq).2)) (nI (te T n ((ntR T n rq).2))) vl1_88 (b2i ((ntR T n rq).1 = true)) rm rr om, ia cy (mm 1) 169 (if (ntR T n rq).1 = true then S else upd S (2 + bstN (prt T n (rq.2))) (nI (numV T n (nxt T n (rq.2))))), ia cy (mm 5) 120 T]) := congrArg (fun z9 => [mO cy mm ik (nI n) (nI ((ntR T n rq).2)) (nI (te T n ((ntR T n rq).2))) vl1_88 (b2i ((ntR T n rq).1 = true)) rm rr om, ia cy (mm 1) 169 z9, ia cy (mm 5) 120 T]) (show (upd S 3 vl1_88) = (if (ntR T n rq).1 = true then S else upd S (2 + bstN (prt T n (rq.2))) (nI (numV T n (nxt T n (rq.2))))) from by rw [if_neg c_95, (prt_1 (fun z8 => c_15 ⟨c_37.1, z8⟩) c_37.2), hvl_88 hzf, (nd_ok (nm_ok hzf).1).2.2]; rfl)
        replace hP6 := (congrArg (fun z9 => va_P D vwCl z9 _) hq9).mp hP6
        replace hD6 := (congrArg (fun z9 => va_D _ z9) hq9).mp hD6
        clear hq9
        refine re_v vl1_88 hx hb hr hlocks hP6 hD6 hS6 dX7_nightItem_110 ?_
        exact (trivial)
  · refine lv_iconst (v := 0) hx hb dX7_nightItem_18 (by decide) ?_
    refine lv_goto (tgt := 68) hx hb dX7_nightItem_19 (by decide) ?_
    refine lv_istore_n (lv' := [(1, .int 0), (0, .ref (mm 0))]) hx hb dX7_nightItem_68 rfl hl0 (by decide) rfl (fun ls1 hl1 => ?_)
    clear hl0 ls0
    refine lv_aload_n hx hb dX7_nightItem_69 rfl (lv_at hl1 1 rfl) ?_
    refine lv_iload_n hx hb dX7_nightItem_70 rfl (lv_at hl1 0 rfl) ?_
    refine lv_if_lt (tgt := 78) hx hb dX7_nightItem_71 (by decide) (fun c => absurd c (by decide)) (fun _ => ?_)
    refine lv_iconst (v := 1) hx hb dX7_nightItem_74 (by decide) ?_
    refine lv_goto (tgt := 79) hx hb dX7_nightItem_75 (by decide) ?_
    refine tp (show (1) = b2i (true = true) from (b2i_t rfl).symm) ?_
    refine cV_v (wc := [mO cy mm ik (nI n) (nI (rq.2)) (nI (te T n (rq.2))) vl (b2i (rq.1 = true)) rm rr om, ia cy (mm 5) 120 T]) (wr := [ia cy (mm 1) 169 S]) (rest := []) hx hb hml hown hw hG hK hP1 hD1 hS1 hA hl1 kc_X7_needs kw_5_29 [.int (b2i (true = true))] (c_X7_needs l D cy G H1.size mm ik vl rm rr om n T rq true (by first | omega | assumption) (by first | omega | assumption)) [0, 2] [1] rfl rfl rfl rfl rfl 0 rfl rfl rfl rfl rfl (Nat.le_of_ble_eq_true rfl) ⟨Nat.le_of_ble_eq_true rfl, Nat.le_of_ble_eq_true rfl⟩ dX7_nightItem_79 ⟨Nat.le_of_ble_eq_true rfl, Nat.le_of_ble_eq_true rfl⟩ (fun u9 H2 locs2 hu9 hP2 hD2 hS2 => ?_)
    clear hP1 hD1 hS1 locs1 H1
    replace hP2 : va_P D vwCl ([ia cy (mm 1) 169 S, mO cy mm ik (nI n) (nI ((ndR T n true rq).2)) (nI (te T n ((ndR T n true rq).2))) vl (b2i ((ndR T n true rq).1 = true)) rm rr om, ia cy (mm 5) 120 T]) H2 := hP2
    replace hD2 : va_D (va_A _ sz) ([ia cy (mm 1) 169 S, mO cy mm ik (nI n) (nI ((ndR T n true rq).2)) (nI (te T n ((ndR T n true rq).2))) vl (b2i ((ndR T n true rq).1 = true)) rm rr om, ia cy (mm 5) 120 T]) := hD2
    replace hP2 := hP2.sub (ws' := [mO cy mm ik (nI n) (nI ((ndR T n true rq).2)) (nI (te T n ((ndR T n true rq).2))) vl (b2i ((ndR T n true rq).1 = true)) rm rr om, ia cy (mm 1) 169 S, ia cy (mm 5) 120 T]) [1, 0, 2] rfl
    replace hD2 := hD2.sub (ws' := [mO cy mm ik (nI n) (nI ((ndR T n true rq).2)) (nI (te T n ((ndR T n true rq).2))) vl (b2i ((ndR T n true rq).1 = true)) rm rr om, ia cy (mm 1) 169 S, ia cy (mm 5) 120 T]) [1, 0, 2] (by decide) rfl
    refine lv_aload_n hx hb dX7_nightItem_82 rfl (lv_at hl1 1 rfl) ?_
    refine lv_iconst (v := 0) hx hb dX7_nightItem_83 (by decide) ?_
    refine lv_iload_n hx hb dX7_nightItem_84 rfl (lv_at hl1 0 rfl) ?_
    refine rT_i (wc := []) (rest := [.int 0, .ref (mm 0)]) hx hb hml hown hw hG hK hP2 hS2 hA hl1 kc_X7_mostOf kw_4_211 [.int 0] (c_X7_mostOf l D cy G H2.size 0) [] rfl rfl rfl (Nat.le_of_ble_eq_true rfl) ⟨Nat.le_of_ble_eq_true rfl, Nat.le_of_ble_eq_true rfl⟩ dX7_nightItem_85 ⟨Nat.le_of_ble_eq_true rfl, Nat.le_of_ble_eq_true rfl⟩ (fun r_85 H3 locs3 hr_85 hP3 hS3 => ?_)
    have hD3 := hD2
    clear hP2 hD2 hS2 locs2 H2
    subst hr_85
    refine tp (show (if 0 = 0 then 40 else if 0 = 2 then 3 else if 0 = 5 then 100 else 99) = 40 from by decide) ?_
    refine cV_v (wc := [mO cy mm ik (nI n) (nI ((ndR T n true rq).2)) (nI (te T n ((ndR T n true rq).2))) vl (b2i ((ndR T n true rq).1 = true)) rm rr om, ia cy (mm 5) 120 T]) (wr := [ia cy (mm 1) 169 S]) (rest := []) hx hb hml hown hw hG hK hP3 hD3 hS3 hA hl1 kc_X7_number kw_5_33 [.int 0, .int 40] (c_X7_number l D cy G H3.size mm ik vl rm rr om n T (ndR T n true rq) 40 (by first | omega | assumption) hnt.2 (by decide)) [0, 2] [1] rfl rfl rfl rfl rfl 0 rfl rfl rfl rfl rfl (Nat.le_of_ble_eq_true rfl) ⟨Nat.le_of_ble_eq_true rfl, Nat.le_of_ble_eq_true rfl⟩ dX7_nightItem_88 ⟨Nat.le_of_ble_eq_true rfl, Nat.le_of_ble_eq_true rfl⟩ (fun u9 H4 locs4 hu9 hP4 hD4 hS4 => ?_)
    clear hP3 hD3 hS3 locs3 H3
    obtain ⟨vl1_88, rfl⟩ : ∃ z9, z9 = u9 := ⟨_, rfl⟩
    have hvl_88 := hu9
    replace hvl_88 : (nmR T n 40 (ndR T n true rq)).1 = false → vl1_88 = nI (numV T n ((ndR T n true rq).2)) := hvl_88
    replace hP4 : va_P D vwCl ([ia cy (mm 1) 169 S, mO cy mm ik (nI n) (nI ((nmR T n 40 (ndR T n true rq)).2)) (nI (te T n ((nmR T n 40 (ndR T n true rq)).2))) vl1_88 (b2i ((nmR T n 40 (ndR T n true rq)).1 = true)) rm rr om, ia cy (mm 5) 120 T]) H4 := hP4
    replace hD4 : va_D (va_A _ sz) ([ia cy (mm 1) 169 S, mO cy mm ik (nI n) (nI ((nmR T n 40 (ndR T n true rq)).2)) (nI (te T n ((nmR T n 40 (ndR T n true rq)).2))) vl1_88 (b2i ((nmR T n 40 (ndR T n true rq)).1 = true)) rm rr om, ia cy (mm 5) 120 T]) := hD4
    replace hP4 := hP4.sub (ws' := [mO cy mm ik (nI n) (nI ((nmR T n 40 (ndR T n true rq)).2)) (nI (te T n ((nmR T n 40 (ndR T n true rq)).2))) vl1_88 (b2i ((nmR T n 40 (ndR T n true rq)).1 = true)) rm rr om, ia cy (mm 1) 169 S, ia cy (mm 5) 120 T]) [1, 0, 2] rfl
    replace hD4 := hD4.sub (ws' := [mO cy mm ik (nI n) (nI ((nmR T n 40 (ndR T n true rq)).2)) (nI (te T n ((nmR T n 40 (ndR T n true rq)).2))) vl1_88 (b2i ((nmR T n 40 (ndR T n true rq)).1 = true)) rm rr om, ia cy (mm 1) 169 S, ia cy (mm 5) 120 T]) [1, 0, 2] (by decide) rfl
    have hp9 : nmR T n 40 (ndR T n true rq) = (ntR T n rq) := nt_g c_15.1 (prt_0 c_15.2) (by decide) (by decide)
    have hq9 : ([mO cy mm ik (nI n) (nI ((nmR T n 40 (ndR T n true rq)).2)) (nI (te T n ((nmR T n 40 (ndR T n true rq)).2))) vl1_88 (b2i ((nmR T n 40 (ndR T n true rq)).1 = true)) rm rr om, ia cy (mm 1) 169 S, ia cy (mm 5) 120 T]) = ([mO cy mm ik (nI n) (nI ((ntR T n rq).2)) (nI (te T n ((nmR T n 40 (ndR T n true rq)).2))) vl1_88 (b2i ((nmR T n 40 (ndR T n true rq)).1 = true)) rm rr om, ia cy (mm 1) 169 S, ia cy (mm 5) 120 T]) := congrArg (fun z9 => [mO cy mm ik (nI n) z9 (nI (te T n ((nmR T n 40 (ndR T n true rq)).2))) vl1_88 (b2i ((nmR T n 40 (ndR T n true rq)).1 = true)) rm rr om, ia cy (mm 1) 169 S, ia cy (mm 5) 120 T]) (show (nI ((nmR T n 40 (ndR T n true rq)).2)) = (nI ((ntR T n rq).2)) from congrArg (fun z9 : Bool × Nat => nI (z9.2)) hp9)
    replace hP4 := (congrArg (fun z9 => va_P D vwCl z9 _) hq9).mp hP4
    replace hD4 := (congrArg (fun z9 => va_D _ z9) hq9).mp hD4
    clear hq9
    have hq9 : ([mO cy mm ik (nI n) (nI ((ntR T n rq).2)) (nI (te T n ((nmR T n 40 (ndR T n true rq)).2))) vl1_88 (b2i ((nmR T n 40 (ndR T n true rq)).1 = true)) rm rr om, ia cy (mm 1) 169 S, ia cy (mm 5) 120 T]) = ([mO cy mm ik (nI n) (nI ((ntR T n rq).2)) (nI (te T n ((ntR T n rq).2))) vl1_88 (b2i ((nmR T n 40 (ndR T n true rq)).1 = true)) rm rr om, ia cy (mm 1) 169 S, ia cy (mm 5) 120 T]) := congrArg (fun z9 => [mO cy mm ik (nI n) (nI ((ntR T n rq).2)) z9 vl1_88 (b2i ((nmR T n 40 (ndR T n true rq)).1 = true)) rm rr om, ia cy (mm 1) 169 S, ia cy (mm 5) 120 T]) (show (nI (te T n ((nmR T n 40 (ndR T n true rq)).2))) = (nI (te T n ((ntR T n rq).2))) from congrArg (fun z9 : Bool × Nat => nI (te T n (z9.2))) hp9)
    replace hP4 := (congrArg (fun z9 => va_P D vwCl z9 _) hq9).mp hP4
    replace hD4 := (congrArg (fun z9 => va_D _ z9) hq9).mp hD4
    clear hq9
    have hq9 : ([mO cy mm ik (nI n) (nI ((ntR T n rq).2)) (nI (te T n ((ntR T n rq).2))) vl1_88 (b2i ((nmR T n 40 (ndR T n true rq)).1 = true)) rm rr om, ia cy (mm 1) 169 S, ia cy (mm 5) 120 T]) = ([mO cy mm ik (nI n) (nI ((ntR T n rq).2)) (nI (te T n ((ntR T n rq).2))) vl1_88 (b2i ((ntR T n rq).1 = true)) rm rr om, ia cy (mm 1) 169 S, ia cy (mm 5) 120 T]) := congrArg (fun z9 => [mO cy mm ik (nI n) (nI ((ntR T n rq).2)) (nI (te T n ((ntR T n rq).2))) vl1_88 z9 rm rr om, ia cy (mm 1) 169 S, ia cy (mm 5) 120 T]) (show (b2i ((nmR T n 40 (ndR T n true rq)).1 = true)) = (b2i ((ntR T n rq).1 = true)) from congrArg (fun z9 : Bool × Nat => b2i (z9.1 = true)) hp9)
    replace hP4 := (congrArg (fun z9 => va_P D vwCl z9 _) hq9).mp hP4
    replace hD4 := (congrArg (fun z9 => va_D _ z9) hq9).mp hD4
    clear hq9
    clear hp9
    refine lv_aload_n hx hb dX7_nightItem_91 rfl (lv_at hl1 1 rfl) ?_
    refine va_get (D := D) (ci := 7) (v := .int (b2i ((ntR T n rq).1 = true))) (C := RX7) (T := TX7) (N := 23) hx hb hw iX7 hown hK hP4 0 rfl rfl 10 (by decide) (hw _ kw_4_74) (fun _ h9 => h9) rfl dX7_nightItem_92 ?_
    refine lb_ne (tgt := 110) hx hb dX7_nightItem_95 (by decide) (fun c_95 => ?_) (fun c_95 => ?_)
    · have hq9 : ([mO cy mm ik (nI n) (nI ((ntR T n rq).2)) (nI (te T n ((ntR T n rq).2))) vl1_88 (b2i ((ntR T n rq).1 = true)) rm rr om, ia cy (mm 1) 169 S, ia cy (mm 5) 120 T]) = ([mO cy mm ik (nI n) (nI ((ntR T n rq).2)) (nI (te T n ((ntR T n rq).2))) vl1_88 (b2i ((ntR T n rq).1 = true)) rm rr om, ia cy (mm 1) 169 (if (ntR T n rq).1 = true then S else upd S (2 + bstN (prt T n (rq.2))) (nI (numV T n (nxt T n (rq.2))))), ia cy (mm 5) 120 T]) := congrArg (fun z9 => [mO cy mm ik (nI n) (nI ((ntR T n rq).2)) (nI (te T n ((ntR T n rq).2))) vl1_88 (b2i ((ntR T n rq).1 = true)) rm rr om, ia cy (mm 1) 169 z9, ia cy (mm 5) 120 T]) (show S = (if (ntR T n rq).1 = true then S else upd S (2 + bstN (prt T n (rq.2))) (nI (numV T n (nxt T n (rq.2))))) from (if_pos c_95).symm)
      replace hP4 := (congrArg (fun z9 => va_P D vwCl z9 _) hq9).mp hP4
      replace hD4 := (congrArg (fun z9 => va_D _ z9) hq9).mp hD4
      clear hq9
      refine re_v vl1_88 hx hb hr hlocks hP4 hD4 hS4 dX7_nightItem_110 ?_
      exact (trivial)
    · have hzf : (nmR T n 40 (ndR T n true rq)).1 = false := by rw [nt_g c_15.1 (prt_0 c_15.2) (by decide) (by decide)]; have h9 := c_95; simpa using h9
      refine lv_aload_n hx hb dX7_nightItem_98 rfl (lv_at hl1 1 rfl) ?_
      refine va_get (D := D) (ci := 7) (v := .ref (mm 1)) (C := RX7) (T := TX7) (N := 23) hx hb hw iX7 hown hK hP4 0 rfl rfl 0 (by decide) (hw _ kw_4_64) (fun _ h9 => h9) rfl dX7_nightItem_99 ?_
      refine lv_iconst (v := 2) hx hb dX7_nightItem_102 (by decide) ?_
      refine lv_iload_n hx hb dX7_nightItem_103 rfl (lv_at hl1 0 rfl) ?_
      refine lv_iadd hx hb dX7_nightItem_104 ?_
      refine tp (show (2 + 0) = 2 from by decide) ?_
      refine lv_aload_n hx hb dX7_nightItem_105 rfl (lv_at hl1 1 rfl) ?_
      refine va_get (D := D) (ci := 7) (v := .int vl1_88) (C := RX7) (T := TX7) (N := 23) hx hb hw iX7 hown hK hP4 0 rfl rfl 9 (by decide) (hw _ kw_4_73) (fun _ h9 => h9) rfl dX7_nightItem_106 ?_
      refine ast_i (f := S) (ws' := [mO cy mm ik (nI n) (nI ((ntR T n rq).2)) (nI (te T n ((ntR T n rq).2))) vl1_88 (b2i ((ntR T n rq).1 = true)) rm rr om, ia cy (mm 1) 169 (upd S 2 vl1_88), ia cy (mm 5) 120 T]) hx hb hK hP4 hD4 hS4 1 0 rfl rfl 2 rfl (by first | omega | assumption) (by decide) rfl dX7_nightItem_109 (fun H5 locs5 hP5 hD5 hS5 => ?_)
      clear hP4 hD4 hS4 locs4 H4
      have hq9 : ([mO cy mm ik (nI n) (nI ((ntR T n rq).2)) (nI (te T n ((ntR T n rq).2))) vl1_88 (b2i ((ntR T n rq).1 = true)) rm rr om, ia cy (mm 1) 169 (upd S 2 vl1_88), ia cy (mm 5) 120 T]) = ([mO cy mm ik (nI n) (nI ((ntR T n rq).2)) (nI (te T n ((ntR T n rq).2))) vl1_88 (b2i ((ntR T n rq).1 = true)) rm rr om, ia cy (mm 1) 169 (if (ntR T n rq).1 = true then S else upd S (2 + bstN (prt T n (rq.2))) (nI (numV T n (nxt T n (rq.2))))), ia cy (mm 5) 120 T]) := congrArg (fun z9 => [mO cy mm ik (nI n) (nI ((ntR T n rq).2)) (nI (te T n ((ntR T n rq).2))) vl1_88 (b2i ((ntR T n rq).1 = true)) rm rr om, ia cy (mm 1) 169 z9, ia cy (mm 5) 120 T]) (show (upd S 2 vl1_88) = (if (ntR T n rq).1 = true then S else upd S (2 + bstN (prt T n (rq.2))) (nI (numV T n (nxt T n (rq.2))))) from by rw [if_neg c_95, (prt_0 c_15.2), hvl_88 hzf, (nd_ok (nm_ok hzf).1).2.2]; rfl)
      replace hP5 := (congrArg (fun z9 => va_P D vwCl z9 _) hq9).mp hP5
      replace hD5 := (congrArg (fun z9 => va_D _ z9) hq9).mp hD5
      clear hq9
      refine re_v vl1_88 hx hb hr hlocks hP5 hD5 hS5 dX7_nightItem_110 ?_
      exact (trivial)
