theorem kc_X4_tell : kV yX4_tell cX4_tell 3 (some .int) 1 := ⟨kw_2_164, kw_2_165, kw_1_5, kw_2_166, by decide, by decide, by decide +kernel⟩
set_option maxHeartbeats 4000000 in
set_option maxRecDepth 100000 in
theorem c_X4_tell (l : Launch) (D : va_G) (cy : Nat → ClassId) (G : Nat → Nat) (sz : Nat) (ee : Nat → Nat) (n : Nat) (T : Nat → Int32) (sa : Int32) (tk : Int32) (va : Int32) (en : Int32) (dd : Nat → Nat) (X : Nat → Int32) (wX : wf X) (hn : n ≤ 120) (htp : tpOk T n) : Met l yX4_tell (wm yX4_tell cX4_tell 3 (some .int)) { frames := 9, cells := 0, slots := 0, locals := 202 } (va_Pc [.ref (ee 0), .ref (dd 0)] (pr D (TY cy) G ([eO cy ee sa en tk va, pO cy ee (nI n), ia cy (ee 2) 120 T] ++ (pS cy dd X)) sz)) (va_Qi (fun (r : Int32) (u : Int32 × Int32 × Int32 × (Nat → Int32)) => (r = if (tlA T n X).1 = true then -1 else nI ((tlA T n X).2.2.1)) ∧ (can u.2.2.2) ∧ ((tlA T n X).1 = false → u.2.2.2 = (tlA T n X).2.2.2)) (fun (u : Int32 × Int32 × Int32 × (Nat → Int32)) t => po D (va_A ([eO cy ee sa en tk va, pO cy ee (nI n), ia cy (ee 2) 120 T] ++ (pS cy dd X)) sz) ([eO cy ee (nI ((tlA T n X).2.1)) u.1 u.2.1 u.2.2.1, pO cy ee (nI n), ia cy (ee 2) 120 T] ++ (pS cy dd u.2.2.2)) t) (va_A ([eO cy ee sa en tk va, pO cy ee (nI n), ia cy (ee 2) 120 T] ++ (pS cy dd X)) sz)) 0 0 (va_A ([eO cy ee sa en tk va, pO cy ee (nI n), ia cy (ee 2) 120 T] ++ (pS cy dd X)) sz) := by
  refine mk_rw (by decide) RX4 rfl (Nat.le_of_ble_eq_true rfl) [(0, .ref (ee 0)), (1, .ref (dd 0))] rfl ?_
  intro p e s m below meth c hx hb hml hown hr hlocks hin hw hsz hA hG hK H0 locs0 hP0 hD0 hS0 ls0 hl0
  clear hin
  have hk0 := skp_b (T := T) (n := n) (k := 0) (Nat.zero_le n)
  refine lv_aload_n hx hb dX4_tell_0 rfl (lv_at hl0 0 rfl) ?_
  refine lv_iconst (v := 0) hx hb dX4_tell_1 (by decide) ?_
  refine pt (D := D) (ci := 4) (v := .int 0) (ty := .int) (C := RX4) (T := TX4) (N := 5) (ws' := [eO cy ee sa 0 tk va, pO cy ee (nI n), ia cy (ee 2) 120 T] ++ (pS cy dd X)) hx hb hw iX4 tyX4 tyX4_ok nmX4 hown hK hP0 hD0 hS0 0 rfl rfl 2 (by decide) kw_1_232 (fun _ h9 => h9) rfl (by decide +kernel) rfl rfl (Nat.le_of_ble_eq_true rfl) rfl dX4_tell_2 (fun H1 locs1 hP1 hD1 hS1 => ?_)
  clear hP0 hD0 hS0 locs0 H0
  refine lv_aload_n hx hb dX4_tell_5 rfl (lv_at hl0 0 rfl) ?_
  refine cV_v (wc := [eO cy ee sa 0 tk va, pO cy ee (nI n), ia cy (ee 2) 120 T]) (wr := pS cy dd X) (rest := []) hx hb hml hown hw hG hK hP1 hD1 hS1 hA hl0 kc_X4_nextToken kw_2_167 [] (c_X4_nextToken l D cy G H1.size ee n T sa tk va 0 (by first | omega | assumption) (Nat.zero_le n) (by first | omega | assumption)) [0, 1, 2] [3, 4, 5, 6, 7, 8, 9, 10, 11, 12] rfl rfl rfl rfl rfl 0 rfl rfl rfl rfl rfl (Nat.le_of_ble_eq_true rfl) ⟨Nat.le_of_ble_eq_true rfl, Nat.le_of_ble_eq_true rfl⟩ dX4_tell_6 ⟨Nat.le_of_ble_eq_true rfl, Nat.le_of_ble_eq_true rfl⟩ (fun u9 H2 locs2 hu9 hP2 hD2 hS2 => ?_)
  clear hP1 hD1 hS1 locs1 H1
  obtain ⟨va1_6, rfl⟩ : ∃ z9, z9 = u9 := ⟨_, rfl⟩
  have hv_6 := hu9
  replace hv_6 : tkn T n (skp T n 0) = 2 → va1_6 = nI (numV T n (skp T n 0)) := hv_6
  replace hP2 : va_P D vwCl (pS cy dd X ++ ([eO cy ee (nI (skp T n 0)) (nI (te T n (skp T n 0))) (tkn T n (skp T n 0)) va1_6, pO cy ee (nI n), ia cy (ee 2) 120 T])) H2 := hP2
  replace hD2 : va_D (va_A _ sz) (pS cy dd X ++ ([eO cy ee (nI (skp T n 0)) (nI (te T n (skp T n 0))) (tkn T n (skp T n 0)) va1_6, pO cy ee (nI n), ia cy (ee 2) 120 T])) := hD2
  replace hP2 := hP2.sub (ws' := [eO cy ee (nI (skp T n 0)) (nI (te T n (skp T n 0))) (tkn T n (skp T n 0)) va1_6, pO cy ee (nI n), ia cy (ee 2) 120 T] ++ (pS cy dd X)) [10, 11, 12, 0, 1, 2, 3, 4, 5, 6, 7, 8, 9] rfl
  replace hD2 := hD2.sub (ws' := [eO cy ee (nI (skp T n 0)) (nI (te T n (skp T n 0))) (tkn T n (skp T n 0)) va1_6, pO cy ee (nI n), ia cy (ee 2) 120 T] ++ (pS cy dd X)) [10, 11, 12, 0, 1, 2, 3, 4, 5, 6, 7, 8, 9] (by decide) rfl
  refine lv_iconst (v := 1) hx hb dX4_tell_9 (by decide) ?_
  refine lv_istore_n (lv' := [(2, .int 1), (0, .ref (ee 0)), (1, .ref (dd 0))]) hx hb dX4_tell_10 rfl hl0 (by decide) rfl (fun ls1 hl1 => ?_)
  clear hl0 ls0
  refine wlp (ι := Nat × Nat × Int32 × (Nat → Int32) × Nat) (nL := 3) (fun x9 => (1 ≤ x9.1) ∧ (x9.1 ≤ x9.2.1 + 1) ∧ (x9.2.1 ≤ n) ∧ (tkn T n x9.2.1 = 2 → x9.2.2.1 = nI (numV T n x9.2.1)) ∧ (wf x9.2.2.2.1) ∧ (200 ≤ x9.2.2.2.2 + x9.2.1) ∧ (tlA T n X = tlF T n x9.2.2.2.2 x9.1 (itR T n x9.2.2.2.1 x9.2.1).1 (itR T n x9.2.2.2.1 x9.2.1).2 (itT T n x9.2.2.2.1 x9.2.1))) (fun x9 => [eO cy ee (nI x9.2.1) (nI (te T n x9.2.1)) (tkn T n x9.2.1) x9.2.2.1, pO cy ee (nI n), ia cy (ee 2) 120 T] ++ (pS cy dd x9.2.2.2.1)) (fun x9 => [(2, .int (nI x9.1)), (0, .ref (ee 0)), (1, .ref (dd 0))]) (fun x9 => []) (fun x9 => 122 - x9.1) 11 ?_ (1, skp T n 0, va1_6, X, 200) (⟨Nat.le_refl _, (by (try dsimp only); omega), hk0.2, hv_6, wX, (by (try dsimp only); omega), rfl⟩) rfl hP2 hD2 hS2 (lv_sub hl1 [0, 1, 2] rfl)
  clear hP2 hD2 hS2 locs2 H2 hl1 ls1
  intro x9 hI ih_11 H3 locs3 ls2 hP3 hD3 hS3 hl2
  obtain ⟨i, ps, va9, X9, fu⟩ := x9
  obtain ⟨hi1, hi, hps, hv9, hwX, hfu, hT⟩ := hI
  replace hi1 : 1 ≤ i := hi1
  replace hi : i ≤ ps + 1 := hi
  replace hps : ps ≤ n := hps
  replace hv9 : tkn T n ps = 2 → va9 = nI (numV T n ps) := hv9
  replace hwX : wf X9 := hwX
  replace hfu : 200 ≤ fu + ps := hfu
  replace hT : tlA T n X = tlF T n fu i (itR T n X9 ps).1 (itR T n X9 ps).2 (itT T n X9 ps) := hT
  replace hP3 : va_P D vwCl ([eO cy ee (nI ps) (nI (te T n ps)) (tkn T n ps) va9, pO cy ee (nI n), ia cy (ee 2) 120 T] ++ (pS cy dd X9)) H3 := hP3
  replace hD3 : va_D (va_A _ sz) ([eO cy ee (nI ps) (nI (te T n ps)) (tkn T n ps) va9, pO cy ee (nI n), ia cy (ee 2) 120 T] ++ (pS cy dd X9)) := hD3
  replace hl2 : lv_has ls2 3 [(2, .int (nI i)), (0, .ref (ee 0)), (1, .ref (dd 0))] := hl2
  show W p l e _ s m _ below meth c _ _ _ _ _ (F0 m 11 ls2 [])
  refine lv_iload_n hx hb dX4_tell_11 rfl (lv_at hl2 0 rfl) ?_
  refine lv_bipush (v := 120) hx hb dX4_tell_12 (by decide) ?_
  refine ln_gt (tgt := 56) i 120 rfl rfl (by omega) (by omega) hx hb dX4_tell_14 (by decide) (fun c_14 => ?_) (fun c_14 => ?_)
  · have hen := it_end (T := T) (X := X9) (show n ≤ ps by omega)
    obtain ⟨f9, rfl⟩ : ∃ f9, fu = f9 + 1 := ⟨fu - 1, by omega⟩
    rw [itT_x (congrArg Prod.fst hen), hen, tlF_q] at hT
    have hq9 : ([eO cy ee (nI ps) (nI (te T n ps)) (tkn T n ps) va9, pO cy ee (nI n), ia cy (ee 2) 120 T] ++ (pS cy dd X9)) = ([eO cy ee (nI ((tlA T n X).2.1)) (nI (te T n ps)) (tkn T n ps) va9, pO cy ee (nI n), ia cy (ee 2) 120 T] ++ (pS cy dd X9)) := congrArg (fun z9 => [eO cy ee z9 (nI (te T n ps)) (tkn T n ps) va9, pO cy ee (nI n), ia cy (ee 2) 120 T] ++ (pS cy dd X9)) (show (nI ps) = (nI ((tlA T n X).2.1)) from by rw [hT])
    replace hP3 := (congrArg (fun z9 => va_P D vwCl z9 _) hq9).mp hP3
    replace hD3 := (congrArg (fun z9 => va_D _ z9) hq9).mp hD3
    clear hq9
    refine lv_iconst (v := (-1)) hx hb dX4_tell_56 (by decide) ?_
    refine re_i (nI (te T n ps), tkn T n ps, va9, X9) hx hb hr hlocks hP3 hD3 hS3 dX4_tell_57 ?_
    exact (⟨by rw [hT]; rfl, wf_can hwX, fun z9 => by rw [hT] at z9; exact absurd (show true = false from z9) (by decide)⟩)
  · refine lv_aload_n hx hb dX4_tell_17 rfl (lv_at hl2 1 rfl) ?_
    refine lv_aload_n hx hb dX4_tell_18 rfl (lv_at hl2 2 rfl) ?_
    refine cV_i (wc := [eO cy ee (nI ps) (nI (te T n ps)) (tkn T n ps) va9, pO cy ee (nI n), ia cy (ee 2) 120 T] ++ (pS cy dd X9)) (wr := []) (rest := []) hx hb hml hown hw hG hK hP3 hD3 hS3 hA hl2 kc_X4_tellItem kw_2_181 [.ref (dd 0)] (c_X4_tellItem l D cy G H3.size ee n T ps va9 dd X9 hwX (by first | omega | assumption) hps hv9 (by first | omega | assumption)) [0, 1, 2, 3, 4, 5, 6, 7, 8, 9, 10, 11, 12] [] rfl rfl rfl rfl rfl 0 rfl rfl rfl rfl rfl (Nat.le_of_ble_eq_true rfl) ⟨Nat.le_of_ble_eq_true rfl, Nat.le_of_ble_eq_true rfl⟩ dX4_tell_19 ⟨Nat.le_of_ble_eq_true rfl, Nat.le_of_ble_eq_true rfl⟩ (fun r_19 u9 H4 locs4 hu9 hP4 hD4 hS4 => ?_)
    clear hP3 hD3 hS3 locs3 H3
    obtain ⟨va1_19, X1_19⟩ := u9
    obtain ⟨hr_19, hv1_19, hX1_19, hXo_19⟩ := hu9
    replace hv1_19 : tkn T n (itR T n X9 ps).2 = 2 → va1_19 = nI (numV T n (itR T n X9 ps).2) := hv1_19
    replace hX1_19 : can X1_19 := hX1_19
    replace hXo_19 : (itR T n X9 ps).1 = false → X1_19 = itS T n X9 ps := hXo_19
    replace hP4 : va_P D vwCl ([eO cy ee (nI ((itR T n X9 ps).2)) (nI (te T n ((itR T n X9 ps).2))) (tkn T n ((itR T n X9 ps).2)) va1_19, pO cy ee (nI n), ia cy (ee 2) 120 T] ++ (pS cy dd X1_19)) H4 := hP4
    replace hD4 : va_D (va_A _ sz) ([eO cy ee (nI ((itR T n X9 ps).2)) (nI (te T n ((itR T n X9 ps).2))) (tkn T n ((itR T n X9 ps).2)) va1_19, pO cy ee (nI n), ia cy (ee 2) 120 T] ++ (pS cy dd X1_19)) := hD4
    subst hr_19
    refine lb_ne (tgt := 27) hx hb dX4_tell_22 (by decide) (fun c_22 => ?_) (fun c_22 => ?_)
    · have hq9 := c_22
      have hadv := it_adv hq9
      have hb9 := itR_b (T := T) (X := X9) hps
      have hw9 := it_ok_wf hwX hq9
      rw [itT_s hq9, hq9] at hT
      obtain ⟨f9, rfl⟩ : ∃ f9, fu = f9 + 1 := ⟨fu - 1, by omega⟩
      have hq9 : ([eO cy ee (nI ((itR T n X9 ps).2)) (nI (te T n ((itR T n X9 ps).2))) (tkn T n ((itR T n X9 ps).2)) va1_19, pO cy ee (nI n), ia cy (ee 2) 120 T] ++ (pS cy dd X1_19)) = ([eO cy ee (nI ((itR T n X9 ps).2)) (nI (te T n ((itR T n X9 ps).2))) (tkn T n ((itR T n X9 ps).2)) va1_19, pO cy ee (nI n), ia cy (ee 2) 120 T] ++ (pS cy dd (itS T n X9 ps))) := congrArg (fun z9 => [eO cy ee (nI ((itR T n X9 ps).2)) (nI (te T n ((itR T n X9 ps).2))) (tkn T n ((itR T n X9 ps).2)) va1_19, pO cy ee (nI n), ia cy (ee 2) 120 T] ++ (pS cy dd z9)) (show X1_19 = (itS T n X9 ps) from hXo_19 hq9)
      replace hP4 := (congrArg (fun z9 => va_P D vwCl z9 _) hq9).mp hP4
      replace hD4 := (congrArg (fun z9 => va_D _ z9) hq9).mp hD4
      clear hq9
      refine lv_aload_n hx hb dX4_tell_27 rfl (lv_at hl2 1 rfl) ?_
      refine va_get (D := D) (ci := 4) (v := .int (tkn T n ((itR T n X9 ps).2))) (C := RX4) (T := TX4) (N := 5) hx hb hw iX4 hown hK hP4 0 rfl rfl 3 (by decide) (hw _ kw_1_233) (fun _ h9 => h9) rfl dX4_tell_28 ?_
      refine lv_if_ne (tgt := 36) hx hb dX4_tell_31 (by decide) (fun c_31 => ?_) (fun c_31 => ?_)
      · refine lv_aload_n hx hb dX4_tell_36 rfl (lv_at hl2 1 rfl) ?_
        refine va_get (D := D) (ci := 4) (v := .int (tkn T n ((itR T n X9 ps).2))) (C := RX4) (T := TX4) (N := 5) hx hb hw iX4 hown hK hP4 0 rfl rfl 3 (by decide) (hw _ kw_1_233) (fun _ h9 => h9) rfl dX4_tell_37 ?_
        refine lv_iconst (v := 3) hx hb dX4_tell_40 (by decide) ?_
        refine lv_icmp_eq (tgt := 46) hx hb dX4_tell_41 (by decide) (fun c_41 => ?_) (fun c_41 => ?_)
        · have hnl9 : ¬ n ≤ (itR T n X9 ps).2 := fun z9 => c_31 (tkn_0.mpr z9)
          have hT9 := hT.trans (tlF_n hnl9 ((tkn_s (by omega)).mp c_41))
          have hte2 := te_b (T := T) hb9.2
          have hnx := nxt_b (T := T) hb9.2
          have hps9 := hnx.2
          have hnl := nxt_lt (T := T) (show (itR T n X9 ps).2 < n by omega)
          have hi9 : i + 1 ≤ nxt T n (itR T n X9 ps).2 + 1 := by omega
          have hfu9 : 200 ≤ f9 + nxt T n (itR T n X9 ps).2 := by omega
          refine lv_aload_n hx hb dX4_tell_46 rfl (lv_at hl2 1 rfl) ?_
          refine cV_v (wc := [eO cy ee (nI ((itR T n X9 ps).2)) (nI (te T n ((itR T n X9 ps).2))) (tkn T n ((itR T n X9 ps).2)) va1_19, pO cy ee (nI n), ia cy (ee 2) 120 T]) (wr := pS cy dd (itS T n X9 ps)) (rest := []) hx hb hml hown hw hG hK hP4 hD4 hS4 hA hl2 kc_X4_nextToken kw_2_167 [] (c_X4_nextToken l D cy G H4.size ee n T (nI ((itR T n X9 ps).2)) (tkn T n ((itR T n X9 ps).2)) va1_19 (te T n ((itR T n X9 ps).2)) (by first | omega | assumption) hte2.2 (by first | omega | assumption)) [0, 1, 2] [3, 4, 5, 6, 7, 8, 9, 10, 11, 12] rfl rfl rfl rfl rfl 0 rfl rfl rfl rfl rfl (Nat.le_of_ble_eq_true rfl) ⟨Nat.le_of_ble_eq_true rfl, Nat.le_of_ble_eq_true rfl⟩ dX4_tell_47 ⟨Nat.le_of_ble_eq_true rfl, Nat.le_of_ble_eq_true rfl⟩ (fun u9 H5 locs5 hu9 hP5 hD5 hS5 => ?_)
          clear hP4 hD4 hS4 locs4 H4
          obtain ⟨va1_47, rfl⟩ : ∃ z9, z9 = u9 := ⟨_, rfl⟩
          have hv_47 := hu9
          replace hv_47 : tkn T n (skp T n (te T n ((itR T n X9 ps).2))) = 2 → va1_47 = nI (numV T n (skp T n (te T n ((itR T n X9 ps).2)))) := hv_47
          replace hP5 : va_P D vwCl (pS cy dd (itS T n X9 ps) ++ ([eO cy ee (nI (skp T n (te T n ((itR T n X9 ps).2)))) (nI (te T n (skp T n (te T n ((itR T n X9 ps).2))))) (tkn T n (skp T n (te T n ((itR T n X9 ps).2)))) va1_47, pO cy ee (nI n), ia cy (ee 2) 120 T])) H5 := hP5
          replace hD5 : va_D (va_A _ sz) (pS cy dd (itS T n X9 ps) ++ ([eO cy ee (nI (skp T n (te T n ((itR T n X9 ps).2)))) (nI (te T n (skp T n (te T n ((itR T n X9 ps).2))))) (tkn T n (skp T n (te T n ((itR T n X9 ps).2)))) va1_47, pO cy ee (nI n), ia cy (ee 2) 120 T])) := hD5
          replace hP5 := hP5.sub (ws' := [eO cy ee (nI (skp T n (te T n ((itR T n X9 ps).2)))) (nI (te T n (skp T n (te T n ((itR T n X9 ps).2))))) (tkn T n (skp T n (te T n ((itR T n X9 ps).2)))) va1_47, pO cy ee (nI n), ia cy (ee 2) 120 T] ++ (pS cy dd (itS T n X9 ps))) [10, 11, 12, 0, 1, 2, 3, 4, 5, 6, 7, 8, 9] rfl
          replace hD5 := hD5.sub (ws' := [eO cy ee (nI (skp T n (te T n ((itR T n X9 ps).2)))) (nI (te T n (skp T n (te T n ((itR T n X9 ps).2))))) (tkn T n (skp T n (te T n ((itR T n X9 ps).2)))) va1_47, pO cy ee (nI n), ia cy (ee 2) 120 T] ++ (pS cy dd (itS T n X9 ps))) [10, 11, 12, 0, 1, 2, 3, 4, 5, 6, 7, 8, 9] (by decide) rfl
          have hp9 : skp T n (te T n ((itR T n X9 ps).2)) = (nxt T n (itR T n X9 ps).2) := rfl
          have hq9 : ([eO cy ee (nI (skp T n (te T n ((itR T n X9 ps).2)))) (nI (te T n (skp T n (te T n ((itR T n X9 ps).2))))) (tkn T n (skp T n (te T n ((itR T n X9 ps).2)))) va1_47, pO cy ee (nI n), ia cy (ee 2) 120 T] ++ (pS cy dd (itS T n X9 ps))) = ([eO cy ee (nI (nxt T n (itR T n X9 ps).2)) (nI (te T n (skp T n (te T n ((itR T n X9 ps).2))))) (tkn T n (skp T n (te T n ((itR T n X9 ps).2)))) va1_47, pO cy ee (nI n), ia cy (ee 2) 120 T] ++ (pS cy dd (itS T n X9 ps))) := congrArg (fun z9 => [eO cy ee z9 (nI (te T n (skp T n (te T n ((itR T n X9 ps).2))))) (tkn T n (skp T n (te T n ((itR T n X9 ps).2)))) va1_47, pO cy ee (nI n), ia cy (ee 2) 120 T] ++ (pS cy dd (itS T n X9 ps))) (show (nI (skp T n (te T n ((itR T n X9 ps).2)))) = (nI (nxt T n (itR T n X9 ps).2)) from congrArg (fun z9 => nI z9) hp9)
          replace hP5 := (congrArg (fun z9 => va_P D vwCl z9 _) hq9).mp hP5
          replace hD5 := (congrArg (fun z9 => va_D _ z9) hq9).mp hD5
          clear hq9
          have hq9 : ([eO cy ee (nI (nxt T n (itR T n X9 ps).2)) (nI (te T n (skp T n (te T n ((itR T n X9 ps).2))))) (tkn T n (skp T n (te T n ((itR T n X9 ps).2)))) va1_47, pO cy ee (nI n), ia cy (ee 2) 120 T] ++ (pS cy dd (itS T n X9 ps))) = ([eO cy ee (nI (nxt T n (itR T n X9 ps).2)) (nI (te T n (nxt T n (itR T n X9 ps).2))) (tkn T n (skp T n (te T n ((itR T n X9 ps).2)))) va1_47, pO cy ee (nI n), ia cy (ee 2) 120 T] ++ (pS cy dd (itS T n X9 ps))) := congrArg (fun z9 => [eO cy ee (nI (nxt T n (itR T n X9 ps).2)) z9 (tkn T n (skp T n (te T n ((itR T n X9 ps).2)))) va1_47, pO cy ee (nI n), ia cy (ee 2) 120 T] ++ (pS cy dd (itS T n X9 ps))) (show (nI (te T n (skp T n (te T n ((itR T n X9 ps).2))))) = (nI (te T n (nxt T n (itR T n X9 ps).2))) from congrArg (fun z9 => nI (te T n z9)) hp9)
          replace hP5 := (congrArg (fun z9 => va_P D vwCl z9 _) hq9).mp hP5
          replace hD5 := (congrArg (fun z9 => va_D _ z9) hq9).mp hD5
          clear hq9
          have hq9 : ([eO cy ee (nI (nxt T n (itR T n X9 ps).2)) (nI (te T n (nxt T n (itR T n X9 ps).2))) (tkn T n (skp T n (te T n ((itR T n X9 ps).2)))) va1_47, pO cy ee (nI n), ia cy (ee 2) 120 T] ++ (pS cy dd (itS T n X9 ps))) = ([eO cy ee (nI (nxt T n (itR T n X9 ps).2)) (nI (te T n (nxt T n (itR T n X9 ps).2))) (tkn T n (nxt T n (itR T n X9 ps).2)) va1_47, pO cy ee (nI n), ia cy (ee 2) 120 T] ++ (pS cy dd (itS T n X9 ps))) := congrArg (fun z9 => [eO cy ee (nI (nxt T n (itR T n X9 ps).2)) (nI (te T n (nxt T n (itR T n X9 ps).2))) z9 va1_47, pO cy ee (nI n), ia cy (ee 2) 120 T] ++ (pS cy dd (itS T n X9 ps))) (show (tkn T n (skp T n (te T n ((itR T n X9 ps).2)))) = (tkn T n (nxt T n (itR T n X9 ps).2)) from congrArg (fun z9 => tkn T n z9) hp9)
          replace hP5 := (congrArg (fun z9 => va_P D vwCl z9 _) hq9).mp hP5
          replace hD5 := (congrArg (fun z9 => va_D _ z9) hq9).mp hD5
          clear hq9
          clear hp9
          refine lv_iinc (v := nI (i + 1)) (lv' := [(2, .int (nI (i + 1))), (0, .ref (ee 0)), (1, .ref (dd 0))]) hx hb dX4_tell_50 hl2 (k := 0) rfl (nI_inc _) (by decide) rfl (fun ls3 hl3 => ?_)
          clear hl2 ls2
          refine lv_goto (tgt := 11) hx hb dX4_tell_53 (by decide) ?_
          exact ih_11 (i + 1, nxt T n (itR T n X9 ps).2, va1_47, itS T n X9 ps, f9) (⟨(by (try dsimp only); omega), hi9, hps9, hv_47, hw9, hfu9, hT9⟩) (by (try dsimp only); omega) H5 locs5 ls3 hP5 hD5 hS5 (lv_sub hl3 [0, 1, 2] rfl)
        · have hnl9 : ¬ n ≤ (itR T n X9 ps).2 := fun z9 => c_31 (tkn_0.mpr z9)
          rw [tlF_c hnl9 (fun z9 => c_41 ((tkn_s (by omega)).mpr z9))] at hT
          have hq9 : ([eO cy ee (nI ((itR T n X9 ps).2)) (nI (te T n ((itR T n X9 ps).2))) (tkn T n ((itR T n X9 ps).2)) va1_19, pO cy ee (nI n), ia cy (ee 2) 120 T] ++ (pS cy dd (itS T n X9 ps))) = ([eO cy ee (nI ((tlA T n X).2.1)) (nI (te T n ((itR T n X9 ps).2))) (tkn T n ((itR T n X9 ps).2)) va1_19, pO cy ee (nI n), ia cy (ee 2) 120 T] ++ (pS cy dd (itS T n X9 ps))) := congrArg (fun z9 => [eO cy ee z9 (nI (te T n ((itR T n X9 ps).2))) (tkn T n ((itR T n X9 ps).2)) va1_19, pO cy ee (nI n), ia cy (ee 2) 120 T] ++ (pS cy dd (itS T n X9 ps))) (show (nI ((itR T n X9 ps).2)) = (nI ((tlA T n X).2.1)) from by rw [hT])
          replace hP4 := (congrArg (fun z9 => va_P D vwCl z9 _) hq9).mp hP4
          replace hD4 := (congrArg (fun z9 => va_D _ z9) hq9).mp hD4
          clear hq9
          refine lv_iconst (v := (-1)) hx hb dX4_tell_44 (by decide) ?_
          refine re_i (nI (te T n ((itR T n X9 ps).2)), tkn T n ((itR T n X9 ps).2), va1_19, itS T n X9 ps) hx hb hr hlocks hP4 hD4 hS4 dX4_tell_45 ?_
          exact (⟨by rw [hT]; rfl, wf_can hw9, fun z9 => by rw [hT] at z9; exact absurd (show true = false from z9) (by decide)⟩)
      · have hte9 : n ≤ (itR T n X9 ps).2 := tkn_0.mp c_31
        rw [tlF_e hte9] at hT
        have hq9 : ([eO cy ee (nI ((itR T n X9 ps).2)) (nI (te T n ((itR T n X9 ps).2))) (tkn T n ((itR T n X9 ps).2)) va1_19, pO cy ee (nI n), ia cy (ee 2) 120 T] ++ (pS cy dd (itS T n X9 ps))) = ([eO cy ee (nI ((tlA T n X).2.1)) (nI (te T n ((itR T n X9 ps).2))) (tkn T n ((itR T n X9 ps).2)) va1_19, pO cy ee (nI n), ia cy (ee 2) 120 T] ++ (pS cy dd (itS T n X9 ps))) := congrArg (fun z9 => [eO cy ee z9 (nI (te T n ((itR T n X9 ps).2))) (tkn T n ((itR T n X9 ps).2)) va1_19, pO cy ee (nI n), ia cy (ee 2) 120 T] ++ (pS cy dd (itS T n X9 ps))) (show (nI ((itR T n X9 ps).2)) = (nI ((tlA T n X).2.1)) from by rw [hT])
        replace hP4 := (congrArg (fun z9 => va_P D vwCl z9 _) hq9).mp hP4
        replace hD4 := (congrArg (fun z9 => va_D _ z9) hq9).mp hD4
        clear hq9
        refine lv_iload_n hx hb dX4_tell_34 rfl (lv_at hl2 0 rfl) ?_
        refine re_i (nI (te T n ((itR T n X9 ps).2)), tkn T n ((itR T n X9 ps).2), va1_19, itS T n X9 ps) hx hb hr hlocks hP4 hD4 hS4 dX4_tell_35 ?_
        exact (⟨by rw [hT]; rfl, wf_can hw9, fun z9 => by rw [hT]⟩)
    · have hq9 : (itR T n X9 ps).1 = true := by have h9 := c_22; simpa using h9
      obtain ⟨f9, rfl⟩ : ∃ f9, fu = f9 + 1 := ⟨fu - 1, by omega⟩
      rw [itT_x hq9, hq9, tlF_q] at hT
      have hq9 : ([eO cy ee (nI ((itR T n X9 ps).2)) (nI (te T n ((itR T n X9 ps).2))) (tkn T n ((itR T n X9 ps).2)) va1_19, pO cy ee (nI n), ia cy (ee 2) 120 T] ++ (pS cy dd X1_19)) = ([eO cy ee (nI ((tlA T n X).2.1)) (nI (te T n ((itR T n X9 ps).2))) (tkn T n ((itR T n X9 ps).2)) va1_19, pO cy ee (nI n), ia cy (ee 2) 120 T] ++ (pS cy dd X1_19)) := congrArg (fun z9 => [eO cy ee z9 (nI (te T n ((itR T n X9 ps).2))) (tkn T n ((itR T n X9 ps).2)) va1_19, pO cy ee (nI n), ia cy (ee 2) 120 T] ++ (pS cy dd X1_19)) (show (nI ((itR T n X9 ps).2)) = (nI ((tlA T n X).2.1)) from by rw [hT])
      replace hP4 := (congrArg (fun z9 => va_P D vwCl z9 _) hq9).mp hP4
      replace hD4 := (congrArg (fun z9 => va_D _ z9) hq9).mp hD4
      clear hq9
      refine lv_iconst (v := (-1)) hx hb dX4_tell_25 (by decide) ?_
      refine re_i (nI (te T n ((itR T n X9 ps).2)), tkn T n ((itR T n X9 ps).2), va1_19, X1_19) hx hb hr hlocks hP4 hD4 hS4 dX4_tell_26 ?_
      exact (⟨by rw [hT]; rfl, hX1_19, fun z9 => by rw [hT] at z9; exact absurd (show true = false from z9) (by decide)⟩)

theorem kc_X6_house : kV yX6_house cX6_house 2 (some .int) 0 := ⟨kw_2_153, kw_2_154, kw_1_1, kw_2_155, by decide, by decide, by decide +kernel⟩
set_option maxHeartbeats 4000000 in
set_option maxRecDepth 100000 in
theorem c_X6_house (l : Launch) (D : va_G) (cy : Nat → ClassId) (G : Nat → Nat) (sz : Nat) (hh : Nat → Nat) (a : Nat → Nat) (kk : Nat → Nat) (dd : Nat → Nat) (b : Nat → Nat) (w : Nat → Nat) (ee : Nat → Nat) (qq : Nat → Nat) (ik : Int32) (sa : Int32) (en : Int32) (tk : Int32) (va : Int32) (n : Nat) (T : Nat → Int32) (S : Nat → Int32) (Y : Nat → Int32) (hY : can Y) (wf : wf S) (hn : n ≤ 120) (htp : tpOk T n) : Met l yX6_house (wm yX6_house cX6_house 2 (some .int)) { frames := 10, cells := 0, slots := 0, locals := 224 } (va_Pc [.ref (hh 0)] (pr D (TY cy) G ([sO cy hh a kk dd b w ee qq ik] ++ (pS cy a S ++ (pS cy dd Y ++ ([eO cy ee sa en tk va, pO cy ee (nI n), ia cy (ee 2) 120 T])))) sz)) (va_Qi (fun (r : Int32) (u : Int32 × Int32 × Int32 × Int32 × (Nat → Int32)) => (r = hsV T n S) ∧ (can u.2.2.2.2)) (fun (u : Int32 × Int32 × Int32 × Int32 × (Nat → Int32)) t => po D (va_A ([sO cy hh a kk dd b w ee qq ik] ++ (pS cy a S ++ (pS cy dd Y ++ ([eO cy ee sa en tk va, pO cy ee (nI n), ia cy (ee 2) 120 T])))) sz) ([sO cy hh a kk dd b w ee qq ik] ++ (pS cy a (hsS T n S) ++ (pS cy dd u.2.2.2.2 ++ ([eO cy ee u.1 u.2.1 u.2.2.1 u.2.2.2.1, pO cy ee (nI 0), ia cy (ee 2) 120 T])))) t) (va_A ([sO cy hh a kk dd b w ee qq ik] ++ (pS cy a S ++ (pS cy dd Y ++ ([eO cy ee sa en tk va, pO cy ee (nI n), ia cy (ee 2) 120 T])))) sz)) 0 0 (va_A ([sO cy hh a kk dd b w ee qq ik] ++ (pS cy a S ++ (pS cy dd Y ++ ([eO cy ee sa en tk va, pO cy ee (nI n), ia cy (ee 2) 120 T])))) sz) := by
  refine mk_rw (by decide) RX6 rfl (Nat.le_of_ble_eq_true rfl) [(0, .ref (hh 0))] rfl ?_
  intro p e s m below meth c hx hb hml hown hr hlocks hin hw hsz hA hG hK H0 locs0 hP0 hD0 hS0 ls0 hl0
  clear hin
  have hit := tlA_i T n S
  refine lv_aload_n hx hb dX6_house_0 rfl (lv_at hl0 0 rfl) ?_
  refine va_get (D := D) (ci := 6) (v := .ref (dd 0)) (C := RX6) (T := TX6) (N := 9) hx hb hw iX6 hown hK hP0 0 rfl rfl 3 (by decide) (hw _ kw_2_30) (fun _ h9 => h9) rfl dX6_house_1 ?_
  refine lv_aload_n hx hb dX6_house_4 rfl (lv_at hl0 0 rfl) ?_
  refine va_get (D := D) (ci := 6) (v := .ref (a 0)) (C := RX6) (T := TX6) (N := 9) hx hb hw iX6 hown hK hP0 0 rfl rfl 0 (by decide) (hw _ kw_2_27) (fun _ h9 => h9) rfl dX6_house_5 ?_
  refine cV_v (wc := pS cy dd Y ++ (pS cy a S)) (wr := [sO cy hh a kk dd b w ee qq ik, eO cy ee sa en tk va, pO cy ee (nI n), ia cy (ee 2) 120 T]) (rest := []) hx hb hml hown hw hG hK hP0 hD0 hS0 hA hl0 kc_X1_takeFrom kw_2_156 [.ref (a 0)] (c_X1_takeFrom l D cy G H0.size dd Y a S hY (wf_can wf)) [11, 12, 13, 14, 15, 16, 17, 18, 19, 20, 1, 2, 3, 4, 5, 6, 7, 8, 9, 10] [0, 21, 22, 23] rfl rfl rfl rfl rfl 0 rfl rfl rfl rfl rfl (Nat.le_of_ble_eq_true rfl) ⟨Nat.le_of_ble_eq_true rfl, Nat.le_of_ble_eq_true rfl⟩ dX6_house_8 ⟨Nat.le_of_ble_eq_true rfl, Nat.le_of_ble_eq_true rfl⟩ (fun u9 H1 locs1 hu9 hP1 hD1 hS1 => ?_)
  clear hP0 hD0 hS0 locs0 H0
  replace hP1 : va_P D vwCl ([sO cy hh a kk dd b w ee qq ik, eO cy ee sa en tk va, pO cy ee (nI n), ia cy (ee 2) 120 T] ++ (pS cy dd S ++ (pS cy a S))) H1 := hP1
  replace hD1 : va_D (va_A _ sz) ([sO cy hh a kk dd b w ee qq ik, eO cy ee sa en tk va, pO cy ee (nI n), ia cy (ee 2) 120 T] ++ (pS cy dd S ++ (pS cy a S))) := hD1
  replace hP1 := hP1.sub (ws' := [sO cy hh a kk dd b w ee qq ik] ++ (pS cy a S ++ (pS cy dd S ++ ([eO cy ee sa en tk va, pO cy ee (nI n), ia cy (ee 2) 120 T])))) [0, 14, 15, 16, 17, 18, 19, 20, 21, 22, 23, 4, 5, 6, 7, 8, 9, 10, 11, 12, 13, 1, 2, 3] rfl
  replace hD1 := hD1.sub (ws' := [sO cy hh a kk dd b w ee qq ik] ++ (pS cy a S ++ (pS cy dd S ++ ([eO cy ee sa en tk va, pO cy ee (nI n), ia cy (ee 2) 120 T])))) [0, 14, 15, 16, 17, 18, 19, 20, 21, 22, 23, 4, 5, 6, 7, 8, 9, 10, 11, 12, 13, 1, 2, 3] (by decide) rfl
  refine lv_aload_n hx hb dX6_house_11 rfl (lv_at hl0 0 rfl) ?_
  refine va_get (D := D) (ci := 6) (v := .ref (ee 0)) (C := RX6) (T := TX6) (N := 9) hx hb hw iX6 hown hK hP1 0 rfl rfl 6 (by decide) (hw _ kw_2_33) (fun _ h9 => h9) rfl dX6_house_12 ?_
  refine lv_aload_n hx hb dX6_house_15 rfl (lv_at hl0 0 rfl) ?_
  refine va_get (D := D) (ci := 6) (v := .ref (dd 0)) (C := RX6) (T := TX6) (N := 9) hx hb hw iX6 hown hK hP1 0 rfl rfl 3 (by decide) (hw _ kw_2_30) (fun _ h9 => h9) rfl dX6_house_16 ?_
  refine cV_i (wc := [eO cy ee sa en tk va, pO cy ee (nI n), ia cy (ee 2) 120 T] ++ (pS cy dd S)) (wr := [sO cy hh a kk dd b w ee qq ik] ++ (pS cy a S)) (rest := []) hx hb hml hown hw hG hK hP1 hD1 hS1 hA hl0 kc_X4_tell kw_2_163 [.ref (dd 0)] (c_X4_tell l D cy G H1.size ee n T sa tk va en dd S (by first | omega | assumption) (by first | omega | assumption) (by first | omega | assumption)) [21, 22, 23, 11, 12, 13, 14, 15, 16, 17, 18, 19, 20] [0, 1, 2, 3, 4, 5, 6, 7, 8, 9, 10] rfl rfl rfl rfl rfl 0 rfl rfl rfl rfl rfl (Nat.le_of_ble_eq_true rfl) ⟨Nat.le_of_ble_eq_true rfl, Nat.le_of_ble_eq_true rfl⟩ dX6_house_19 ⟨Nat.le_of_ble_eq_true rfl, Nat.le_of_ble_eq_true rfl⟩ (fun r_19 u9 H2 locs2 hu9 hP2 hD2 hS2 => ?_)
  clear hP1 hD1 hS1 locs1 H1
  obtain ⟨en1_19, tk1_19, va1_19, X1_19⟩ := u9
  obtain ⟨hr_19, hX1_19, hXo_19⟩ := hu9
  replace hX1_19 : can X1_19 := hX1_19
  replace hXo_19 : (tlA T n S).1 = false → X1_19 = (tlA T n S).2.2.2 := hXo_19
  replace hP2 : va_P D vwCl ([sO cy hh a kk dd b w ee qq ik] ++ (pS cy a S ++ ([eO cy ee (nI ((tlA T n S).2.1)) en1_19 tk1_19 va1_19, pO cy ee (nI n), ia cy (ee 2) 120 T] ++ (pS cy dd X1_19)))) H2 := hP2
  replace hD2 : va_D (va_A _ sz) ([sO cy hh a kk dd b w ee qq ik] ++ (pS cy a S ++ ([eO cy ee (nI ((tlA T n S).2.1)) en1_19 tk1_19 va1_19, pO cy ee (nI n), ia cy (ee 2) 120 T] ++ (pS cy dd X1_19)))) := hD2
  replace hP2 := hP2.sub (ws' := [sO cy hh a kk dd b w ee qq ik] ++ (pS cy a S ++ (pS cy dd X1_19 ++ ([eO cy ee (nI ((tlA T n S).2.1)) en1_19 tk1_19 va1_19, pO cy ee (nI n), ia cy (ee 2) 120 T])))) [0, 1, 2, 3, 4, 5, 6, 7, 8, 9, 10, 14, 15, 16, 17, 18, 19, 20, 21, 22, 23, 11, 12, 13] rfl
  replace hD2 := hD2.sub (ws' := [sO cy hh a kk dd b w ee qq ik] ++ (pS cy a S ++ (pS cy dd X1_19 ++ ([eO cy ee (nI ((tlA T n S).2.1)) en1_19 tk1_19 va1_19, pO cy ee (nI n), ia cy (ee 2) 120 T])))) [0, 1, 2, 3, 4, 5, 6, 7, 8, 9, 10, 14, 15, 16, 17, 18, 19, 20, 21, 22, 23, 11, 12, 13] (by decide) rfl
  subst hr_19
  by_cases hq : (tlA T n S).1 = true
  · refine tp (show (if (tlA T n S).1 = true then -1 else nI ((tlA T n S).2.2.1)) = -1 from if_pos hq) ?_
    refine lv_istore_n (lv' := [(1, .int (-1)), (0, .ref (hh 0))]) hx hb dX6_house_22 rfl hl0 (by decide) rfl (fun ls1 hl1 => ?_)
    clear hl0 ls0
    refine lv_aload_n hx hb dX6_house_23 rfl (lv_at hl1 1 rfl) ?_
    refine va_get (D := D) (ci := 6) (v := .ref (ee 0)) (C := RX6) (T := TX6) (N := 9) hx hb hw iX6 hown hK hP2 0 rfl rfl 6 (by decide) (hw _ kw_2_33) (fun _ h9 => h9) rfl dX6_house_24 ?_
    refine va_get (D := D) (ci := 4) (v := .ref (ee 1)) (C := RX4) (T := TX4) (N := 5) hx hb hw iX4 hown hK hP2 21 rfl rfl 0 (by decide) (hw _ kw_1_229) (fun _ h9 => h9) rfl dX6_house_27 ?_
    refine lv_iconst (v := 0) hx hb dX6_house_30 (by decide) ?_
    refine pt (D := D) (ci := 3) (v := .int 0) (ty := .int) (C := RX3) (T := TX3) (N := 2) (ws' := [sO cy hh a kk dd b w ee qq ik] ++ (pS cy a S ++ (pS cy dd X1_19 ++ ([eO cy ee (nI ((tlA T n S).2.1)) en1_19 tk1_19 va1_19, pO cy ee 0, ia cy (ee 2) 120 T])))) hx hb hw iX3 tyX3 tyX3_ok nmX3 hown hK hP2 hD2 hS2 22 rfl rfl 1 (by decide) kw_1_221 (fun _ h9 => h9) rfl (by decide +kernel) rfl rfl (Nat.le_of_ble_eq_true rfl) rfl dX6_house_31 (fun H3 locs3 hP3 hD3 hS3 => ?_)
    clear hP2 hD2 hS2 locs2 H2
    refine lv_iload_n hx hb dX6_house_34 rfl (lv_at hl1 0 rfl) ?_
    refine lv_if_ge (tgt := 48) hx hb dX6_house_35 (by decide) (fun c => absurd c (by decide)) (fun _ => ?_)
    refine lv_iconst (v := (-1)) hx hb dX6_house_38 (by decide) ?_
    refine lv_aload_n hx hb dX6_house_39 rfl (lv_at hl1 1 rfl) ?_
    refine va_get (D := D) (ci := 6) (v := .ref (ee 0)) (C := RX6) (T := TX6) (N := 9) hx hb hw iX6 hown hK hP3 0 rfl rfl 6 (by decide) (hw _ kw_2_33) (fun _ h9 => h9) rfl dX6_house_40 ?_
    refine va_get (D := D) (ci := 4) (v := .int (nI ((tlA T n S).2.1))) (C := RX4) (T := TX4) (N := 5) hx hb hw iX4 hown hK hP3 21 rfl rfl 1 (by decide) (hw _ kw_1_231) (fun _ h9 => h9) rfl dX6_house_43 ?_
    refine lv_isub hx hb dX6_house_46 ?_
    have hq9 : ([sO cy hh a kk dd b w ee qq ik] ++ (pS cy a S ++ (pS cy dd X1_19 ++ ([eO cy ee (nI ((tlA T n S).2.1)) en1_19 tk1_19 va1_19, pO cy ee 0, ia cy (ee 2) 120 T])))) = ([sO cy hh a kk dd b w ee qq ik] ++ (pS cy a (hsS T n S) ++ (pS cy dd X1_19 ++ ([eO cy ee (nI ((tlA T n S).2.1)) en1_19 tk1_19 va1_19, pO cy ee 0, ia cy (ee 2) 120 T])))) := congrArg (fun z9 => [sO cy hh a kk dd b w ee qq ik] ++ (pS cy a z9 ++ (pS cy dd X1_19 ++ ([eO cy ee (nI ((tlA T n S).2.1)) en1_19 tk1_19 va1_19, pO cy ee 0, ia cy (ee 2) 120 T])))) (show S = (hsS T n S) from (if_pos hq).symm)
    replace hP3 := (congrArg (fun z9 => va_P D vwCl z9 _) hq9).mp hP3
    replace hD3 := (congrArg (fun z9 => va_D _ z9) hq9).mp hD3
    clear hq9
    have hq9 : ([sO cy hh a kk dd b w ee qq ik] ++ (pS cy a (hsS T n S) ++ (pS cy dd X1_19 ++ ([eO cy ee (nI ((tlA T n S).2.1)) en1_19 tk1_19 va1_19, pO cy ee 0, ia cy (ee 2) 120 T])))) = [sO cy hh a kk dd b w ee qq ik] ++ (pS cy a (hsS T n S) ++ (pS cy dd X1_19 ++ ([eO cy ee (nI ((tlA T n S).2.1)) en1_19 tk1_19 va1_19, pO cy ee (nI 0), ia cy (ee 2) 120 T]))) := rfl
    replace hP3 := (congrArg (fun z9 => va_P D vwCl z9 _) hq9).mp hP3
    replace hD3 := (congrArg (fun z9 => va_D _ z9) hq9).mp hD3
    refine re_i (nI ((tlA T n S).2.1), en1_19, tk1_19, va1_19, X1_19) hx hb hr hlocks hP3 hD3 hS3 dX6_house_47 ?_
    exact (⟨(if_pos hq).symm, hX1_19⟩)
  · refine tp (show (if (tlA T n S).1 = true then -1 else nI ((tlA T n S).2.2.1)) = nI ((tlA T n S).2.2.1) from if_neg hq) ?_
    refine lv_istore_n (lv' := [(1, .int (nI ((tlA T n S).2.2.1))), (0, .ref (hh 0))]) hx hb dX6_house_22 rfl hl0 (by decide) rfl (fun ls1 hl1 => ?_)
    clear hl0 ls0
    refine lv_aload_n hx hb dX6_house_23 rfl (lv_at hl1 1 rfl) ?_
    refine va_get (D := D) (ci := 6) (v := .ref (ee 0)) (C := RX6) (T := TX6) (N := 9) hx hb hw iX6 hown hK hP2 0 rfl rfl 6 (by decide) (hw _ kw_2_33) (fun _ h9 => h9) rfl dX6_house_24 ?_
    refine va_get (D := D) (ci := 4) (v := .ref (ee 1)) (C := RX4) (T := TX4) (N := 5) hx hb hw iX4 hown hK hP2 21 rfl rfl 0 (by decide) (hw _ kw_1_229) (fun _ h9 => h9) rfl dX6_house_27 ?_
    refine lv_iconst (v := 0) hx hb dX6_house_30 (by decide) ?_
    refine pt (D := D) (ci := 3) (v := .int 0) (ty := .int) (C := RX3) (T := TX3) (N := 2) (ws' := [sO cy hh a kk dd b w ee qq ik] ++ (pS cy a S ++ (pS cy dd X1_19 ++ ([eO cy ee (nI ((tlA T n S).2.1)) en1_19 tk1_19 va1_19, pO cy ee 0, ia cy (ee 2) 120 T])))) hx hb hw iX3 tyX3 tyX3_ok nmX3 hown hK hP2 hD2 hS2 22 rfl rfl 1 (by decide) kw_1_221 (fun _ h9 => h9) rfl (by decide +kernel) rfl rfl (Nat.le_of_ble_eq_true rfl) rfl dX6_house_31 (fun H3 locs3 hP3 hD3 hS3 => ?_)
    clear hP2 hD2 hS2 locs2 H2
    refine lv_iload_n hx hb dX6_house_34 rfl (lv_at hl1 0 rfl) ?_
    refine lv_if_ge (tgt := 48) hx hb dX6_house_35 (by decide) (fun _ => ?_) (fun c => absurd (nI_pos' (by omega)) c)
    refine lv_aload_n hx hb dX6_house_48 rfl (lv_at hl1 1 rfl) ?_
    refine va_get (D := D) (ci := 6) (v := .ref (a 0)) (C := RX6) (T := TX6) (N := 9) hx hb hw iX6 hown hK hP3 0 rfl rfl 0 (by decide) (hw _ kw_2_27) (fun _ h9 => h9) rfl dX6_house_49 ?_
    refine lv_aload_n hx hb dX6_house_52 rfl (lv_at hl1 1 rfl) ?_
    refine va_get (D := D) (ci := 6) (v := .ref (dd 0)) (C := RX6) (T := TX6) (N := 9) hx hb hw iX6 hown hK hP3 0 rfl rfl 3 (by decide) (hw _ kw_2_30) (fun _ h9 => h9) rfl dX6_house_53 ?_
    refine cV_v (wc := pS cy a S ++ (pS cy dd X1_19)) (wr := [sO cy hh a kk dd b w ee qq ik, eO cy ee (nI ((tlA T n S).2.1)) en1_19 tk1_19 va1_19, pO cy ee 0, ia cy (ee 2) 120 T]) (rest := []) hx hb hml hown hw hG hK hP3 hD3 hS3 hA hl1 kc_X1_takeFrom kw_2_156 [.ref (dd 0)] (c_X1_takeFrom l D cy G H3.size a S dd X1_19 (wf_can wf) hX1_19) [1, 2, 3, 4, 5, 6, 7, 8, 9, 10, 11, 12, 13, 14, 15, 16, 17, 18, 19, 20] [0, 21, 22, 23] rfl rfl rfl rfl rfl 0 rfl rfl rfl rfl rfl (Nat.le_of_ble_eq_true rfl) ⟨Nat.le_of_ble_eq_true rfl, Nat.le_of_ble_eq_true rfl⟩ dX6_house_56 ⟨Nat.le_of_ble_eq_true rfl, Nat.le_of_ble_eq_true rfl⟩ (fun u9 H4 locs4 hu9 hP4 hD4 hS4 => ?_)
    clear hP3 hD3 hS3 locs3 H3
    replace hP4 : va_P D vwCl ([sO cy hh a kk dd b w ee qq ik, eO cy ee (nI ((tlA T n S).2.1)) en1_19 tk1_19 va1_19, pO cy ee 0, ia cy (ee 2) 120 T] ++ (pS cy a X1_19 ++ (pS cy dd X1_19))) H4 := hP4
    replace hD4 : va_D (va_A _ sz) ([sO cy hh a kk dd b w ee qq ik, eO cy ee (nI ((tlA T n S).2.1)) en1_19 tk1_19 va1_19, pO cy ee 0, ia cy (ee 2) 120 T] ++ (pS cy a X1_19 ++ (pS cy dd X1_19))) := hD4
    replace hP4 := hP4.sub (ws' := [sO cy hh a kk dd b w ee qq ik] ++ (pS cy a X1_19 ++ (pS cy dd X1_19 ++ ([eO cy ee (nI ((tlA T n S).2.1)) en1_19 tk1_19 va1_19, pO cy ee 0, ia cy (ee 2) 120 T])))) [0, 4, 5, 6, 7, 8, 9, 10, 11, 12, 13, 14, 15, 16, 17, 18, 19, 20, 21, 22, 23, 1, 2, 3] rfl
    replace hD4 := hD4.sub (ws' := [sO cy hh a kk dd b w ee qq ik] ++ (pS cy a X1_19 ++ (pS cy dd X1_19 ++ ([eO cy ee (nI ((tlA T n S).2.1)) en1_19 tk1_19 va1_19, pO cy ee 0, ia cy (ee 2) 120 T])))) [0, 4, 5, 6, 7, 8, 9, 10, 11, 12, 13, 14, 15, 16, 17, 18, 19, 20, 21, 22, 23, 1, 2, 3] (by decide) rfl
    refine lv_iload_n hx hb dX6_house_59 rfl (lv_at hl1 0 rfl) ?_
    have hq9 : ([sO cy hh a kk dd b w ee qq ik] ++ (pS cy a X1_19 ++ (pS cy dd X1_19 ++ ([eO cy ee (nI ((tlA T n S).2.1)) en1_19 tk1_19 va1_19, pO cy ee 0, ia cy (ee 2) 120 T])))) = ([sO cy hh a kk dd b w ee qq ik] ++ (pS cy a (hsS T n S) ++ (pS cy dd X1_19 ++ ([eO cy ee (nI ((tlA T n S).2.1)) en1_19 tk1_19 va1_19, pO cy ee 0, ia cy (ee 2) 120 T])))) := congrArg (fun z9 => [sO cy hh a kk dd b w ee qq ik] ++ (pS cy a z9 ++ (pS cy dd X1_19 ++ ([eO cy ee (nI ((tlA T n S).2.1)) en1_19 tk1_19 va1_19, pO cy ee 0, ia cy (ee 2) 120 T])))) (show X1_19 = (hsS T n S) from (hXo_19 (by simpa using hq)).trans (if_neg hq).symm)
    replace hP4 := (congrArg (fun z9 => va_P D vwCl z9 _) hq9).mp hP4
    replace hD4 := (congrArg (fun z9 => va_D _ z9) hq9).mp hD4
    clear hq9
    have hq9 : ([sO cy hh a kk dd b w ee qq ik] ++ (pS cy a (hsS T n S) ++ (pS cy dd X1_19 ++ ([eO cy ee (nI ((tlA T n S).2.1)) en1_19 tk1_19 va1_19, pO cy ee 0, ia cy (ee 2) 120 T])))) = [sO cy hh a kk dd b w ee qq ik] ++ (pS cy a (hsS T n S) ++ (pS cy dd X1_19 ++ ([eO cy ee (nI ((tlA T n S).2.1)) en1_19 tk1_19 va1_19, pO cy ee (nI 0), ia cy (ee 2) 120 T]))) := rfl
    replace hP4 := (congrArg (fun z9 => va_P D vwCl z9 _) hq9).mp hP4
    replace hD4 := (congrArg (fun z9 => va_D _ z9) hq9).mp hD4
    refine re_i (nI ((tlA T n S).2.1), en1_19, tk1_19, va1_19, X1_19) hx hb hr hlocks hP4 hD4 hS4 dX6_house_60 ?_
    exact (⟨(if_neg hq).symm, hX1_19⟩)
