theorem S0_wf : wf S0 := by
  refine ⟨can_S0, rfl, by decide, rfl, by decide, fun g hg => absurd hg (Nat.not_lt_zero g), by decide⟩
set_option maxHeartbeats 4000000 in
set_option maxRecDepth 100000 in
theorem whole_start {p : Program} {e : Env} {s : State} {m : MethodId} {below : List Frame} {meth : Method} {c : Code} (l : Launch) (hflags : l.flags = flags0) {b L : Nat} {xs : Nat → Int32} (hL : L ≤ 384) (C0 : lw_At p s m meth c b L xs) : W p l e room_1 s m #[Value.ref b] below meth c s.heap [] 0 0 (lw_Z below #[Value.ref b] s) (entryFrame m ([Value.ref b] : List Value).toArray 4) := by
  obtain ⟨hx, hb, hr, hml, hown, hts, hX, hbl, hlocks, hgv⟩ := id C0
  have hs9 : ∀ w ∈ nFl, w.before #[Value.ref b] s = true := flat_of_before _ hgv
  obtain ⟨D, cy, hK⟩ := start_K hts
  obtain ⟨sz, hsz⟩ : ∃ sz, s.heap.size = sz := ⟨_, rfl⟩
  obtain ⟨G, hG⟩ := start_cx hsz hts hs9
  have hw : ∀ w ∈ wg, w.before #[Value.ref b] s = true := fun w h => hts w (wg_tbl h)
  have hA : ∀ q : Nat, s.heap.size ≤ q → va_A [] sz q := fun q h => Or.inr (hsz ▸ h)
  have C9 : lwC p s m c D cy G sz b L xs := ⟨hx, hb, hml, hown, hw, hsz, hG, hK, hX, hbl⟩
  have hS0 : va_S (va_A [] sz) s.heap s.heap [] := va_S.rf
  have hP0 : va_P D vwCl [] s.heap := fun k q h => by simp at h
  have hD0 : va_D (va_A [] sz) [] := ⟨fun i j p q h => by simp at h, fun k q h => by simp at h⟩
  have hl0 := lv_entry ([.ref b]) (n := 4) (Nat.le_of_ble_eq_true rfl)
  rw [lg_entry_eq]
  generalize (lg_sl ([.ref b]) ++ List.replicate (4 - (lg_sl ([.ref b])).length) Slot.unset).toArray = ls0 at hl0 ⊢
  replace hl0 : lv_has ls0 4 [(0, .ref b)] := hl0
  obtain ⟨H0, eH0⟩ : ∃ H0, H0 = s.heap := ⟨_, rfl⟩
  obtain ⟨locs0, eL0⟩ : ∃ locs0 : List Loc, locs0 = [] := ⟨_, rfl⟩
  rw [← eL0, ← eH0]
  rw [← eH0] at hP0
  have hS0 : va_S (va_A [] sz) s.heap H0 locs0 := by rw [eH0, eL0]; exact hS0
  clear eH0 eL0
  refine nwo (ci := 6) (fs := [.null, .null, .int 0, .null, .null, .null, .null, .null, .null]) (C := RX6) (T := TX6) (N := 9) hx hb hw iX6 tyX6 tyX6_ok hown kw_1_16 kw_1_17 kw_1_1 hK hP0 hD0 hS0 hA rfl (fun j hj => by rcases (show j = 0 ∨ j = 1 ∨ j = 2 ∨ j = 3 ∨ j = 4 ∨ j = 5 ∨ j = 6 ∨ j = 7 ∨ j = 8 by omega) with rfl | rfl | rfl | rfl | rfl | rfl | rfl | rfl | rfl <;> rfl) (Nat.le_of_ble_eq_true rfl) (Nat.le_of_ble_eq_true rfl) dL_law_0 (fun q0 H1 locs1 hP1 hD1 hS1 => ?_)
  clear hP0 hD0 hS0 locs0 H0
  replace hP1 : va_P D vwCl ([(q0, .inr (6, [.null, .null, .int 0, .null, .null, .null, .null, .null, .null]))]) H1 := hP1
  replace hD1 : va_D (va_A _ sz) ([(q0, .inr (6, [.null, .null, .int 0, .null, .null, .null, .null, .null, .null]))]) := hD1
  refine lv_dup hx hb dL_law_3 rfl ?_
  refine cI_v (wc := [(q0, .inr (6, [.null, .null, .int 0, .null, .null, .null, .null, .null, .null]))]) (wr := []) (rest := [.ref q0]) hx hb hml hown hw hG hK hP1 hD1 hS1 hA hl0 kc_X6_init kw_1_18 [] (c_X6_init l D cy G H1.size q0) [0] [] rfl rfl rfl rfl rfl rfl rfl (Nat.le_of_ble_eq_true rfl) ⟨Nat.le_of_ble_eq_true rfl, Nat.le_of_ble_eq_true rfl⟩ dL_law_4 ⟨Nat.le_of_ble_eq_true rfl, Nat.le_of_ble_eq_true rfl⟩ (fun u9 H2 locs2 hu9 hP2 hD2 hS2 => ?_)
  clear hP1 hD1 hS1 locs1 H1
  obtain ⟨hh_4, a_4, kk_4, dd_4, b_4, w_4, b2_4, x_4, ee_4, qq_4⟩ := u9
  have hh9_4 := hu9
  replace hh9_4 : hh_4 0 = q0 := hh9_4
  replace hP2 : va_P D vwCl ([sO cy hh_4 a_4 kk_4 dd_4 b_4 w_4 ee_4 qq_4 0] ++ (pS cy a_4 S0 ++ (pS cy kk_4 S0 ++ (pS cy dd_4 S0 ++ (aS cy b_4 (fun _ => 0) (fun _ => 0) (fun _ => 0) (fun _ => 0) (fun _ => 0) (fun _ => 0) (fun _ => 0) (fun _ _ => 0) 0 0 0 0 0 ++ ([tO cy w_4 b2_4 x_4 0 0 0 (-1) 0 0 (nI 0)] ++ (aS cy b2_4 (fun _ => 0) (fun _ => 0) (fun _ => 0) (fun _ => 0) (fun _ => 0) (fun _ => 0) (fun _ => 0) (fun _ _ => 0) 0 0 0 0 0 ++ ([ia cy (w_4 1) 20 (fun _ => 0), ia cy (w_4 2) 21 (fun _ => 0)] ++ (pS cy x_4 S0 ++ ([eO cy ee_4 0 0 0 0, pO cy ee_4 (nI 0), ia cy (ee_4 2) 120 (fun _ => 0), ia cy (hh_4 1) 7 (fun _ => 0)] ++ (shB cy qq_4 (fun _ => 0) (fun _ => 0) (fun _ _ => 0)))))))))))) H2 := hP2
  replace hD2 : va_D (va_A _ sz) ([sO cy hh_4 a_4 kk_4 dd_4 b_4 w_4 ee_4 qq_4 0] ++ (pS cy a_4 S0 ++ (pS cy kk_4 S0 ++ (pS cy dd_4 S0 ++ (aS cy b_4 (fun _ => 0) (fun _ => 0) (fun _ => 0) (fun _ => 0) (fun _ => 0) (fun _ => 0) (fun _ => 0) (fun _ _ => 0) 0 0 0 0 0 ++ ([tO cy w_4 b2_4 x_4 0 0 0 (-1) 0 0 (nI 0)] ++ (aS cy b2_4 (fun _ => 0) (fun _ => 0) (fun _ => 0) (fun _ => 0) (fun _ => 0) (fun _ => 0) (fun _ => 0) (fun _ _ => 0) 0 0 0 0 0 ++ ([ia cy (w_4 1) 20 (fun _ => 0), ia cy (w_4 2) 21 (fun _ => 0)] ++ (pS cy x_4 S0 ++ ([eO cy ee_4 0 0 0 0, pO cy ee_4 (nI 0), ia cy (ee_4 2) 120 (fun _ => 0), ia cy (hh_4 1) 7 (fun _ => 0)] ++ (shB cy qq_4 (fun _ => 0) (fun _ => 0) (fun _ _ => 0)))))))))))) := hD2
  subst hh9_4
  refine lv_astore_n (lv' := [(1, .ref (hh_4 0)), (0, .ref b)]) hx hb dL_law_7 rfl hl0 (by decide) rfl (fun ls1 hl1 => ?_)
  clear hl0 ls0
  refine nwo (ci := 7) (fs := [.null, .null, .null, .null, .int 0, .null, .int 0, .int 0, .int 0, .int 0, .int 0, .null, .null, .int 0, .int 0, .null, .null, .int 0, .null, .null, .null, .null, .null]) (C := RX7) (T := TX7) (N := 23) hx hb hw iX7 tyX7 tyX7_ok hown kw_4_58 kw_4_59 kw_1_8 hK hP2 hD2 hS2 hA rfl (fun j hj => by rcases (show j = 0 ∨ j = 1 ∨ j = 2 ∨ j = 3 ∨ j = 4 ∨ j = 5 ∨ j = 6 ∨ j = 7 ∨ j = 8 ∨ j = 9 ∨ j = 10 ∨ j = 11 ∨ j = 12 ∨ j = 13 ∨ j = 14 ∨ j = 15 ∨ j = 16 ∨ j = 17 ∨ j = 18 ∨ j = 19 ∨ j = 20 ∨ j = 21 ∨ j = 22 by omega) with rfl | rfl | rfl | rfl | rfl | rfl | rfl | rfl | rfl | rfl | rfl | rfl | rfl | rfl | rfl | rfl | rfl | rfl | rfl | rfl | rfl | rfl | rfl <;> rfl) (Nat.le_of_ble_eq_true rfl) (Nat.le_of_ble_eq_true rfl) dL_law_8 (fun q8 H3 locs3 hP3 hD3 hS3 => ?_)
  clear hP2 hD2 hS2 locs2 H2
  replace hP3 : va_P D vwCl ([sO cy hh_4 a_4 kk_4 dd_4 b_4 w_4 ee_4 qq_4 0] ++ (pS cy a_4 S0 ++ (pS cy kk_4 S0 ++ (pS cy dd_4 S0 ++ (aS cy b_4 (fun _ => 0) (fun _ => 0) (fun _ => 0) (fun _ => 0) (fun _ => 0) (fun _ => 0) (fun _ => 0) (fun _ _ => 0) 0 0 0 0 0 ++ ([tO cy w_4 b2_4 x_4 0 0 0 (-1) 0 0 (nI 0)] ++ (aS cy b2_4 (fun _ => 0) (fun _ => 0) (fun _ => 0) (fun _ => 0) (fun _ => 0) (fun _ => 0) (fun _ => 0) (fun _ _ => 0) 0 0 0 0 0 ++ ([ia cy (w_4 1) 20 (fun _ => 0), ia cy (w_4 2) 21 (fun _ => 0)] ++ (pS cy x_4 S0 ++ ([eO cy ee_4 0 0 0 0, pO cy ee_4 (nI 0), ia cy (ee_4 2) 120 (fun _ => 0), ia cy (hh_4 1) 7 (fun _ => 0)] ++ (shB cy qq_4 (fun _ => 0) (fun _ => 0) (fun _ _ => 0) ++ ([(q8, .inr (7, [.null, .null, .null, .null, .int 0, .null, .int 0, .int 0, .int 0, .int 0, .int 0, .null, .null, .int 0, .int 0, .null, .null, .int 0, .null, .null, .null, .null, .null]))])))))))))))) H3 := hP3
  replace hD3 : va_D (va_A _ sz) ([sO cy hh_4 a_4 kk_4 dd_4 b_4 w_4 ee_4 qq_4 0] ++ (pS cy a_4 S0 ++ (pS cy kk_4 S0 ++ (pS cy dd_4 S0 ++ (aS cy b_4 (fun _ => 0) (fun _ => 0) (fun _ => 0) (fun _ => 0) (fun _ => 0) (fun _ => 0) (fun _ => 0) (fun _ _ => 0) 0 0 0 0 0 ++ ([tO cy w_4 b2_4 x_4 0 0 0 (-1) 0 0 (nI 0)] ++ (aS cy b2_4 (fun _ => 0) (fun _ => 0) (fun _ => 0) (fun _ => 0) (fun _ => 0) (fun _ => 0) (fun _ => 0) (fun _ _ => 0) 0 0 0 0 0 ++ ([ia cy (w_4 1) 20 (fun _ => 0), ia cy (w_4 2) 21 (fun _ => 0)] ++ (pS cy x_4 S0 ++ ([eO cy ee_4 0 0 0 0, pO cy ee_4 (nI 0), ia cy (ee_4 2) 120 (fun _ => 0), ia cy (hh_4 1) 7 (fun _ => 0)] ++ (shB cy qq_4 (fun _ => 0) (fun _ => 0) (fun _ _ => 0) ++ ([(q8, .inr (7, [.null, .null, .null, .null, .int 0, .null, .int 0, .int 0, .int 0, .int 0, .int 0, .null, .null, .int 0, .int 0, .null, .null, .int 0, .null, .null, .null, .null, .null]))])))))))))))) := hD3
  refine lv_dup hx hb dL_law_11 rfl ?_
  refine cI_v (wc := [(q8, .inr (7, [.null, .null, .null, .null, .int 0, .null, .int 0, .int 0, .int 0, .int 0, .int 0, .null, .null, .int 0, .int 0, .null, .null, .int 0, .null, .null, .null, .null, .null]))]) (wr := [sO cy hh_4 a_4 kk_4 dd_4 b_4 w_4 ee_4 qq_4 0] ++ (pS cy a_4 S0 ++ (pS cy kk_4 S0 ++ (pS cy dd_4 S0 ++ (aS cy b_4 (fun _ => 0) (fun _ => 0) (fun _ => 0) (fun _ => 0) (fun _ => 0) (fun _ => 0) (fun _ => 0) (fun _ _ => 0) 0 0 0 0 0 ++ ([tO cy w_4 b2_4 x_4 0 0 0 (-1) 0 0 (nI 0)] ++ (aS cy b2_4 (fun _ => 0) (fun _ => 0) (fun _ => 0) (fun _ => 0) (fun _ => 0) (fun _ => 0) (fun _ => 0) (fun _ _ => 0) 0 0 0 0 0 ++ ([ia cy (w_4 1) 20 (fun _ => 0), ia cy (w_4 2) 21 (fun _ => 0)] ++ (pS cy x_4 S0 ++ ([eO cy ee_4 0 0 0 0, pO cy ee_4 (nI 0), ia cy (ee_4 2) 120 (fun _ => 0), ia cy (hh_4 1) 7 (fun _ => 0)] ++ (shB cy qq_4 (fun _ => 0) (fun _ => 0) (fun _ _ => 0)))))))))))) (rest := [.ref q8]) hx hb hml hown hw hG hK hP3 hD3 hS3 hA hl1 kc_X7_init kw_4_60 [] (c_X7_init l D cy G H3.size q8) [87] [0, 1, 2, 3, 4, 5, 6, 7, 8, 9, 10, 11, 12, 13, 14, 15, 16, 17, 18, 19, 20, 21, 22, 23, 24, 25, 26, 27, 28, 29, 30, 31, 32, 33, 34, 35, 36, 37, 38, 39, 40, 41, 42, 43, 44, 45, 46, 47, 48, 49, 50, 51, 52, 53, 54, 55, 56, 57, 58, 59, 60, 61, 62, 63, 64, 65, 66, 67, 68, 69, 70, 71, 72, 73, 74, 75, 76, 77, 78, 79, 80, 81, 82, 83, 84, 85, 86] rfl rfl rfl rfl rfl rfl rfl (Nat.le_of_ble_eq_true rfl) ⟨Nat.le_of_ble_eq_true rfl, Nat.le_of_ble_eq_true rfl⟩ dL_law_12 ⟨Nat.le_of_ble_eq_true rfl, Nat.le_of_ble_eq_true rfl⟩ (fun u9 H4 locs4 hu9 hP4 hD4 hS4 => ?_)
  clear hP3 hD3 hS3 locs3 H3
  obtain ⟨mm_12, rfl⟩ : ∃ z9, z9 = u9 := ⟨_, rfl⟩
  have hm9_12 := hu9
  replace hm9_12 : mm_12 0 = q8 := hm9_12
  replace hP4 : va_P D vwCl ([sO cy hh_4 a_4 kk_4 dd_4 b_4 w_4 ee_4 qq_4 0] ++ (pS cy a_4 S0 ++ (pS cy kk_4 S0 ++ (pS cy dd_4 S0 ++ (aS cy b_4 (fun _ => 0) (fun _ => 0) (fun _ => 0) (fun _ => 0) (fun _ => 0) (fun _ => 0) (fun _ => 0) (fun _ _ => 0) 0 0 0 0 0 ++ ([tO cy w_4 b2_4 x_4 0 0 0 (-1) 0 0 (nI 0)] ++ (aS cy b2_4 (fun _ => 0) (fun _ => 0) (fun _ => 0) (fun _ => 0) (fun _ => 0) (fun _ => 0) (fun _ => 0) (fun _ _ => 0) 0 0 0 0 0 ++ ([ia cy (w_4 1) 20 (fun _ => 0), ia cy (w_4 2) 21 (fun _ => 0)] ++ (pS cy x_4 S0 ++ ([eO cy ee_4 0 0 0 0, pO cy ee_4 (nI 0), ia cy (ee_4 2) 120 (fun _ => 0), ia cy (hh_4 1) 7 (fun _ => 0)] ++ (shB cy qq_4 (fun _ => 0) (fun _ => 0) (fun _ _ => 0) ++ ([mO cy mm_12 0 0 0 0 0 0 0 0 0, ia cy (mm_12 1) 169 S0, ia cy (mm_12 2) 169 (fun _ => 0), ia cy (mm_12 3) 169 (fun _ => 0), ia cy (mm_12 4) 7 (fun _ => 0), ia cy (mm_12 5) 120 (fun _ => 0), ia cy (mm_12 6) 6 (fun _ => 0), ia cy (mm_12 7) 6 (fun _ => 0), ia cy (mm_12 8) 20 (fun _ => 0), ia cy (mm_12 9) 21 (fun _ => 0), ia cy (mm_12 10) 20 (fun _ => 0), ia cy (mm_12 11) 4 (fun _ => 0), ia cy (mm_12 12) 4 (fun _ => 0), la cy (mm_12 13) 160 (fun _ => 0), la cy (mm_12 14) 40 (fun _ => 0)])))))))))))) H4 := hP4
  replace hD4 : va_D (va_A _ sz) ([sO cy hh_4 a_4 kk_4 dd_4 b_4 w_4 ee_4 qq_4 0] ++ (pS cy a_4 S0 ++ (pS cy kk_4 S0 ++ (pS cy dd_4 S0 ++ (aS cy b_4 (fun _ => 0) (fun _ => 0) (fun _ => 0) (fun _ => 0) (fun _ => 0) (fun _ => 0) (fun _ => 0) (fun _ _ => 0) 0 0 0 0 0 ++ ([tO cy w_4 b2_4 x_4 0 0 0 (-1) 0 0 (nI 0)] ++ (aS cy b2_4 (fun _ => 0) (fun _ => 0) (fun _ => 0) (fun _ => 0) (fun _ => 0) (fun _ => 0) (fun _ => 0) (fun _ _ => 0) 0 0 0 0 0 ++ ([ia cy (w_4 1) 20 (fun _ => 0), ia cy (w_4 2) 21 (fun _ => 0)] ++ (pS cy x_4 S0 ++ ([eO cy ee_4 0 0 0 0, pO cy ee_4 (nI 0), ia cy (ee_4 2) 120 (fun _ => 0), ia cy (hh_4 1) 7 (fun _ => 0)] ++ (shB cy qq_4 (fun _ => 0) (fun _ => 0) (fun _ _ => 0) ++ ([mO cy mm_12 0 0 0 0 0 0 0 0 0, ia cy (mm_12 1) 169 S0, ia cy (mm_12 2) 169 (fun _ => 0), ia cy (mm_12 3) 169 (fun _ => 0), ia cy (mm_12 4) 7 (fun _ => 0), ia cy (mm_12 5) 120 (fun _ => 0), ia cy (mm_12 6) 6 (fun _ => 0), ia cy (mm_12 7) 6 (fun _ => 0), ia cy (mm_12 8) 20 (fun _ => 0), ia cy (mm_12 9) 21 (fun _ => 0), ia cy (mm_12 10) 20 (fun _ => 0), ia cy (mm_12 11) 4 (fun _ => 0), ia cy (mm_12 12) 4 (fun _ => 0), la cy (mm_12 13) 160 (fun _ => 0), la cy (mm_12 14) 40 (fun _ => 0)])))))))))))) := hD4
  subst hm9_12
  refine lv_astore_n (lv' := [(2, .ref (mm_12 0)), (1, .ref (hh_4 0)), (0, .ref b)]) hx hb dL_law_15 rfl hl1 (by decide) rfl (fun ls2 hl2 => ?_)
  clear hl1 ls1
  refine lv_iconst (v := 0) hx hb dL_law_16 (by decide) ?_
  refine lv_istore_n (lv' := [(3, .int 0), (2, .ref (mm_12 0)), (1, .ref (hh_4 0)), (0, .ref b)]) hx hb dL_law_17 rfl hl2 (by decide) rfl (fun ls3 hl3 => ?_)
  clear hl2 ls2
  replace hP4 := hP4.sub (ws' := [sO cy hh_4 a_4 kk_4 dd_4 b_4 w_4 ee_4 qq_4 0, ia cy (hh_4 1) 7 (fun _ => 0)] ++ (pS cy a_4 S0 ++ (pS cy kk_4 S0 ++ (pS cy dd_4 S0 ++ (aS cy b_4 (fun _ => 0) (fun _ => 0) (fun _ => 0) (fun _ => 0) (fun _ => 0) (fun _ => 0) (fun _ => 0) (fun _ _ => 0) 0 0 0 0 0 ++ ([tO cy w_4 b2_4 x_4 0 0 0 (-1) 0 0 (nI 0), ia cy (w_4 1) 20 (fun _ => 0), ia cy (w_4 2) 21 (fun _ => 0)] ++ (aS cy b2_4 (fun _ => 0) (fun _ => 0) (fun _ => 0) (fun _ => 0) (fun _ => 0) (fun _ => 0) (fun _ => 0) (fun _ _ => 0) 0 0 0 0 0 ++ (pS cy x_4 S0 ++ ([eO cy ee_4 0 0 0 0, pO cy ee_4 (nI 0), ia cy (ee_4 2) 120 (fun _ => 0)] ++ (shB cy qq_4 (fun _ => 0) (fun _ => 0) (fun _ _ => 0) ++ ([mO cy mm_12 0 0 0 0 0 0 0 0 0, ia cy (mm_12 1) 169 S0, ia cy (mm_12 2) 169 (fun _ => 0), ia cy (mm_12 3) 169 (fun _ => 0), ia cy (mm_12 4) 7 (fun _ => 0), ia cy (mm_12 5) 120 (fun _ => 0), ia cy (mm_12 6) 6 (fun _ => 0), ia cy (mm_12 7) 6 (fun _ => 0), ia cy (mm_12 8) 20 (fun _ => 0), ia cy (mm_12 9) 21 (fun _ => 0), ia cy (mm_12 10) 20 (fun _ => 0), ia cy (mm_12 11) 4 (fun _ => 0), ia cy (mm_12 12) 4 (fun _ => 0), la cy (mm_12 13) 160 (fun _ => 0), la cy (mm_12 14) 40 (fun _ => 0)]))))))))))) [0, 77, 1, 2, 3, 4, 5, 6, 7, 8, 9, 10, 11, 12, 13, 14, 15, 16, 17, 18, 19, 20, 21, 22, 23, 24, 25, 26, 27, 28, 29, 30, 31, 32, 33, 34, 35, 36, 37, 38, 39, 40, 41, 42, 43, 44, 45, 46, 62, 63, 47, 48, 49, 50, 51, 52, 53, 54, 55, 56, 57, 58, 59, 60, 61, 64, 65, 66, 67, 68, 69, 70, 71, 72, 73, 74, 75, 76, 78, 79, 80, 81, 82, 83, 84, 85, 86, 87, 88, 89, 90, 91, 92, 93, 94, 95, 96, 97, 98, 99, 100, 101] rfl
  replace hD4 := hD4.sub (ws' := [sO cy hh_4 a_4 kk_4 dd_4 b_4 w_4 ee_4 qq_4 0, ia cy (hh_4 1) 7 (fun _ => 0)] ++ (pS cy a_4 S0 ++ (pS cy kk_4 S0 ++ (pS cy dd_4 S0 ++ (aS cy b_4 (fun _ => 0) (fun _ => 0) (fun _ => 0) (fun _ => 0) (fun _ => 0) (fun _ => 0) (fun _ => 0) (fun _ _ => 0) 0 0 0 0 0 ++ ([tO cy w_4 b2_4 x_4 0 0 0 (-1) 0 0 (nI 0), ia cy (w_4 1) 20 (fun _ => 0), ia cy (w_4 2) 21 (fun _ => 0)] ++ (aS cy b2_4 (fun _ => 0) (fun _ => 0) (fun _ => 0) (fun _ => 0) (fun _ => 0) (fun _ => 0) (fun _ => 0) (fun _ _ => 0) 0 0 0 0 0 ++ (pS cy x_4 S0 ++ ([eO cy ee_4 0 0 0 0, pO cy ee_4 (nI 0), ia cy (ee_4 2) 120 (fun _ => 0)] ++ (shB cy qq_4 (fun _ => 0) (fun _ => 0) (fun _ _ => 0) ++ ([mO cy mm_12 0 0 0 0 0 0 0 0 0, ia cy (mm_12 1) 169 S0, ia cy (mm_12 2) 169 (fun _ => 0), ia cy (mm_12 3) 169 (fun _ => 0), ia cy (mm_12 4) 7 (fun _ => 0), ia cy (mm_12 5) 120 (fun _ => 0), ia cy (mm_12 6) 6 (fun _ => 0), ia cy (mm_12 7) 6 (fun _ => 0), ia cy (mm_12 8) 20 (fun _ => 0), ia cy (mm_12 9) 21 (fun _ => 0), ia cy (mm_12 10) 20 (fun _ => 0), ia cy (mm_12 11) 4 (fun _ => 0), ia cy (mm_12 12) 4 (fun _ => 0), la cy (mm_12 13) 160 (fun _ => 0), la cy (mm_12 14) 40 (fun _ => 0)]))))))))))) [0, 77, 1, 2, 3, 4, 5, 6, 7, 8, 9, 10, 11, 12, 13, 14, 15, 16, 17, 18, 19, 20, 21, 22, 23, 24, 25, 26, 27, 28, 29, 30, 31, 32, 33, 34, 35, 36, 37, 38, 39, 40, 41, 42, 43, 44, 45, 46, 62, 63, 47, 48, 49, 50, 51, 52, 53, 54, 55, 56, 57, 58, 59, 60, 61, 64, 65, 66, 67, 68, 69, 70, 71, 72, 73, 74, 75, 76, 78, 79, 80, 81, 82, 83, 84, 85, 86, 87, 88, 89, 90, 91, 92, 93, 94, 95, 96, 97, 98, 99, 100, 101] (by decide) rfl
  have hq9 : ([sO cy hh_4 a_4 kk_4 dd_4 b_4 w_4 ee_4 qq_4 0, ia cy (hh_4 1) 7 (fun _ => 0)] ++ (pS cy a_4 S0 ++ (pS cy kk_4 S0 ++ (pS cy dd_4 S0 ++ (aS cy b_4 (fun _ => 0) (fun _ => 0) (fun _ => 0) (fun _ => 0) (fun _ => 0) (fun _ => 0) (fun _ => 0) (fun _ _ => 0) 0 0 0 0 0 ++ ([tO cy w_4 b2_4 x_4 0 0 0 (-1) 0 0 (nI 0), ia cy (w_4 1) 20 (fun _ => 0), ia cy (w_4 2) 21 (fun _ => 0)] ++ (aS cy b2_4 (fun _ => 0) (fun _ => 0) (fun _ => 0) (fun _ => 0) (fun _ => 0) (fun _ => 0) (fun _ => 0) (fun _ _ => 0) 0 0 0 0 0 ++ (pS cy x_4 S0 ++ ([eO cy ee_4 0 0 0 0, pO cy ee_4 (nI 0), ia cy (ee_4 2) 120 (fun _ => 0)] ++ (shB cy qq_4 (fun _ => 0) (fun _ => 0) (fun _ _ => 0) ++ ([mO cy mm_12 0 0 0 0 0 0 0 0 0, ia cy (mm_12 1) 169 S0, ia cy (mm_12 2) 169 (fun _ => 0), ia cy (mm_12 3) 169 (fun _ => 0), ia cy (mm_12 4) 7 (fun _ => 0), ia cy (mm_12 5) 120 (fun _ => 0), ia cy (mm_12 6) 6 (fun _ => 0), ia cy (mm_12 7) 6 (fun _ => 0), ia cy (mm_12 8) 20 (fun _ => 0), ia cy (mm_12 9) 21 (fun _ => 0), ia cy (mm_12 10) 20 (fun _ => 0), ia cy (mm_12 11) 4 (fun _ => 0), ia cy (mm_12 12) 4 (fun _ => 0), la cy (mm_12 13) 160 (fun _ => 0), la cy (mm_12 14) 40 (fun _ => 0)]))))))))))) = [sO cy hh_4 a_4 kk_4 dd_4 b_4 w_4 ee_4 qq_4 0, ia cy (hh_4 1) 7 (fun _ => 0)] ++ (pS cy a_4 S0 ++ (pS cy kk_4 S0 ++ (pS cy dd_4 S0 ++ (aS cy b_4 (fun _ => 0) (fun _ => 0) (fun _ => 0) (fun _ => 0) (fun _ => 0) (fun _ => 0) (fun _ => 0) (fun _ _ => 0) 0 0 0 0 0 ++ ([tO cy w_4 b2_4 x_4 0 0 0 (-1) 0 0 (nI 0), ia cy (w_4 1) 20 (fun _ => 0), ia cy (w_4 2) 21 (fun _ => 0)] ++ (aS cy b2_4 (fun _ => 0) (fun _ => 0) (fun _ => 0) (fun _ => 0) (fun _ => 0) (fun _ => 0) (fun _ => 0) (fun _ _ => 0) 0 0 0 0 0 ++ (pS cy x_4 S0 ++ ([eO cy ee_4 0 0 0 0, pO cy ee_4 (nI 0), ia cy (ee_4 2) 120 (fun _ => 0)] ++ (shB cy qq_4 (fun _ => 0) (fun _ => 0) (fun _ _ => 0) ++ ([mO cy mm_12 0 (nI 0) 0 0 0 0 0 0 0, ia cy (mm_12 1) 169 S0, ia cy (mm_12 2) 169 (fun _ => 0), ia cy (mm_12 3) 169 (fun _ => 0), ia cy (mm_12 4) 7 (fun _ => 0), ia cy (mm_12 5) 120 (fun _ => 0), ia cy (mm_12 6) 6 (fun _ => 0), ia cy (mm_12 7) 6 (fun _ => 0), ia cy (mm_12 8) 20 (fun _ => 0), ia cy (mm_12 9) 21 (fun _ => 0), ia cy (mm_12 10) 20 (fun _ => 0), ia cy (mm_12 11) 4 (fun _ => 0), ia cy (mm_12 12) 4 (fun _ => 0), la cy (mm_12 13) 160 (numF (fun _ _ => 0)), la cy (mm_12 14) 40 (fun _ => 0)])))))))))) := rfl
  replace hP4 := (congrArg (fun z9 => va_P D vwCl z9 _) hq9).mp hP4
  replace hD4 := (congrArg (fun z9 => va_D _ z9) hq9).mp hD4
  refine W.widen (k := 600000) (n := 7302250) (Nat.le_of_ble_eq_true rfl) (Nat.le_of_ble_eq_true rfl) ?_
  exact law_main C9 hL hr hlocks (L + 1) 0 (Nat.zero_le _) (by omega) 0 (fun _ => 0) S0 S0 (fun _ => 0) S0 0 (fun _ => 0) (fun _ => 0) (fun _ => 0) (fun _ _ => 0) (fun _ => 0) (fun _ => 0) (fun _ => 0) (fun _ => 0) (fun _ => 0) (fun _ => 0) (fun _ => 0) (fun _ _ => 0) 0 0 0 0 0 0 0 0 (-1) 0 0 (nI 0) (fun _ => 0) (fun _ => 0) (fun _ => 0) (fun _ => 0) (fun _ => 0) (fun _ => 0) (fun _ => 0) (fun _ => 0) (fun _ => 0) (fun _ _ => 0) 0 0 0 0 0 S0 0 0 0 0 0 0 0 0 0 0 0 (fun _ => 0) (fun _ => 0) (fun _ => 0) (fun _ => 0) (fun _ => 0) (fun _ => 0) (fun _ => 0) (⟨S0_wf, S0_wf, can_S0, can_S0, Or.inl rfl, Nat.zero_le _, shOk_0, fun h9 => absurd h9 (by decide), tpOk_0 _⟩) H4 locs4 hP4 hD4 hS4 ls3 hl3
set_option maxHeartbeats 4000000 in
theorem lw_walk (l : Launch) (hflags : l.flags = flags0) (b : Addr) (xs : List Int32) : MetFree l x (headSpec (Jvm.Cond.code x code maxLocals ret :: tables_1) room_1) (lw_P b xs) (fun _ _ _ _ _ => True) lw_Q := by
  refine MetFree.of_bodyS (code := code) (maxLocals := maxLocals) (ret := ret) (by decide) ?_ ?_
  · intro args s m h hn
    obtain ⟨meth, c, h1, h2, h3, h4, h5, h6, -, -⟩ := Cond.code_spec hn (atoms_spec (ws := Jvm.Cond.code x code maxLocals ret :: tables_1) h _ List.mem_cons_self)
    exact ⟨meth, c, h1, h2, h3, h4, h5, h6⟩
  · intro p e s m args below meth c s₁ B hml0 hP _
    obtain ⟨rfl, hx, hbd, hgv⟩ := hP
    obtain ⟨scr, harrAt, hlist, hof, hsmall⟩ := hx
    obtain ⟨hcb, hkn, -, -⟩ := State.arrayAt?_spec harrAt
    have hown : s.vm.findClass R_law = some m.cls := findClass_of_methodNamed B.named
    have hts0 : ∀ c ∈ (Jvm.Cond.code x code maxLocals ret :: tables_1), c.before #[Value.ref b] s = true := atoms_spec (ws := Jvm.Cond.code x code maxLocals ret :: tables_1) B.pre
    have hts : ∀ w ∈ lw_tbl, w.before #[Value.ref b] s = true := k2_hts_sels lw_privs (fun w hw => hts0 w (List.mem_cons_of_mem _ hw)) lw_privs_ok
    have hml : c.maxLocals = 4 := B.maxLocals_eq (hts0 _ List.mem_cons_self)
    have X₀ : Stand p l e room_1 s m #[Value.ref b] below meth c s₁ [] 0 0 := Stand.of_body B
    have hh0 : s₁.heap = s.heap := by rw [B.state]; rfl
    have hsz : scr.slots.size = xs.length := by rw [← Array.length_toList, hlist, List.length_map]
    have hval : ∀ j : Nat, j < xs.length → scr.slots[j]? = some (.int (xs.getD j 0)) := fun j hj => by
      rw [← Array.getElem?_toList, hlist]
      simp [hj]
    have hbl : b < s.heap.size := (Array.getElem?_eq_some_iff.mp hcb).1
    have hX : va_X b xs.length (fun j => xs.getD j 0) s s.heap := ⟨scr, hcb, hof, hkn, hsz, hval⟩
    have K : W p l e room_1 s m #[Value.ref b] below meth c s₁.heap [] 0 0 (lw_Z below #[Value.ref b] s) (entryFrame m ([Value.ref b] : List Value).toArray 4) := by
      rw [hh0]
      exact whole_start l hflags hbd ⟨B.exec, B.bytes, B.returns, hml, hown, hts, hX, hbl, B.notSynchronized, hgv⟩
    obtain ⟨t, a1, o, b1, b2, b3⟩ := K s₁ rfl X₀
    exact ⟨t, o, a1, b1, b2, b3⟩
theorem lw_pre_spec {args : Array Value} {s : State} (h : (Jvm.Cond.and given_1 narrow_1).before args s = true) (hr : rest_1_c.before args s = true) : ∃ (b : Addr) (xs : List Int32), lw_P b xs args s := by
  have hs := flat_of_before _ h
  have hq := flat_of_before _ hr
  have hc : (Cond.count 1).before args s = true := hs _ (by decide +kernel)
  have harr : (Cond.arrayOf (.arg 0) .int).before args s = true := hs _ (by decide +kernel)
  have hle : (Cond.le (.length (.arg 0)) (.int 384)).before args s = true := hs _ (by decide +kernel)
  have hlen : (Cond.isInt (.length (.arg 0))).before args s = true := hq _ (by decide +kernel)
  have hall : (Cond.all (.arg 0) (.isInt (.elem (.arg 0) (.index 0)))).before args s = true := hq _ (by decide +kernel)
  obtain ⟨b, xs, hb, hx⟩ := State.ints_of_pre rfl harr hlen hall
  have hsm : xs.length < 2 ^ 31 := hx.choose_spec.2.2.2
  have hev : (Term.length (.arg 0)).eval args s none [] s = some (.int xs.length.toInt32) := hx.length_eval hb
  have hv := Cond.le_ints hev (show (Term.int 384).eval args s none [] s = some (.int 384) from rfl)
  have hd : xs.length.toInt32 ≤ 384 := by
    simpa [Cond.before, Cond.holds, hv] using hle
  have hN : xs.length ≤ 384 := (Int32.ofNat_le_ofNat hsm (by decide)).mp (show Int32.ofNat xs.length ≤ Int32.ofNat 384 from hd)
  exact ⟨b, xs, Cond.one_arg hc (show args[0]? = some (.ref b) from hb), hx, hN, h⟩
theorem lw_comes (l : Launch) (hflags : l.flags = flags0) : Comes l x (Jvm.Cond.code x code maxLocals ret :: tables_1) room_1 (fun tb e args s => Calls_1 tb e args s ∧ rest_1 tb e args s ∧ Pre_1 tb e args s)
    (fun _ _ args s o t => lw_Q args s o t) := by
  intro p e ha hc hk s m args below hf hfit hheap happ hpre
  obtain ⟨b, xs, hP⟩ := lw_pre_spec hpre.2.2 hpre.2.1
  obtain ⟨k, o, h1, h2, h3, hQ⟩ := lw_walk l hflags b xs p e ha hc hk s m args below hf ((Spec.applies_iff_loose hf).mp happ).1 hP trivial
  exact ⟨k, o, h1, h2, h3, hQ⟩
theorem lw_frame {s t : State} {o : Outcome} {args : Array Value} (h : Framed s o t [] 600000 7302250) :
    Framed s o t (fieldLocs frame_1_writes args s ++ arrayLocs frame_1_arrays args s ++ staticLocs frame_1_statics s) 600000 7302250 := h
theorem lw_limb (L : Cond) (hL : ∀ (args : Array Value) (s t : State), L.after args s (.returned (some (.int 1))) t = true) :
    ArmFor flags0 classFile x code maxLocals ret World_1 tables_1 room_1 Calls_1 rest_1 Pre_1
      (fun tb e a s o t => postC L tb e a s o t ∧ Framed s o t (fieldLocs frame_1_writes a s ++ arrayLocs frame_1_arrays a s ++ staticLocs frame_1_statics s) 600000 7302250) := by
  intro l hflags _ _ p e ha hc hk s m args below hf hfit hheap happ hpre
  obtain ⟨k, o, h1, h2, h3, rfl, hF⟩ := lw_comes l hflags p e ha hc hk s m args below hf hfit hheap happ hpre
  exact ⟨k, _, h1, h2, h3, hL args s _, lw_frame hF⟩
theorem i_vc : Claimed_1_1 ∧ Claimed_1_2 := ⟨lw_limb limb_1_1 (fun args s t => by simp [limb_1_1, Cond.after, Cond.holds, Cond.value]), lw_limb limb_1_2 (fun args s t => Cond.after_iff.mpr (by
  first | (rw [show limb_1_2 = Cond.eq .result (.int 1) from rfl, Cond.eq_ints (x := 1) (y := 1) rfl rfl]; simp; done) | (simp [limb_1_2, Cond.value, Term.eval]; done)))⟩

