abbrev W_X_least (cI cC cB : ClassId) (qu : Nat) (qu_reading : Nat) (qu_reading_bases : Nat) (qu_costs : Nat) (qu_costs_table : Nat) (qu_graph : Nat) (qu_graph_placeBases : Nat) (qu_graph_joinFrom : Nat) (qu_graph_joinTo : Nat) (qu_text : Nat) (qu_result : Nat) (qu_told : Nat) (qu_spare : Nat) (qu_graph_segmentNames : Nat) (qu_graph_sideStarts : Nat) (qu_graph_placeSides : Nat) (qu_graph_followers : Nat) (qu_graph_pathNames : Nat) (qu_graph_stepCounts : Nat) (qu_graph_steps : Nat) (fu_reading_length : Int32) (au_reading_bases : Nat → Int32) (au_costs_table : Nat → Int32) (fu_graph_segments : Int32) (fu_graph_links : Int32) (fu_graph_paths : Int32) (fu_graph_places : Int32) (fu_graph_joins : Int32) (au_graph_placeBases : Nat → Int32) (au_graph_joinFrom : Nat → Int32) (au_graph_joinTo : Nat → Int32) : va_W := [(qu, .inr (0, [.ref qu_text, .ref qu_reading, .ref qu_costs, .ref qu_result, .ref qu_told, .ref qu_graph, .ref qu_spare])), (qu_reading, .inr (2, [.ref qu_reading_bases, .int fu_reading_length])), (qu_reading_bases, .inl (cC, 12, .inl au_reading_bases)), (qu_costs, .inr (3, [.ref qu_costs_table])), (qu_costs_table, .inl (cI, 832, .inl au_costs_table)), (qu_graph, .inr (5, [.int fu_graph_segments, .int fu_graph_links, .int fu_graph_paths, .int fu_graph_places, .int fu_graph_joins, .ref qu_graph_segmentNames, .ref qu_graph_sideStarts, .ref qu_graph_placeBases, .ref qu_graph_placeSides, .ref qu_graph_followers, .ref qu_graph_pathNames, .ref qu_graph_stepCounts, .ref qu_graph_steps, .ref qu_graph_joinFrom, .ref qu_graph_joinTo])), (qu_graph_placeBases, .inl (cC, 64, .inl au_graph_placeBases)), (qu_graph_joinFrom, .inl (cI, 72, .inl au_graph_joinFrom)), (qu_graph_joinTo, .inl (cI, 72, .inl au_graph_joinTo))]
def wp_X_least (Q : Int32 → (Nat → Int32) → Prop) (p1 : Int32) (p2 : Int32) (fu_reading_length : Int32) (au_reading_bases : Nat → Int32) (au_costs_table : Nat → Int32) (fu_graph_places : Int32) (fu_graph_joins : Int32) (au_graph_placeBases : Nat → Int32) (au_graph_joinFrom : Nat → Int32) (au_graph_joinTo : Nat → Int32) : Prop := ((p1 < 0 → (Q (-1) au_costs_table)) ∧ (¬ p1 < 0 → (((fu_reading_length < p1 → (Q (-1) au_costs_table)) ∧ (¬ fu_reading_length < p1 → (wp_Gr_hasPlace (fun r_4 v_3 => ((r_4 = 0 → (Q (-1) au_costs_table)) ∧ (¬ r_4 = 0 → (wp_Co_fill (fun v_6 => wp_Co_at (fun r_9 v_8 => Q r_9 v_6) p1 p2 v_6) p1 au_costs_table fu_graph_places fu_graph_joins au_graph_placeBases au_graph_joinFrom au_graph_joinTo au_reading_bases)))) p2 fu_graph_places))))))
abbrev rm_X_least : Room := { frames := 4, cells := 0, slots := 0, locals := 95 }
set_option maxHeartbeats 4000000 in
set_option maxRecDepth 100000 in
theorem k_X_least (l : Launch) (dC : Nat → ClassId) (dI : Nat → Nat → Nat) (cI cC cB : ClassId) (sz : Nat) (qu : Nat) (qu_reading : Nat) (qu_reading_bases : Nat) (qu_costs : Nat) (qu_costs_table : Nat) (qu_graph : Nat) (qu_graph_placeBases : Nat) (qu_graph_joinFrom : Nat) (qu_graph_joinTo : Nat) (qu_text : Nat) (qu_result : Nat) (qu_told : Nat) (qu_spare : Nat) (qu_graph_segmentNames : Nat) (qu_graph_sideStarts : Nat) (qu_graph_placeSides : Nat) (qu_graph_followers : Nat) (qu_graph_pathNames : Nat) (qu_graph_stepCounts : Nat) (qu_graph_steps : Nat) (fu_reading_length : Int32) (au_reading_bases : Nat → Int32) (au_costs_table : Nat → Int32) (fu_graph_segments : Int32) (fu_graph_links : Int32) (fu_graph_paths : Int32) (fu_graph_places : Int32) (fu_graph_joins : Int32) (au_graph_placeBases : Nat → Int32) (au_graph_joinFrom : Nat → Int32) (au_graph_joinTo : Nat → Int32) (p1 : Int32) (p2 : Int32) {Q : Int32 → (Nat → Int32) → Prop} (h : wp_X_least Q p1 p2 fu_reading_length au_reading_bases au_costs_table fu_graph_places fu_graph_joins au_graph_placeBases au_graph_joinFrom au_graph_joinTo) :
    CTi l y_X_least (wM y_X_least c_X_least 3 (some .int)) rm_X_least 0 0 (dC, dI) (tysL cI cC cB) [.ref qu, .int p1, .int p2] (W_X_least cI cC cB qu qu_reading qu_reading_bases qu_costs qu_costs_table qu_graph qu_graph_placeBases qu_graph_joinFrom qu_graph_joinTo qu_text qu_result qu_told qu_spare qu_graph_segmentNames qu_graph_sideStarts qu_graph_placeSides qu_graph_followers qu_graph_pathNames qu_graph_stepCounts qu_graph_steps fu_reading_length au_reading_bases au_costs_table fu_graph_segments fu_graph_links fu_graph_paths fu_graph_places fu_graph_joins au_graph_placeBases au_graph_joinFrom au_graph_joinTo) sz Q (fun (v : (Nat → Int32)) (_ : Unit) => (W_X_least cI cC cB qu qu_reading qu_reading_bases qu_costs qu_costs_table qu_graph qu_graph_placeBases qu_graph_joinFrom qu_graph_joinTo qu_text qu_result qu_told qu_spare qu_graph_segmentNames qu_graph_sideStarts qu_graph_placeSides qu_graph_followers qu_graph_pathNames qu_graph_stepCounts qu_graph_steps fu_reading_length au_reading_bases v fu_graph_segments fu_graph_links fu_graph_paths fu_graph_places fu_graph_joins au_graph_placeBases au_graph_joinFrom au_graph_joinTo)) := by
  refine CTi.std (by decide) (Nat.le_of_ble_eq_true rfl) ?_
  intro p e s m args below meth c A ls QF C0 hP hD hl hS hsz hret
  obtain ⟨hx, hb, hr, hml, hown, hts, hlocks, hN, hA, hK, hnm⟩ := id C0
  have hown : s.vm.findClass R_X = some m.cls := hown
  have hl : lv_has ls 3 [(0, .ref qu), (1, .int p1), (2, .int p2)] := hl
  clear hsz
  unfold wp_X_least at h
  refine lv_iload_n hx hb d_X_least_0 rfl (lv_at hl 1 rfl) ?_
  refine lv_if_lt (tgt := 26) hx hb d_X_least_1 (by decide) (fun c_1 => ?_) (fun c_1 => ?_)
  · have h := h.1 c_1
    refine lv_iconst (v := (-1)) hx hb d_X_least_26 (by decide) ?_
    exact hret au_costs_table () (-1) _ _ _ _ rfl h hP hD hS d_X_least_27
  · have h := h.2 c_1
    refine lv_iload_n hx hb d_X_least_4 rfl (lv_at hl 1 rfl) ?_
    refine lv_aload_n hx hb d_X_least_5 rfl (lv_at hl 0 rfl) ?_
    refine va_get (D := (dC, dI)) (ci := 0) (v := .ref qu_reading) (C := R_X) (T := T_X) (N := 7) hx hb hts in_X hown hK hP 0 rfl rfl 1 (by decide) (hts _ w_140) (fun _ h9 => h9) rfl d_X_least_6 ?_
    refine va_get (D := (dC, dI)) (ci := 2) (v := .int fu_reading_length) (C := R_Re) (T := T_Re) (N := 2) hx hb hts in_Re hown hK hP 1 rfl rfl 1 (by decide) (hts _ w_148) (fun _ h9 => h9) rfl d_X_least_9 ?_
    refine lv_icmp_gt (tgt := 26) hx hb d_X_least_12 (by decide) (fun c_2 => ?_) (fun c_2 => ?_)
    · have h := h.1 c_2
      refine lv_iconst (v := (-1)) hx hb d_X_least_26 (by decide) ?_
      exact hret au_costs_table () (-1) _ _ _ _ rfl h hP hD hS d_X_least_27
    · have h := h.2 c_2
      refine lv_aload_n hx hb d_X_least_15 rfl (lv_at hl 0 rfl) ?_
      refine va_get (D := (dC, dI)) (ci := 0) (v := .ref qu_graph) (C := R_X) (T := T_X) (N := 7) hx hb hts in_X hown hK hP 0 rfl rfl 5 (by decide) (hts _ w_126) (fun _ h9 => h9) rfl d_X_least_16 ?_
      refine lv_iload_n hx hb d_X_least_19 rfl (lv_at hl 2 rfl) ?_
      refine call_V_i (As := [.int p2]) (rest := []) C0 hP hD hS [5] [0, 1, 2, 3, 4, 6, 7, 8] [0, 1, 2, 3, 4, 8, 5, 6, 7] [(qu, .inr (0, [.ref qu_text, .ref qu_reading, .ref qu_costs, .ref qu_result, .ref qu_told, .ref qu_graph, .ref qu_spare])), (qu_reading, .inr (2, [.ref qu_reading_bases, .int fu_reading_length])), (qu_reading_bases, .inl (cC, 12, .inl au_reading_bases)), (qu_costs, .inr (3, [.ref qu_costs_table])), (qu_costs_table, .inl (cI, 832, .inl au_costs_table)), (qu_graph_placeBases, .inl (cC, 64, .inl au_graph_placeBases)), (qu_graph_joinFrom, .inl (cI, 72, .inl au_graph_joinFrom)), (qu_graph_joinTo, .inl (cI, 72, .inl au_graph_joinTo))] (fun (v : Unit) (_ : Unit) => (W_X_least cI cC cB qu qu_reading qu_reading_bases qu_costs qu_costs_table qu_graph qu_graph_placeBases qu_graph_joinFrom qu_graph_joinTo qu_text qu_result qu_told qu_spare qu_graph_segmentNames qu_graph_sideStarts qu_graph_placeSides qu_graph_followers qu_graph_pathNames qu_graph_stepCounts qu_graph_steps fu_reading_length au_reading_bases au_costs_table fu_graph_segments fu_graph_links fu_graph_paths fu_graph_places fu_graph_joins au_graph_placeBases au_graph_joinFrom au_graph_joinTo)) (ci := 5) rfl rfl (k_Gr_hasPlace l dC dI cI cC cB _ qu_graph qu_graph_segmentNames qu_graph_sideStarts qu_graph_placeBases qu_graph_placeSides qu_graph_followers qu_graph_pathNames qu_graph_stepCounts qu_graph_steps qu_graph_joinFrom qu_graph_joinTo fu_graph_segments fu_graph_links fu_graph_paths fu_graph_places fu_graph_joins p2 h) (g_V w_133 w_134 w_135 w_39 w_132) 1 rfl (by decide +kernel) rfl rfl ⟨Nat.le_of_ble_eq_true rfl, Nat.le_of_ble_eq_true rfl⟩ rfl rfl (by decide) (by decide) (by decide) (by decide) (fun _ _ => rfl) hl.1 rfl (Nat.le_of_ble_eq_true rfl) d_X_least_20 ⟨Nat.le_of_ble_eq_true rfl, Nat.le_of_ble_eq_true rfl⟩ (fun r_4 v_3 _ H locs h hP hD hS => ?_)
      have hP : va_P (dC, dI) cls (W_X_least cI cC cB qu qu_reading qu_reading_bases qu_costs qu_costs_table qu_graph qu_graph_placeBases qu_graph_joinFrom qu_graph_joinTo qu_text qu_result qu_told qu_spare qu_graph_segmentNames qu_graph_sideStarts qu_graph_placeSides qu_graph_followers qu_graph_pathNames qu_graph_stepCounts qu_graph_steps fu_reading_length au_reading_bases au_costs_table fu_graph_segments fu_graph_links fu_graph_paths fu_graph_places fu_graph_joins au_graph_placeBases au_graph_joinFrom au_graph_joinTo) H := hP
      have hD : va_D A (W_X_least cI cC cB qu qu_reading qu_reading_bases qu_costs qu_costs_table qu_graph qu_graph_placeBases qu_graph_joinFrom qu_graph_joinTo qu_text qu_result qu_told qu_spare qu_graph_segmentNames qu_graph_sideStarts qu_graph_placeSides qu_graph_followers qu_graph_pathNames qu_graph_stepCounts qu_graph_steps fu_reading_length au_reading_bases au_costs_table fu_graph_segments fu_graph_links fu_graph_paths fu_graph_places fu_graph_joins au_graph_placeBases au_graph_joinFrom au_graph_joinTo) := hD
      refine lv_if_ne (tgt := 28) hx hb d_X_least_23 (by decide) (fun c_5 => ?_) (fun c_5 => ?_)
      · have h := h.2 c_5
        refine lv_aload_n hx hb d_X_least_28 rfl (lv_at hl 0 rfl) ?_
        refine va_get (D := (dC, dI)) (ci := 0) (v := .ref qu_costs) (C := R_X) (T := T_X) (N := 7) hx hb hts in_X hown hK hP 0 rfl rfl 2 (by decide) (hts _ w_149) (fun _ h9 => h9) rfl d_X_least_29 ?_
        refine lv_aload_n hx hb d_X_least_32 rfl (lv_at hl 0 rfl) ?_
        refine va_get (D := (dC, dI)) (ci := 0) (v := .ref qu_graph) (C := R_X) (T := T_X) (N := 7) hx hb hts in_X hown hK hP 0 rfl rfl 5 (by decide) (hts _ w_126) (fun _ h9 => h9) rfl d_X_least_33 ?_
        refine lv_aload_n hx hb d_X_least_36 rfl (lv_at hl 0 rfl) ?_
        refine va_get (D := (dC, dI)) (ci := 0) (v := .ref qu_reading) (C := R_X) (T := T_X) (N := 7) hx hb hts in_X hown hK hP 0 rfl rfl 1 (by decide) (hts _ w_140) (fun _ h9 => h9) rfl d_X_least_37 ?_
        refine lv_iload_n hx hb d_X_least_40 rfl (lv_at hl 1 rfl) ?_
        refine call_V_v (As := [.ref qu_graph, .ref qu_reading, .int p1]) (rest := []) C0 hP hD hS [3, 4, 5, 6, 7, 8, 1, 2] [0] [0, 7, 8, 1, 2, 3, 4, 5, 6] [(qu, .inr (0, [.ref qu_text, .ref qu_reading, .ref qu_costs, .ref qu_result, .ref qu_told, .ref qu_graph, .ref qu_spare]))] (fun (v : (Nat → Int32)) (_ : Unit) => (W_X_least cI cC cB qu qu_reading qu_reading_bases qu_costs qu_costs_table qu_graph qu_graph_placeBases qu_graph_joinFrom qu_graph_joinTo qu_text qu_result qu_told qu_spare qu_graph_segmentNames qu_graph_sideStarts qu_graph_placeSides qu_graph_followers qu_graph_pathNames qu_graph_stepCounts qu_graph_steps fu_reading_length au_reading_bases v fu_graph_segments fu_graph_links fu_graph_paths fu_graph_places fu_graph_joins au_graph_placeBases au_graph_joinFrom au_graph_joinTo)) (ci := 3) rfl rfl (k_Co_fill l dC dI cI cC cB _ qu_costs qu_costs_table qu_graph qu_graph_placeBases qu_graph_joinFrom qu_graph_joinTo qu_reading qu_reading_bases qu_graph_segmentNames qu_graph_sideStarts qu_graph_placeSides qu_graph_followers qu_graph_pathNames qu_graph_stepCounts qu_graph_steps au_costs_table fu_graph_segments fu_graph_links fu_graph_paths fu_graph_places fu_graph_joins au_graph_placeBases au_graph_joinFrom au_graph_joinTo fu_reading_length au_reading_bases p1 h) (g_V w_248 w_249 w_250 w_158 w_247) 3 rfl (by decide +kernel) rfl rfl ⟨Nat.le_of_ble_eq_true rfl, Nat.le_of_ble_eq_true rfl⟩ rfl rfl (by decide) (by decide) (by decide) (by decide) (fun _ _ => rfl) hl.1 rfl (Nat.le_of_ble_eq_true rfl) d_X_least_41 ⟨Nat.le_of_ble_eq_true rfl, Nat.le_of_ble_eq_true rfl⟩ (fun v_6 _ H locs h hP hD hS => ?_)
        have hP : va_P (dC, dI) cls (W_X_least cI cC cB qu qu_reading qu_reading_bases qu_costs qu_costs_table qu_graph qu_graph_placeBases qu_graph_joinFrom qu_graph_joinTo qu_text qu_result qu_told qu_spare qu_graph_segmentNames qu_graph_sideStarts qu_graph_placeSides qu_graph_followers qu_graph_pathNames qu_graph_stepCounts qu_graph_steps fu_reading_length au_reading_bases v_6 fu_graph_segments fu_graph_links fu_graph_paths fu_graph_places fu_graph_joins au_graph_placeBases au_graph_joinFrom au_graph_joinTo) H := hP
        have hD : va_D A (W_X_least cI cC cB qu qu_reading qu_reading_bases qu_costs qu_costs_table qu_graph qu_graph_placeBases qu_graph_joinFrom qu_graph_joinTo qu_text qu_result qu_told qu_spare qu_graph_segmentNames qu_graph_sideStarts qu_graph_placeSides qu_graph_followers qu_graph_pathNames qu_graph_stepCounts qu_graph_steps fu_reading_length au_reading_bases v_6 fu_graph_segments fu_graph_links fu_graph_paths fu_graph_places fu_graph_joins au_graph_placeBases au_graph_joinFrom au_graph_joinTo) := hD
        refine lv_aload_n hx hb d_X_least_44 rfl (lv_at hl 0 rfl) ?_
        refine va_get (D := (dC, dI)) (ci := 0) (v := .ref qu_costs) (C := R_X) (T := T_X) (N := 7) hx hb hts in_X hown hK hP 0 rfl rfl 2 (by decide) (hts _ w_149) (fun _ h9 => h9) rfl d_X_least_45 ?_
        refine lv_iload_n hx hb d_X_least_48 rfl (lv_at hl 1 rfl) ?_
        refine lv_iload_n hx hb d_X_least_49 rfl (lv_at hl 2 rfl) ?_
        refine call_V_i (As := [.int p1, .int p2]) (rest := []) C0 hP hD hS [3, 4] [0, 1, 2, 5, 6, 7, 8] [0, 1, 2, 7, 8, 3, 4, 5, 6] [(qu, .inr (0, [.ref qu_text, .ref qu_reading, .ref qu_costs, .ref qu_result, .ref qu_told, .ref qu_graph, .ref qu_spare])), (qu_reading, .inr (2, [.ref qu_reading_bases, .int fu_reading_length])), (qu_reading_bases, .inl (cC, 12, .inl au_reading_bases)), (qu_graph, .inr (5, [.int fu_graph_segments, .int fu_graph_links, .int fu_graph_paths, .int fu_graph_places, .int fu_graph_joins, .ref qu_graph_segmentNames, .ref qu_graph_sideStarts, .ref qu_graph_placeBases, .ref qu_graph_placeSides, .ref qu_graph_followers, .ref qu_graph_pathNames, .ref qu_graph_stepCounts, .ref qu_graph_steps, .ref qu_graph_joinFrom, .ref qu_graph_joinTo])), (qu_graph_placeBases, .inl (cC, 64, .inl au_graph_placeBases)), (qu_graph_joinFrom, .inl (cI, 72, .inl au_graph_joinFrom)), (qu_graph_joinTo, .inl (cI, 72, .inl au_graph_joinTo))] (fun (v : Unit) (_ : Unit) => (W_X_least cI cC cB qu qu_reading qu_reading_bases qu_costs qu_costs_table qu_graph qu_graph_placeBases qu_graph_joinFrom qu_graph_joinTo qu_text qu_result qu_told qu_spare qu_graph_segmentNames qu_graph_sideStarts qu_graph_placeSides qu_graph_followers qu_graph_pathNames qu_graph_stepCounts qu_graph_steps fu_reading_length au_reading_bases v_6 fu_graph_segments fu_graph_links fu_graph_paths fu_graph_places fu_graph_joins au_graph_placeBases au_graph_joinFrom au_graph_joinTo)) (ci := 3) rfl rfl (k_Co_at l dC dI cI cC cB _ qu_costs qu_costs_table v_6 p1 p2 h) (g_V w_251 w_156 w_157 w_158 w_154) 2 rfl (by decide +kernel) rfl rfl ⟨Nat.le_of_ble_eq_true rfl, Nat.le_of_ble_eq_true rfl⟩ rfl rfl (by decide) (by decide) (by decide) (by decide) (fun _ _ => rfl) hl.1 rfl (Nat.le_of_ble_eq_true rfl) d_X_least_50 ⟨Nat.le_of_ble_eq_true rfl, Nat.le_of_ble_eq_true rfl⟩ (fun r_9 v_8 _ H locs h hP hD hS => ?_)
        have hP : va_P (dC, dI) cls (W_X_least cI cC cB qu qu_reading qu_reading_bases qu_costs qu_costs_table qu_graph qu_graph_placeBases qu_graph_joinFrom qu_graph_joinTo qu_text qu_result qu_told qu_spare qu_graph_segmentNames qu_graph_sideStarts qu_graph_placeSides qu_graph_followers qu_graph_pathNames qu_graph_stepCounts qu_graph_steps fu_reading_length au_reading_bases v_6 fu_graph_segments fu_graph_links fu_graph_paths fu_graph_places fu_graph_joins au_graph_placeBases au_graph_joinFrom au_graph_joinTo) H := hP
        have hD : va_D A (W_X_least cI cC cB qu qu_reading qu_reading_bases qu_costs qu_costs_table qu_graph qu_graph_placeBases qu_graph_joinFrom qu_graph_joinTo qu_text qu_result qu_told qu_spare qu_graph_segmentNames qu_graph_sideStarts qu_graph_placeSides qu_graph_followers qu_graph_pathNames qu_graph_stepCounts qu_graph_steps fu_reading_length au_reading_bases v_6 fu_graph_segments fu_graph_links fu_graph_paths fu_graph_places fu_graph_joins au_graph_placeBases au_graph_joinFrom au_graph_joinTo) := hD
        exact hret v_6 () r_9 _ _ _ _ rfl h hP hD hS d_X_least_53
      · have h := h.1 c_5
        refine lv_iconst (v := (-1)) hx hb d_X_least_26 (by decide) ?_
        exact hret au_costs_table () (-1) _ _ _ _ rfl h hP hD hS d_X_least_27
abbrev W_X_walk (cI cC cB : ClassId) (qu : Nat) (qu_result : Nat) (qu_result_walkBackwards : Nat) (qu_text : Nat) (qu_reading : Nat) (qu_costs : Nat) (qu_told : Nat) (qu_graph : Nat) (qu_spare : Nat) (qu_result_sides : Nat) (qu_result_editsBackwards : Nat) (fu_result_found : Int32) (fu_result_cost : Int32) (fu_result_walkLength : Int32) (fu_result_editCount : Int32) (fu_result_sideCount : Int32) (fu_result_basesLeft : Int32) (fu_result_place : Int32) (au_result_walkBackwards : Nat → Int32) : va_W := [(qu, .inr (0, [.ref qu_text, .ref qu_reading, .ref qu_costs, .ref qu_result, .ref qu_told, .ref qu_graph, .ref qu_spare])), (qu_result, .inr (4, [.int fu_result_found, .int fu_result_cost, .int fu_result_walkLength, .int fu_result_editCount, .int fu_result_sideCount, .ref qu_result_sides, .ref qu_result_walkBackwards, .ref qu_result_editsBackwards, .int fu_result_basesLeft, .int fu_result_place])), (qu_result_walkBackwards, .inl (cI, 25, .inl au_result_walkBackwards))]
def wp_X_walk (Q : Int32 → Unit → Prop) (p1 : Int32) (fu_result_found : Int32) (fu_result_walkLength : Int32) (au_result_walkBackwards : Nat → Int32) : Prop := ((fu_result_found = 0 → (Q (-1) ())) ∧ (¬ fu_result_found = 0 → (((p1 < 0 → (Q (-1) ())) ∧ (¬ p1 < 0 → (((fu_result_walkLength ≤ p1 → (Q (-1) ())) ∧ (¬ fu_result_walkLength ≤ p1 → (wp_Rs_placeAt (fun r_5 v_4 => Q r_5 ()) p1 fu_result_walkLength au_result_walkBackwards)))))))))
abbrev rm_X_walk : Room := { frames := 1, cells := 0, slots := 0, locals := 21 }
set_option maxHeartbeats 4000000 in
set_option maxRecDepth 100000 in
theorem k_X_walk (l : Launch) (dC : Nat → ClassId) (dI : Nat → Nat → Nat) (cI cC cB : ClassId) (sz : Nat) (qu : Nat) (qu_result : Nat) (qu_result_walkBackwards : Nat) (qu_text : Nat) (qu_reading : Nat) (qu_costs : Nat) (qu_told : Nat) (qu_graph : Nat) (qu_spare : Nat) (qu_result_sides : Nat) (qu_result_editsBackwards : Nat) (fu_result_found : Int32) (fu_result_cost : Int32) (fu_result_walkLength : Int32) (fu_result_editCount : Int32) (fu_result_sideCount : Int32) (fu_result_basesLeft : Int32) (fu_result_place : Int32) (au_result_walkBackwards : Nat → Int32) (p1 : Int32) {Q : Int32 → Unit → Prop} (h : wp_X_walk Q p1 fu_result_found fu_result_walkLength au_result_walkBackwards) :
    CTi l y_X_walk (wM y_X_walk c_X_walk 2 (some .int)) rm_X_walk 0 0 (dC, dI) (tysL cI cC cB) [.ref qu, .int p1] (W_X_walk cI cC cB qu qu_result qu_result_walkBackwards qu_text qu_reading qu_costs qu_told qu_graph qu_spare qu_result_sides qu_result_editsBackwards fu_result_found fu_result_cost fu_result_walkLength fu_result_editCount fu_result_sideCount fu_result_basesLeft fu_result_place au_result_walkBackwards) sz Q (fun (v : Unit) (_ : Unit) => (W_X_walk cI cC cB qu qu_result qu_result_walkBackwards qu_text qu_reading qu_costs qu_told qu_graph qu_spare qu_result_sides qu_result_editsBackwards fu_result_found fu_result_cost fu_result_walkLength fu_result_editCount fu_result_sideCount fu_result_basesLeft fu_result_place au_result_walkBackwards)) := by
  refine CTi.std (by decide) (Nat.le_of_ble_eq_true rfl) ?_
  intro p e s m args below meth c A ls QF C0 hP hD hl hS hsz hret
  obtain ⟨hx, hb, hr, hml, hown, hts, hlocks, hN, hA, hK, hnm⟩ := id C0
  have hown : s.vm.findClass R_X = some m.cls := hown
  have hl : lv_has ls 2 [(0, .ref qu), (1, .int p1)] := hl
  clear hsz
  unfold wp_X_walk at h
  refine lv_aload_n hx hb d_X_walk_0 rfl (lv_at hl 0 rfl) ?_
  refine va_get (D := (dC, dI)) (ci := 0) (v := .ref qu_result) (C := R_X) (T := T_X) (N := 7) hx hb hts in_X hown hK hP 0 rfl rfl 3 (by decide) (hts _ w_185) (fun _ h9 => h9) rfl d_X_walk_1 ?_
  refine va_get (D := (dC, dI)) (ci := 4) (v := .int fu_result_found) (C := R_Rs) (T := T_Rs) (N := 10) hx hb hts in_Rs hown hK hP 1 rfl rfl 0 (by decide) (hts _ w_252) (fun _ h9 => h9) rfl d_X_walk_4 ?_
  refine lv_if_eq (tgt := 36) hx hb d_X_walk_7 (by decide) (fun c_1 => ?_) (fun c_1 => ?_)
  · have h := h.1 c_1
    refine lv_iconst (v := (-1)) hx hb d_X_walk_36 (by decide) ?_
    exact hret () () (-1) _ _ _ _ rfl h hP hD hS d_X_walk_37
  · have h := h.2 c_1
    refine lv_iload_n hx hb d_X_walk_10 rfl (lv_at hl 1 rfl) ?_
    refine lv_if_lt (tgt := 36) hx hb d_X_walk_11 (by decide) (fun c_2 => ?_) (fun c_2 => ?_)
    · have h := h.1 c_2
      refine lv_iconst (v := (-1)) hx hb d_X_walk_36 (by decide) ?_
      exact hret () () (-1) _ _ _ _ rfl h hP hD hS d_X_walk_37
    · have h := h.2 c_2
      refine lv_iload_n hx hb d_X_walk_14 rfl (lv_at hl 1 rfl) ?_
      refine lv_aload_n hx hb d_X_walk_15 rfl (lv_at hl 0 rfl) ?_
      refine va_get (D := (dC, dI)) (ci := 0) (v := .ref qu_result) (C := R_X) (T := T_X) (N := 7) hx hb hts in_X hown hK hP 0 rfl rfl 3 (by decide) (hts _ w_185) (fun _ h9 => h9) rfl d_X_walk_16 ?_
      refine va_get (D := (dC, dI)) (ci := 4) (v := .int fu_result_walkLength) (C := R_Rs) (T := T_Rs) (N := 10) hx hb hts in_Rs hown hK hP 1 rfl rfl 2 (by decide) (hts _ w_253) (fun _ h9 => h9) rfl d_X_walk_19 ?_
      refine lv_icmp_ge (tgt := 36) hx hb d_X_walk_22 (by decide) (fun c_3 => ?_) (fun c_3 => ?_)
      · have h := h.1 c_3
        refine lv_iconst (v := (-1)) hx hb d_X_walk_36 (by decide) ?_
        exact hret () () (-1) _ _ _ _ rfl h hP hD hS d_X_walk_37
      · have h := h.2 c_3
        refine lv_aload_n hx hb d_X_walk_25 rfl (lv_at hl 0 rfl) ?_
        refine va_get (D := (dC, dI)) (ci := 0) (v := .ref qu_result) (C := R_X) (T := T_X) (N := 7) hx hb hts in_X hown hK hP 0 rfl rfl 3 (by decide) (hts _ w_185) (fun _ h9 => h9) rfl d_X_walk_26 ?_
        refine lv_iload_n hx hb d_X_walk_29 rfl (lv_at hl 1 rfl) ?_
        refine call_V_i (As := [.int p1]) (rest := []) C0 hP hD hS [1, 2] [0] [0, 1, 2] [(qu, .inr (0, [.ref qu_text, .ref qu_reading, .ref qu_costs, .ref qu_result, .ref qu_told, .ref qu_graph, .ref qu_spare]))] (fun (v : Unit) (_ : Unit) => (W_X_walk cI cC cB qu qu_result qu_result_walkBackwards qu_text qu_reading qu_costs qu_told qu_graph qu_spare qu_result_sides qu_result_editsBackwards fu_result_found fu_result_cost fu_result_walkLength fu_result_editCount fu_result_sideCount fu_result_basesLeft fu_result_place au_result_walkBackwards)) (ci := 4) rfl rfl (k_Rs_placeAt l dC dI cI cC cB _ qu_result qu_result_walkBackwards qu_result_sides qu_result_editsBackwards fu_result_found fu_result_cost fu_result_walkLength fu_result_editCount fu_result_sideCount fu_result_basesLeft fu_result_place au_result_walkBackwards p1 h) (g_V w_254 w_197 w_198 w_199 w_195) 1 rfl (by decide +kernel) rfl rfl ⟨Nat.le_of_ble_eq_true rfl, Nat.le_of_ble_eq_true rfl⟩ rfl rfl (by decide) (by decide) (by decide) (by decide) (fun _ _ => rfl) hl.1 rfl (Nat.le_of_ble_eq_true rfl) d_X_walk_30 ⟨Nat.le_of_ble_eq_true rfl, Nat.le_of_ble_eq_true rfl⟩ (fun r_5 v_4 _ H locs h hP hD hS => ?_)
        have hP : va_P (dC, dI) cls (W_X_walk cI cC cB qu qu_result qu_result_walkBackwards qu_text qu_reading qu_costs qu_told qu_graph qu_spare qu_result_sides qu_result_editsBackwards fu_result_found fu_result_cost fu_result_walkLength fu_result_editCount fu_result_sideCount fu_result_basesLeft fu_result_place au_result_walkBackwards) H := hP
        have hD : va_D A (W_X_walk cI cC cB qu qu_result qu_result_walkBackwards qu_text qu_reading qu_costs qu_told qu_graph qu_spare qu_result_sides qu_result_editsBackwards fu_result_found fu_result_cost fu_result_walkLength fu_result_editCount fu_result_sideCount fu_result_basesLeft fu_result_place au_result_walkBackwards) := hD
        refine lv_goto (tgt := 37) hx hb d_X_walk_33 (by decide) ?_
        exact hret () () r_5 _ _ _ _ rfl h hP hD hS d_X_walk_37
abbrev W_Rs_editAt (cI cC cB : ClassId) (qu : Nat) (qu_editsBackwards : Nat) (qu_sides : Nat) (qu_walkBackwards : Nat) (fu_found : Int32) (fu_cost : Int32) (fu_walkLength : Int32) (fu_editCount : Int32) (fu_sideCount : Int32) (fu_basesLeft : Int32) (fu_place : Int32) (au_editsBackwards : Nat → Int32) : va_W := [(qu, .inr (4, [.int fu_found, .int fu_cost, .int fu_walkLength, .int fu_editCount, .int fu_sideCount, .ref qu_sides, .ref qu_walkBackwards, .ref qu_editsBackwards, .int fu_basesLeft, .int fu_place])), (qu_editsBackwards, .inl (cC, 25, .inl au_editsBackwards))]
def wp_Rs_editAt (Q : Int32 → Unit → Prop) (p1 : Int32) (fu_editCount : Int32) (au_editsBackwards : Nat → Int32) : Prop := ∀ x_1 : Int32, x_1 = (fu_editCount - 1) - p1 → (vp_in x_1 25 ∧ (∀ y_3 : Int32, y_3 = au_editsBackwards x_1.toNatClampNeg → ((narrow .char (.int y_3) = .int y_3 ∧ Q y_3 ()))))
abbrev rm_Rs_editAt : Room := { frames := 0, cells := 0, slots := 0, locals := 0 }
set_option maxHeartbeats 4000000 in
set_option maxRecDepth 100000 in
theorem k_Rs_editAt (l : Launch) (dC : Nat → ClassId) (dI : Nat → Nat → Nat) (cI cC cB : ClassId) (sz : Nat) (qu : Nat) (qu_editsBackwards : Nat) (qu_sides : Nat) (qu_walkBackwards : Nat) (fu_found : Int32) (fu_cost : Int32) (fu_walkLength : Int32) (fu_editCount : Int32) (fu_sideCount : Int32) (fu_basesLeft : Int32) (fu_place : Int32) (au_editsBackwards : Nat → Int32) (p1 : Int32) {Q : Int32 → Unit → Prop} (h : wp_Rs_editAt Q p1 fu_editCount au_editsBackwards) :
    CTi l y_Rs_editAt (wM y_Rs_editAt c_Rs_editAt 2 (some .char)) rm_Rs_editAt 0 0 (dC, dI) (tysL cI cC cB) [.ref qu, .int p1] (W_Rs_editAt cI cC cB qu qu_editsBackwards qu_sides qu_walkBackwards fu_found fu_cost fu_walkLength fu_editCount fu_sideCount fu_basesLeft fu_place au_editsBackwards) sz Q (fun (v : Unit) (_ : Unit) => (W_Rs_editAt cI cC cB qu qu_editsBackwards qu_sides qu_walkBackwards fu_found fu_cost fu_walkLength fu_editCount fu_sideCount fu_basesLeft fu_place au_editsBackwards)) := by
  refine CTi.std (by decide) (Nat.le_of_ble_eq_true rfl) ?_
  intro p e s m args below meth c A ls QF C0 hP hD hl hS hsz hret
  obtain ⟨hx, hb, hr, hml, hown, hts, hlocks, hN, hA, hK, hnm⟩ := id C0
  have hown : s.vm.findClass R_Rs = some m.cls := hown
  have hl : lv_has ls 2 [(0, .ref qu), (1, .int p1)] := hl
  clear hsz
  unfold wp_Rs_editAt at h
  refine lv_aload_n hx hb d_Rs_editAt_0 rfl (lv_at hl 0 rfl) ?_
  refine va_get (D := (dC, dI)) (ci := 4) (v := .ref qu_editsBackwards) (C := R_Rs) (T := T_Rs) (N := 10) hx hb hts in_Rs hown hK hP 0 rfl rfl 7 (by decide) (hts _ w_206) (fun _ h9 => h9) rfl d_Rs_editAt_1 ?_
  refine lv_aload_n hx hb d_Rs_editAt_4 rfl (lv_at hl 0 rfl) ?_
  refine va_get (D := (dC, dI)) (ci := 4) (v := .int fu_editCount) (C := R_Rs) (T := T_Rs) (N := 10) hx hb hts in_Rs hown hK hP 0 rfl rfl 3 (by decide) (hts _ w_205) (fun _ h9 => h9) rfl d_Rs_editAt_5 ?_
  refine lv_iconst (v := 1) hx hb d_Rs_editAt_8 (by decide) ?_
  refine lv_isub hx hb d_Rs_editAt_9 ?_
  refine lv_iload_n hx hb d_Rs_editAt_10 rfl (lv_at hl 1 rfl) ?_
  refine lv_isub hx hb d_Rs_editAt_11 ?_
  refine lv_topi (fun x_1 ex_1 => ?_)
  have h := h x_1 ex_1
  have hi_2 := h.1
  have h := h.2
  refine va_cald hx hb hK hP 1 1 rfl rfl hi_2 d_Rs_editAt_12 ?_
  refine lv_topi (fun y_3 ey_3 => ?_)
  have h := h y_3 ey_3
  exact hret () () y_3 _ _ _ _ h.1 h.2 hP hD hS d_Rs_editAt_13
abbrev W_X_edit (cI cC cB : ClassId) (qu : Nat) (qu_result : Nat) (qu_result_editsBackwards : Nat) (qu_text : Nat) (qu_reading : Nat) (qu_costs : Nat) (qu_told : Nat) (qu_graph : Nat) (qu_spare : Nat) (qu_result_sides : Nat) (qu_result_walkBackwards : Nat) (fu_result_found : Int32) (fu_result_cost : Int32) (fu_result_walkLength : Int32) (fu_result_editCount : Int32) (fu_result_sideCount : Int32) (fu_result_basesLeft : Int32) (fu_result_place : Int32) (au_result_editsBackwards : Nat → Int32) : va_W := [(qu, .inr (0, [.ref qu_text, .ref qu_reading, .ref qu_costs, .ref qu_result, .ref qu_told, .ref qu_graph, .ref qu_spare])), (qu_result, .inr (4, [.int fu_result_found, .int fu_result_cost, .int fu_result_walkLength, .int fu_result_editCount, .int fu_result_sideCount, .ref qu_result_sides, .ref qu_result_walkBackwards, .ref qu_result_editsBackwards, .int fu_result_basesLeft, .int fu_result_place])), (qu_result_editsBackwards, .inl (cC, 25, .inl au_result_editsBackwards))]
def wp_X_edit (Q : Int32 → Unit → Prop) (p1 : Int32) (fu_result_found : Int32) (fu_result_editCount : Int32) (au_result_editsBackwards : Nat → Int32) : Prop := ((fu_result_found = 0 → (Q (-1) ())) ∧ (¬ fu_result_found = 0 → (((p1 < 0 → (Q (-1) ())) ∧ (¬ p1 < 0 → (((fu_result_editCount ≤ p1 → (Q (-1) ())) ∧ (¬ fu_result_editCount ≤ p1 → (wp_Rs_editAt (fun r_5 v_4 => Q r_5 ()) p1 fu_result_editCount au_result_editsBackwards)))))))))
abbrev rm_X_edit : Room := { frames := 1, cells := 0, slots := 0, locals := 21 }
set_option maxHeartbeats 4000000 in
set_option maxRecDepth 100000 in
theorem k_X_edit (l : Launch) (dC : Nat → ClassId) (dI : Nat → Nat → Nat) (cI cC cB : ClassId) (sz : Nat) (qu : Nat) (qu_result : Nat) (qu_result_editsBackwards : Nat) (qu_text : Nat) (qu_reading : Nat) (qu_costs : Nat) (qu_told : Nat) (qu_graph : Nat) (qu_spare : Nat) (qu_result_sides : Nat) (qu_result_walkBackwards : Nat) (fu_result_found : Int32) (fu_result_cost : Int32) (fu_result_walkLength : Int32) (fu_result_editCount : Int32) (fu_result_sideCount : Int32) (fu_result_basesLeft : Int32) (fu_result_place : Int32) (au_result_editsBackwards : Nat → Int32) (p1 : Int32) {Q : Int32 → Unit → Prop} (h : wp_X_edit Q p1 fu_result_found fu_result_editCount au_result_editsBackwards) :
    CTi l y_X_edit (wM y_X_edit c_X_edit 2 (some .int)) rm_X_edit 0 0 (dC, dI) (tysL cI cC cB) [.ref qu, .int p1] (W_X_edit cI cC cB qu qu_result qu_result_editsBackwards qu_text qu_reading qu_costs qu_told qu_graph qu_spare qu_result_sides qu_result_walkBackwards fu_result_found fu_result_cost fu_result_walkLength fu_result_editCount fu_result_sideCount fu_result_basesLeft fu_result_place au_result_editsBackwards) sz Q (fun (v : Unit) (_ : Unit) => (W_X_edit cI cC cB qu qu_result qu_result_editsBackwards qu_text qu_reading qu_costs qu_told qu_graph qu_spare qu_result_sides qu_result_walkBackwards fu_result_found fu_result_cost fu_result_walkLength fu_result_editCount fu_result_sideCount fu_result_basesLeft fu_result_place au_result_editsBackwards)) := by
  refine CTi.std (by decide) (Nat.le_of_ble_eq_true rfl) ?_
  intro p e s m args below meth c A ls QF C0 hP hD hl hS hsz hret
  obtain ⟨hx, hb, hr, hml, hown, hts, hlocks, hN, hA, hK, hnm⟩ := id C0
  have hown : s.vm.findClass R_X = some m.cls := hown
  have hl : lv_has ls 2 [(0, .ref qu), (1, .int p1)] := hl
  clear hsz
  unfold wp_X_edit at h
  refine lv_aload_n hx hb d_X_edit_0 rfl (lv_at hl 0 rfl) ?_
  refine va_get (D := (dC, dI)) (ci := 0) (v := .ref qu_result) (C := R_X) (T := T_X) (N := 7) hx hb hts in_X hown hK hP 0 rfl rfl 3 (by decide) (hts _ w_185) (fun _ h9 => h9) rfl d_X_edit_1 ?_
  refine va_get (D := (dC, dI)) (ci := 4) (v := .int fu_result_found) (C := R_Rs) (T := T_Rs) (N := 10) hx hb hts in_Rs hown hK hP 1 rfl rfl 0 (by decide) (hts _ w_252) (fun _ h9 => h9) rfl d_X_edit_4 ?_
  refine lv_if_eq (tgt := 36) hx hb d_X_edit_7 (by decide) (fun c_1 => ?_) (fun c_1 => ?_)
  · have h := h.1 c_1
    refine lv_iconst (v := (-1)) hx hb d_X_edit_36 (by decide) ?_
    exact hret () () (-1) _ _ _ _ rfl h hP hD hS d_X_edit_37
  · have h := h.2 c_1
    refine lv_iload_n hx hb d_X_edit_10 rfl (lv_at hl 1 rfl) ?_
    refine lv_if_lt (tgt := 36) hx hb d_X_edit_11 (by decide) (fun c_2 => ?_) (fun c_2 => ?_)
    · have h := h.1 c_2
      refine lv_iconst (v := (-1)) hx hb d_X_edit_36 (by decide) ?_
      exact hret () () (-1) _ _ _ _ rfl h hP hD hS d_X_edit_37
    · have h := h.2 c_2
      refine lv_iload_n hx hb d_X_edit_14 rfl (lv_at hl 1 rfl) ?_
      refine lv_aload_n hx hb d_X_edit_15 rfl (lv_at hl 0 rfl) ?_
      refine va_get (D := (dC, dI)) (ci := 0) (v := .ref qu_result) (C := R_X) (T := T_X) (N := 7) hx hb hts in_X hown hK hP 0 rfl rfl 3 (by decide) (hts _ w_185) (fun _ h9 => h9) rfl d_X_edit_16 ?_
      refine va_get (D := (dC, dI)) (ci := 4) (v := .int fu_result_editCount) (C := R_Rs) (T := T_Rs) (N := 10) hx hb hts in_Rs hown hK hP 1 rfl rfl 3 (by decide) (hts _ w_255) (fun _ h9 => h9) rfl d_X_edit_19 ?_
      refine lv_icmp_ge (tgt := 36) hx hb d_X_edit_22 (by decide) (fun c_3 => ?_) (fun c_3 => ?_)
      · have h := h.1 c_3
        refine lv_iconst (v := (-1)) hx hb d_X_edit_36 (by decide) ?_
        exact hret () () (-1) _ _ _ _ rfl h hP hD hS d_X_edit_37
      · have h := h.2 c_3
        refine lv_aload_n hx hb d_X_edit_25 rfl (lv_at hl 0 rfl) ?_
        refine va_get (D := (dC, dI)) (ci := 0) (v := .ref qu_result) (C := R_X) (T := T_X) (N := 7) hx hb hts in_X hown hK hP 0 rfl rfl 3 (by decide) (hts _ w_185) (fun _ h9 => h9) rfl d_X_edit_26 ?_
        refine lv_iload_n hx hb d_X_edit_29 rfl (lv_at hl 1 rfl) ?_
        refine call_V_i (As := [.int p1]) (rest := []) C0 hP hD hS [1, 2] [0] [0, 1, 2] [(qu, .inr (0, [.ref qu_text, .ref qu_reading, .ref qu_costs, .ref qu_result, .ref qu_told, .ref qu_graph, .ref qu_spare]))] (fun (v : Unit) (_ : Unit) => (W_X_edit cI cC cB qu qu_result qu_result_editsBackwards qu_text qu_reading qu_costs qu_told qu_graph qu_spare qu_result_sides qu_result_walkBackwards fu_result_found fu_result_cost fu_result_walkLength fu_result_editCount fu_result_sideCount fu_result_basesLeft fu_result_place au_result_editsBackwards)) (ci := 4) rfl rfl (k_Rs_editAt l dC dI cI cC cB _ qu_result qu_result_editsBackwards qu_result_sides qu_result_walkBackwards fu_result_found fu_result_cost fu_result_walkLength fu_result_editCount fu_result_sideCount fu_result_basesLeft fu_result_place au_result_editsBackwards p1 h) (g_V w_257 w_258 w_259 w_199 w_256) 1 rfl (by decide +kernel) rfl rfl ⟨Nat.le_of_ble_eq_true rfl, Nat.le_of_ble_eq_true rfl⟩ rfl rfl (by decide) (by decide) (by decide) (by decide) (fun _ _ => rfl) hl.1 rfl (Nat.le_of_ble_eq_true rfl) d_X_edit_30 ⟨Nat.le_of_ble_eq_true rfl, Nat.le_of_ble_eq_true rfl⟩ (fun r_5 v_4 _ H locs h hP hD hS => ?_)
        have hP : va_P (dC, dI) cls (W_X_edit cI cC cB qu qu_result qu_result_editsBackwards qu_text qu_reading qu_costs qu_told qu_graph qu_spare qu_result_sides qu_result_walkBackwards fu_result_found fu_result_cost fu_result_walkLength fu_result_editCount fu_result_sideCount fu_result_basesLeft fu_result_place au_result_editsBackwards) H := hP
        have hD : va_D A (W_X_edit cI cC cB qu qu_result qu_result_editsBackwards qu_text qu_reading qu_costs qu_told qu_graph qu_spare qu_result_sides qu_result_walkBackwards fu_result_found fu_result_cost fu_result_walkLength fu_result_editCount fu_result_sideCount fu_result_basesLeft fu_result_place au_result_editsBackwards) := hD
        refine lv_goto (tgt := 37) hx hb d_X_edit_33 (by decide) ?_
        exact hret () () r_5 _ _ _ _ rfl h hP hD hS d_X_edit_37
abbrev W_X_liesForwards (cI cC cB : ClassId) (qu : Nat) (qu_result : Nat) (qu_result_sides : Nat) (qu_graph : Nat) (qu_graph_steps : Nat) (qu_text : Nat) (qu_reading : Nat) (qu_costs : Nat) (qu_told : Nat) (qu_spare : Nat) (qu_result_walkBackwards : Nat) (qu_result_editsBackwards : Nat) (qu_graph_segmentNames : Nat) (qu_graph_sideStarts : Nat) (qu_graph_placeBases : Nat) (qu_graph_placeSides : Nat) (qu_graph_followers : Nat) (qu_graph_pathNames : Nat) (qu_graph_stepCounts : Nat) (qu_graph_joinFrom : Nat) (qu_graph_joinTo : Nat) (fu_result_found : Int32) (fu_result_cost : Int32) (fu_result_walkLength : Int32) (fu_result_editCount : Int32) (fu_result_sideCount : Int32) (fu_result_basesLeft : Int32) (fu_result_place : Int32) (au_result_sides : Nat → Int32) (fu_graph_segments : Int32) (fu_graph_links : Int32) (fu_graph_paths : Int32) (fu_graph_places : Int32) (fu_graph_joins : Int32) (au_graph_steps : Nat → Int32) : va_W := [(qu, .inr (0, [.ref qu_text, .ref qu_reading, .ref qu_costs, .ref qu_result, .ref qu_told, .ref qu_graph, .ref qu_spare])), (qu_result, .inr (4, [.int fu_result_found, .int fu_result_cost, .int fu_result_walkLength, .int fu_result_editCount, .int fu_result_sideCount, .ref qu_result_sides, .ref qu_result_walkBackwards, .ref qu_result_editsBackwards, .int fu_result_basesLeft, .int fu_result_place])), (qu_result_sides, .inl (cI, 25, .inl au_result_sides)), (qu_graph, .inr (5, [.int fu_graph_segments, .int fu_graph_links, .int fu_graph_paths, .int fu_graph_places, .int fu_graph_joins, .ref qu_graph_segmentNames, .ref qu_graph_sideStarts, .ref qu_graph_placeBases, .ref qu_graph_placeSides, .ref qu_graph_followers, .ref qu_graph_pathNames, .ref qu_graph_stepCounts, .ref qu_graph_steps, .ref qu_graph_joinFrom, .ref qu_graph_joinTo])), (qu_graph_steps, .inl (cI, 32, .inl au_graph_steps))]
def w_X_liesForwards_2B (Q : Int32 → Unit → Prop)  (K_2 : Int32 → Prop) (p1 : Int32) (fu_result_sideCount : Int32) (au_result_sides : Nat → Int32) (au_graph_steps : Nat → Int32) (x2 : Int32) : Prop := ((fu_result_sideCount ≤ x2 → (Q 1 ())) ∧ (¬ fu_result_sideCount ≤ x2 → (∀ x_2 : Int32, x_2 = p1 + x2 → (vp_in x_2 32 ∧ (∀ y_4 : Int32, y_4 = au_graph_steps x_2.toNatClampNeg → (vp_in x2 25 ∧ (∀ y_6 : Int32, y_6 = au_result_sides x2.toNatClampNeg → (((y_4 = y_6 → (∀ x2_8 : Int32, x2_8 = x2 + 1 → (K_2 x2_8))) ∧ (¬ y_4 = y_6 → (Q 0 ())))))))))))
def w_X_liesForwards_2 (Q : Int32 → Unit → Prop)  (p1 : Int32) (fu_result_sideCount : Int32) (au_result_sides : Nat → Int32) (au_graph_steps : Nat → Int32) : Nat → Int32 → Prop
  | 0 => fun _ => False
  | n + 1 => fun x2 => w_X_liesForwards_2B Q  (w_X_liesForwards_2 Q  p1 fu_result_sideCount au_result_sides au_graph_steps n) p1 fu_result_sideCount au_result_sides au_graph_steps x2
def wp_X_liesForwards (Q : Int32 → Unit → Prop) (p1 : Int32) (fu_result_sideCount : Int32) (au_result_sides : Nat → Int32) (au_graph_steps : Nat → Int32) : Prop := ∃ fu_2 : Nat, w_X_liesForwards_2 Q p1 fu_result_sideCount au_result_sides au_graph_steps fu_2 0
abbrev rm_X_liesForwards : Room := { frames := 0, cells := 0, slots := 0, locals := 0 }
set_option maxHeartbeats 4000000 in
set_option maxRecDepth 100000 in
theorem k_X_liesForwards (l : Launch) (dC : Nat → ClassId) (dI : Nat → Nat → Nat) (cI cC cB : ClassId) (sz : Nat) (qu : Nat) (qu_result : Nat) (qu_result_sides : Nat) (qu_graph : Nat) (qu_graph_steps : Nat) (qu_text : Nat) (qu_reading : Nat) (qu_costs : Nat) (qu_told : Nat) (qu_spare : Nat) (qu_result_walkBackwards : Nat) (qu_result_editsBackwards : Nat) (qu_graph_segmentNames : Nat) (qu_graph_sideStarts : Nat) (qu_graph_placeBases : Nat) (qu_graph_placeSides : Nat) (qu_graph_followers : Nat) (qu_graph_pathNames : Nat) (qu_graph_stepCounts : Nat) (qu_graph_joinFrom : Nat) (qu_graph_joinTo : Nat) (fu_result_found : Int32) (fu_result_cost : Int32) (fu_result_walkLength : Int32) (fu_result_editCount : Int32) (fu_result_sideCount : Int32) (fu_result_basesLeft : Int32) (fu_result_place : Int32) (au_result_sides : Nat → Int32) (fu_graph_segments : Int32) (fu_graph_links : Int32) (fu_graph_paths : Int32) (fu_graph_places : Int32) (fu_graph_joins : Int32) (au_graph_steps : Nat → Int32) (p1 : Int32) {Q : Int32 → Unit → Prop} (h : wp_X_liesForwards Q p1 fu_result_sideCount au_result_sides au_graph_steps) :
    CTi l y_X_liesForwards (wM y_X_liesForwards c_X_liesForwards 3 (some .boolean)) rm_X_liesForwards 0 0 (dC, dI) (tysL cI cC cB) [.ref qu, .int p1] (W_X_liesForwards cI cC cB qu qu_result qu_result_sides qu_graph qu_graph_steps qu_text qu_reading qu_costs qu_told qu_spare qu_result_walkBackwards qu_result_editsBackwards qu_graph_segmentNames qu_graph_sideStarts qu_graph_placeBases qu_graph_placeSides qu_graph_followers qu_graph_pathNames qu_graph_stepCounts qu_graph_joinFrom qu_graph_joinTo fu_result_found fu_result_cost fu_result_walkLength fu_result_editCount fu_result_sideCount fu_result_basesLeft fu_result_place au_result_sides fu_graph_segments fu_graph_links fu_graph_paths fu_graph_places fu_graph_joins au_graph_steps) sz Q (fun (v : Unit) (_ : Unit) => (W_X_liesForwards cI cC cB qu qu_result qu_result_sides qu_graph qu_graph_steps qu_text qu_reading qu_costs qu_told qu_spare qu_result_walkBackwards qu_result_editsBackwards qu_graph_segmentNames qu_graph_sideStarts qu_graph_placeBases qu_graph_placeSides qu_graph_followers qu_graph_pathNames qu_graph_stepCounts qu_graph_joinFrom qu_graph_joinTo fu_result_found fu_result_cost fu_result_walkLength fu_result_editCount fu_result_sideCount fu_result_basesLeft fu_result_place au_result_sides fu_graph_segments fu_graph_links fu_graph_paths fu_graph_places fu_graph_joins au_graph_steps)) := by
  refine CTi.std (by decide) (Nat.le_of_ble_eq_true rfl) ?_
  intro p e s m args below meth c A ls QF C0 hP hD hl hS hsz hret
  obtain ⟨hx, hb, hr, hml, hown, hts, hlocks, hN, hA, hK, hnm⟩ := id C0
  have hown : s.vm.findClass R_X = some m.cls := hown
  have hl : lv_has ls 3 [(0, .ref qu), (1, .int p1)] := hl
  clear hsz
  have blk_2 : ∀  (n : Nat) (x2 : Int32) (H : Heap) (locs : List Loc) (ls : Array Slot), w_X_liesForwards_2 Q  p1 fu_result_sideCount au_result_sides au_graph_steps n x2 → va_P (dC, dI) cls (W_X_liesForwards cI cC cB qu qu_result qu_result_sides qu_graph qu_graph_steps qu_text qu_reading qu_costs qu_told qu_spare qu_result_walkBackwards qu_result_editsBackwards qu_graph_segmentNames qu_graph_sideStarts qu_graph_placeBases qu_graph_placeSides qu_graph_followers qu_graph_pathNames qu_graph_stepCounts qu_graph_joinFrom qu_graph_joinTo fu_result_found fu_result_cost fu_result_walkLength fu_result_editCount fu_result_sideCount fu_result_basesLeft fu_result_place au_result_sides fu_graph_segments fu_graph_links fu_graph_paths fu_graph_places fu_graph_joins au_graph_steps) H → va_D A (W_X_liesForwards cI cC cB qu qu_result qu_result_sides qu_graph qu_graph_steps qu_text qu_reading qu_costs qu_told qu_spare qu_result_walkBackwards qu_result_editsBackwards qu_graph_segmentNames qu_graph_sideStarts qu_graph_placeBases qu_graph_placeSides qu_graph_followers qu_graph_pathNames qu_graph_stepCounts qu_graph_joinFrom qu_graph_joinTo fu_result_found fu_result_cost fu_result_walkLength fu_result_editCount fu_result_sideCount fu_result_basesLeft fu_result_place au_result_sides fu_graph_segments fu_graph_links fu_graph_paths fu_graph_places fu_graph_joins au_graph_steps) → va_S A s.heap H locs → lv_has ls 3 [(0, .ref qu), (1, .int p1), (2, .int x2)] → W p l e rm_X_liesForwards s m args below meth c H locs 0 0 QF (F0 m 2 ls []) := by
    intro  n
    induction n with
    | zero => intro x2 H locs ls h; exact (show False from h).elim
    | succ n ih =>
      intro x2 H locs ls h hP hD hS hl
      have h : w_X_liesForwards_2B Q  (w_X_liesForwards_2 Q  p1 fu_result_sideCount au_result_sides au_graph_steps n) p1 fu_result_sideCount au_result_sides au_graph_steps x2 := h
      generalize w_X_liesForwards_2 Q  p1 fu_result_sideCount au_result_sides au_graph_steps n = K_2 at h ih
      unfold w_X_liesForwards_2B at h
      refine lv_iload_n hx hb d_X_liesForwards_2 rfl (lv_at hl 2 rfl) ?_
      refine lv_aload_n hx hb d_X_liesForwards_3 rfl (lv_at hl 0 rfl) ?_
      refine va_get (D := (dC, dI)) (ci := 0) (v := .ref qu_result) (C := R_X) (T := T_X) (N := 7) hx hb hts in_X hown hK hP 0 rfl rfl 3 (by decide) (hts _ w_185) (fun _ h9 => h9) rfl d_X_liesForwards_4 ?_
      refine va_get (D := (dC, dI)) (ci := 4) (v := .int fu_result_sideCount) (C := R_Rs) (T := T_Rs) (N := 10) hx hb hts in_Rs hown hK hP 1 rfl rfl 4 (by decide) (hts _ w_260) (fun _ h9 => h9) rfl d_X_liesForwards_7 ?_
      refine lv_icmp_ge (tgt := 44) hx hb d_X_liesForwards_10 (by decide) (fun c_1 => ?_) (fun c_1 => ?_)
      · have h := h.1 c_1
        refine lv_iconst (v := 1) hx hb d_X_liesForwards_44 (by decide) ?_
        exact hret () () 1 _ _ _ _ rfl h hP hD hS d_X_liesForwards_45
      · have h := h.2 c_1
        refine lv_aload_n hx hb d_X_liesForwards_13 rfl (lv_at hl 0 rfl) ?_
        refine va_get (D := (dC, dI)) (ci := 0) (v := .ref qu_graph) (C := R_X) (T := T_X) (N := 7) hx hb hts in_X hown hK hP 0 rfl rfl 5 (by decide) (hts _ w_126) (fun _ h9 => h9) rfl d_X_liesForwards_14 ?_
        refine va_get (D := (dC, dI)) (ci := 5) (v := .ref qu_graph_steps) (C := R_Gr) (T := T_Gr) (N := 15) hx hb hts in_Gr hown hK hP 3 rfl rfl 12 (by decide) (hts _ w_261) (fun _ h9 => h9) rfl d_X_liesForwards_17 ?_
        refine lv_iload_n hx hb d_X_liesForwards_20 rfl (lv_at hl 1 rfl) ?_
        refine lv_iload_n hx hb d_X_liesForwards_21 rfl (lv_at hl 2 rfl) ?_
        refine lv_iadd hx hb d_X_liesForwards_22 ?_
        refine lv_topi (fun x_2 ex_2 => ?_)
        have h := h x_2 ex_2
        have hi_3 := h.1
        have h := h.2
        refine va_iald hx hb hK hP 4 0 rfl rfl hi_3 d_X_liesForwards_23 ?_
        refine lv_topi (fun y_4 ey_4 => ?_)
        have h := h y_4 ey_4
        refine lv_aload_n hx hb d_X_liesForwards_24 rfl (lv_at hl 0 rfl) ?_
        refine va_get (D := (dC, dI)) (ci := 0) (v := .ref qu_result) (C := R_X) (T := T_X) (N := 7) hx hb hts in_X hown hK hP 0 rfl rfl 3 (by decide) (hts _ w_185) (fun _ h9 => h9) rfl d_X_liesForwards_25 ?_
        refine va_get (D := (dC, dI)) (ci := 4) (v := .ref qu_result_sides) (C := R_Rs) (T := T_Rs) (N := 10) hx hb hts in_Rs hown hK hP 1 rfl rfl 5 (by decide) (hts _ w_262) (fun _ h9 => h9) rfl d_X_liesForwards_28 ?_
        refine lv_iload_n hx hb d_X_liesForwards_31 rfl (lv_at hl 2 rfl) ?_
        have hi_5 := h.1
        have h := h.2
        refine va_iald hx hb hK hP 2 0 rfl rfl hi_5 d_X_liesForwards_32 ?_
        refine lv_topi (fun y_6 ey_6 => ?_)
        have h := h y_6 ey_6
        refine lv_icmp_eq (tgt := 38) hx hb d_X_liesForwards_33 (by decide) (fun c_7 => ?_) (fun c_7 => ?_)
        · have h := h.1 c_7
          obtain ⟨x2_8, ex2_8⟩ : ∃ y : Int32, y = x2 + 1 := ⟨_, rfl⟩
          have h := h x2_8 ex2_8
          refine lv_iinc (v := x2_8) (lv' := [(2, .int x2_8), (0, .ref qu), (1, .int p1)]) hx hb d_X_liesForwards_38 hl (k := 2) rfl (by rw [ex2_8]; rfl) (by decide) rfl (fun ls hl => ?_)
          refine lv_goto (tgt := 2) hx hb d_X_liesForwards_41 (by decide) ?_
          exact ih _ _ _ _ h hP hD hS (lv_sub hl [1, 2, 0] rfl)
        · have h := h.2 c_7
          refine lv_iconst (v := 0) hx hb d_X_liesForwards_36 (by decide) ?_
          exact hret () () 0 _ _ _ _ rfl h hP hD hS d_X_liesForwards_37
  unfold wp_X_liesForwards at h
  refine lv_iconst (v := 0) hx hb d_X_liesForwards_0 (by decide) ?_
  refine lv_istore_n (lv' := [(2, .int 0), (0, .ref qu), (1, .int p1)]) hx hb d_X_liesForwards_1 rfl hl (by decide) rfl (fun ls hl => ?_)
  obtain ⟨fu_2, h⟩ := h
  exact blk_2  _ _ _ _ _ h hP hD hS (lv_sub hl [1, 2, 0] rfl)
abbrev W_X_liesTurned (cI cC cB : ClassId) (qu : Nat) (qu_result : Nat) (qu_result_sides : Nat) (qu_graph : Nat) (qu_graph_steps : Nat) (qu_text : Nat) (qu_reading : Nat) (qu_costs : Nat) (qu_told : Nat) (qu_spare : Nat) (qu_result_walkBackwards : Nat) (qu_result_editsBackwards : Nat) (qu_graph_segmentNames : Nat) (qu_graph_sideStarts : Nat) (qu_graph_placeBases : Nat) (qu_graph_placeSides : Nat) (qu_graph_followers : Nat) (qu_graph_pathNames : Nat) (qu_graph_stepCounts : Nat) (qu_graph_joinFrom : Nat) (qu_graph_joinTo : Nat) (fu_result_found : Int32) (fu_result_cost : Int32) (fu_result_walkLength : Int32) (fu_result_editCount : Int32) (fu_result_sideCount : Int32) (fu_result_basesLeft : Int32) (fu_result_place : Int32) (au_result_sides : Nat → Int32) (fu_graph_segments : Int32) (fu_graph_links : Int32) (fu_graph_paths : Int32) (fu_graph_places : Int32) (fu_graph_joins : Int32) (au_graph_steps : Nat → Int32) : va_W := [(qu, .inr (0, [.ref qu_text, .ref qu_reading, .ref qu_costs, .ref qu_result, .ref qu_told, .ref qu_graph, .ref qu_spare])), (qu_result, .inr (4, [.int fu_result_found, .int fu_result_cost, .int fu_result_walkLength, .int fu_result_editCount, .int fu_result_sideCount, .ref qu_result_sides, .ref qu_result_walkBackwards, .ref qu_result_editsBackwards, .int fu_result_basesLeft, .int fu_result_place])), (qu_result_sides, .inl (cI, 25, .inl au_result_sides)), (qu_graph, .inr (5, [.int fu_graph_segments, .int fu_graph_links, .int fu_graph_paths, .int fu_graph_places, .int fu_graph_joins, .ref qu_graph_segmentNames, .ref qu_graph_sideStarts, .ref qu_graph_placeBases, .ref qu_graph_placeSides, .ref qu_graph_followers, .ref qu_graph_pathNames, .ref qu_graph_stepCounts, .ref qu_graph_steps, .ref qu_graph_joinFrom, .ref qu_graph_joinTo])), (qu_graph_steps, .inl (cI, 32, .inl au_graph_steps))]
def w_X_liesTurned_12B (Q : Int32 → Unit → Prop)  (K_12 : Int32 → Int32 → Prop) (p1 : Int32) (fu_result_sideCount : Int32) (au_result_sides : Nat → Int32) (au_graph_steps : Nat → Int32) (x2 : Int32) (x3 : Int32) : Prop := ((x2 < x3 → (Q 1 ())) ∧ (¬ x2 < x3 → (∀ x_2 : Int32, x_2 = p1 + x3 → (vp_in x_2 32 ∧ (∀ y_4 : Int32, y_4 = au_graph_steps x_2.toNatClampNeg → (∀ x_5 : Int32, x_5 = x2 - x3 → (vp_in x_5 25 ∧ (∀ y_7 : Int32, y_7 = au_result_sides x_5.toNatClampNeg → (wp_X_turned (fun r_9 v_8 => ((y_4 = r_9 → (∀ x3_11 : Int32, x3_11 = x3 + 1 → (K_12 x2 x3_11))) ∧ (¬ y_4 = r_9 → (Q 0 ())))) y_7)))))))))
def w_X_liesTurned_12 (Q : Int32 → Unit → Prop)  (p1 : Int32) (fu_result_sideCount : Int32) (au_result_sides : Nat → Int32) (au_graph_steps : Nat → Int32) : Nat → Int32 → Int32 → Prop
  | 0 => fun _ _ => False
  | n + 1 => fun x2 x3 => w_X_liesTurned_12B Q  (w_X_liesTurned_12 Q  p1 fu_result_sideCount au_result_sides au_graph_steps n) p1 fu_result_sideCount au_result_sides au_graph_steps x2 x3
def wp_X_liesTurned (Q : Int32 → Unit → Prop) (p1 : Int32) (fu_result_sideCount : Int32) (au_result_sides : Nat → Int32) (au_graph_steps : Nat → Int32) : Prop := ∀ x_12 : Int32, x_12 = fu_result_sideCount - 1 → (∃ fu_12 : Nat, w_X_liesTurned_12 Q p1 fu_result_sideCount au_result_sides au_graph_steps fu_12 x_12 0)
abbrev rm_X_liesTurned : Room := { frames := 1, cells := 0, slots := 0, locals := 20 }
set_option maxHeartbeats 4000000 in
set_option maxRecDepth 100000 in
theorem k_X_liesTurned (l : Launch) (dC : Nat → ClassId) (dI : Nat → Nat → Nat) (cI cC cB : ClassId) (sz : Nat) (qu : Nat) (qu_result : Nat) (qu_result_sides : Nat) (qu_graph : Nat) (qu_graph_steps : Nat) (qu_text : Nat) (qu_reading : Nat) (qu_costs : Nat) (qu_told : Nat) (qu_spare : Nat) (qu_result_walkBackwards : Nat) (qu_result_editsBackwards : Nat) (qu_graph_segmentNames : Nat) (qu_graph_sideStarts : Nat) (qu_graph_placeBases : Nat) (qu_graph_placeSides : Nat) (qu_graph_followers : Nat) (qu_graph_pathNames : Nat) (qu_graph_stepCounts : Nat) (qu_graph_joinFrom : Nat) (qu_graph_joinTo : Nat) (fu_result_found : Int32) (fu_result_cost : Int32) (fu_result_walkLength : Int32) (fu_result_editCount : Int32) (fu_result_sideCount : Int32) (fu_result_basesLeft : Int32) (fu_result_place : Int32) (au_result_sides : Nat → Int32) (fu_graph_segments : Int32) (fu_graph_links : Int32) (fu_graph_paths : Int32) (fu_graph_places : Int32) (fu_graph_joins : Int32) (au_graph_steps : Nat → Int32) (p1 : Int32) {Q : Int32 → Unit → Prop} (h : wp_X_liesTurned Q p1 fu_result_sideCount au_result_sides au_graph_steps) :
    CTi l y_X_liesTurned (wM y_X_liesTurned c_X_liesTurned 4 (some .boolean)) rm_X_liesTurned 0 0 (dC, dI) (tysL cI cC cB) [.ref qu, .int p1] (W_X_liesTurned cI cC cB qu qu_result qu_result_sides qu_graph qu_graph_steps qu_text qu_reading qu_costs qu_told qu_spare qu_result_walkBackwards qu_result_editsBackwards qu_graph_segmentNames qu_graph_sideStarts qu_graph_placeBases qu_graph_placeSides qu_graph_followers qu_graph_pathNames qu_graph_stepCounts qu_graph_joinFrom qu_graph_joinTo fu_result_found fu_result_cost fu_result_walkLength fu_result_editCount fu_result_sideCount fu_result_basesLeft fu_result_place au_result_sides fu_graph_segments fu_graph_links fu_graph_paths fu_graph_places fu_graph_joins au_graph_steps) sz Q (fun (v : Unit) (_ : Unit) => (W_X_liesTurned cI cC cB qu qu_result qu_result_sides qu_graph qu_graph_steps qu_text qu_reading qu_costs qu_told qu_spare qu_result_walkBackwards qu_result_editsBackwards qu_graph_segmentNames qu_graph_sideStarts qu_graph_placeBases qu_graph_placeSides qu_graph_followers qu_graph_pathNames qu_graph_stepCounts qu_graph_joinFrom qu_graph_joinTo fu_result_found fu_result_cost fu_result_walkLength fu_result_editCount fu_result_sideCount fu_result_basesLeft fu_result_place au_result_sides fu_graph_segments fu_graph_links fu_graph_paths fu_graph_places fu_graph_joins au_graph_steps)) := by
  refine CTi.std (by decide) (Nat.le_of_ble_eq_true rfl) ?_
  intro p e s m args below meth c A ls QF C0 hP hD hl hS hsz hret
  obtain ⟨hx, hb, hr, hml, hown, hts, hlocks, hN, hA, hK, hnm⟩ := id C0
  have hown : s.vm.findClass R_X = some m.cls := hown
  have hl : lv_has ls 4 [(0, .ref qu), (1, .int p1)] := hl
  clear hsz
  have blk_12 : ∀  (n : Nat) (x2 : Int32) (x3 : Int32) (H : Heap) (locs : List Loc) (ls : Array Slot), w_X_liesTurned_12 Q  p1 fu_result_sideCount au_result_sides au_graph_steps n x2 x3 → va_P (dC, dI) cls (W_X_liesTurned cI cC cB qu qu_result qu_result_sides qu_graph qu_graph_steps qu_text qu_reading qu_costs qu_told qu_spare qu_result_walkBackwards qu_result_editsBackwards qu_graph_segmentNames qu_graph_sideStarts qu_graph_placeBases qu_graph_placeSides qu_graph_followers qu_graph_pathNames qu_graph_stepCounts qu_graph_joinFrom qu_graph_joinTo fu_result_found fu_result_cost fu_result_walkLength fu_result_editCount fu_result_sideCount fu_result_basesLeft fu_result_place au_result_sides fu_graph_segments fu_graph_links fu_graph_paths fu_graph_places fu_graph_joins au_graph_steps) H → va_D A (W_X_liesTurned cI cC cB qu qu_result qu_result_sides qu_graph qu_graph_steps qu_text qu_reading qu_costs qu_told qu_spare qu_result_walkBackwards qu_result_editsBackwards qu_graph_segmentNames qu_graph_sideStarts qu_graph_placeBases qu_graph_placeSides qu_graph_followers qu_graph_pathNames qu_graph_stepCounts qu_graph_joinFrom qu_graph_joinTo fu_result_found fu_result_cost fu_result_walkLength fu_result_editCount fu_result_sideCount fu_result_basesLeft fu_result_place au_result_sides fu_graph_segments fu_graph_links fu_graph_paths fu_graph_places fu_graph_joins au_graph_steps) → va_S A s.heap H locs → lv_has ls 4 [(0, .ref qu), (1, .int p1), (2, .int x2), (3, .int x3)] → W p l e rm_X_liesTurned s m args below meth c H locs 0 0 QF (F0 m 12 ls []) := by
    intro  n
    induction n with
    | zero => intro x2 x3 H locs ls h; exact (show False from h).elim
    | succ n ih =>
      intro x2 x3 H locs ls h hP hD hS hl
      have h : w_X_liesTurned_12B Q  (w_X_liesTurned_12 Q  p1 fu_result_sideCount au_result_sides au_graph_steps n) p1 fu_result_sideCount au_result_sides au_graph_steps x2 x3 := h
      generalize w_X_liesTurned_12 Q  p1 fu_result_sideCount au_result_sides au_graph_steps n = K_12 at h ih
      unfold w_X_liesTurned_12B at h
      refine lv_iload_n hx hb d_X_liesTurned_12 rfl (lv_at hl 3 rfl) ?_
      refine lv_iload_n hx hb d_X_liesTurned_13 rfl (lv_at hl 2 rfl) ?_
      refine lv_icmp_gt (tgt := 53) hx hb d_X_liesTurned_14 (by decide) (fun c_1 => ?_) (fun c_1 => ?_)
      · have h := h.1 c_1
        refine lv_iconst (v := 1) hx hb d_X_liesTurned_53 (by decide) ?_
        exact hret () () 1 _ _ _ _ rfl h hP hD hS d_X_liesTurned_54
      · have h := h.2 c_1
        refine lv_aload_n hx hb d_X_liesTurned_17 rfl (lv_at hl 0 rfl) ?_
        refine va_get (D := (dC, dI)) (ci := 0) (v := .ref qu_graph) (C := R_X) (T := T_X) (N := 7) hx hb hts in_X hown hK hP 0 rfl rfl 5 (by decide) (hts _ w_126) (fun _ h9 => h9) rfl d_X_liesTurned_18 ?_
        refine va_get (D := (dC, dI)) (ci := 5) (v := .ref qu_graph_steps) (C := R_Gr) (T := T_Gr) (N := 15) hx hb hts in_Gr hown hK hP 3 rfl rfl 12 (by decide) (hts _ w_261) (fun _ h9 => h9) rfl d_X_liesTurned_21 ?_
        refine lv_iload_n hx hb d_X_liesTurned_24 rfl (lv_at hl 1 rfl) ?_
        refine lv_iload_n hx hb d_X_liesTurned_25 rfl (lv_at hl 3 rfl) ?_
        refine lv_iadd hx hb d_X_liesTurned_26 ?_
        refine lv_topi (fun x_2 ex_2 => ?_)
        have h := h x_2 ex_2
        have hi_3 := h.1
        have h := h.2
        refine va_iald hx hb hK hP 4 0 rfl rfl hi_3 d_X_liesTurned_27 ?_
        refine lv_topi (fun y_4 ey_4 => ?_)
        have h := h y_4 ey_4
        refine lv_aload_n hx hb d_X_liesTurned_28 rfl (lv_at hl 0 rfl) ?_
        refine va_get (D := (dC, dI)) (ci := 0) (v := .ref qu_result) (C := R_X) (T := T_X) (N := 7) hx hb hts in_X hown hK hP 0 rfl rfl 3 (by decide) (hts _ w_185) (fun _ h9 => h9) rfl d_X_liesTurned_29 ?_
        refine va_get (D := (dC, dI)) (ci := 4) (v := .ref qu_result_sides) (C := R_Rs) (T := T_Rs) (N := 10) hx hb hts in_Rs hown hK hP 1 rfl rfl 5 (by decide) (hts _ w_262) (fun _ h9 => h9) rfl d_X_liesTurned_32 ?_
        refine lv_iload_n hx hb d_X_liesTurned_35 rfl (lv_at hl 2 rfl) ?_
        refine lv_iload_n hx hb d_X_liesTurned_36 rfl (lv_at hl 3 rfl) ?_
        refine lv_isub hx hb d_X_liesTurned_37 ?_
        refine lv_topi (fun x_5 ex_5 => ?_)
        have h := h x_5 ex_5
        have hi_6 := h.1
        have h := h.2
        refine va_iald hx hb hK hP 2 0 rfl rfl hi_6 d_X_liesTurned_38 ?_
        refine lv_topi (fun y_7 ey_7 => ?_)
        have h := h y_7 ey_7
        refine call_S_i (As := [.int y_7]) (rest := [.int y_4]) C0 hP hD hS [] [0, 1, 2, 3, 4] [0, 1, 2, 3, 4] [(qu, .inr (0, [.ref qu_text, .ref qu_reading, .ref qu_costs, .ref qu_result, .ref qu_told, .ref qu_graph, .ref qu_spare])), (qu_result, .inr (4, [.int fu_result_found, .int fu_result_cost, .int fu_result_walkLength, .int fu_result_editCount, .int fu_result_sideCount, .ref qu_result_sides, .ref qu_result_walkBackwards, .ref qu_result_editsBackwards, .int fu_result_basesLeft, .int fu_result_place])), (qu_result_sides, .inl (cI, 25, .inl au_result_sides)), (qu_graph, .inr (5, [.int fu_graph_segments, .int fu_graph_links, .int fu_graph_paths, .int fu_graph_places, .int fu_graph_joins, .ref qu_graph_segmentNames, .ref qu_graph_sideStarts, .ref qu_graph_placeBases, .ref qu_graph_placeSides, .ref qu_graph_followers, .ref qu_graph_pathNames, .ref qu_graph_stepCounts, .ref qu_graph_steps, .ref qu_graph_joinFrom, .ref qu_graph_joinTo])), (qu_graph_steps, .inl (cI, 32, .inl au_graph_steps))] (fun (v : Unit) (_ : Unit) => (W_X_liesTurned cI cC cB qu qu_result qu_result_sides qu_graph qu_graph_steps qu_text qu_reading qu_costs qu_told qu_spare qu_result_walkBackwards qu_result_editsBackwards qu_graph_segmentNames qu_graph_sideStarts qu_graph_placeBases qu_graph_placeSides qu_graph_followers qu_graph_pathNames qu_graph_stepCounts qu_graph_joinFrom qu_graph_joinTo fu_result_found fu_result_cost fu_result_walkLength fu_result_editCount fu_result_sideCount fu_result_basesLeft fu_result_place au_result_sides fu_graph_segments fu_graph_links fu_graph_paths fu_graph_places fu_graph_joins au_graph_steps)) (k_X_turned l dC dI cI cC cB _ y_7 h) (g_S w_30 w_31 w_32 w_29) 1 rfl (by decide +kernel) rfl rfl ⟨Nat.le_of_ble_eq_true rfl, Nat.le_of_ble_eq_true rfl⟩ rfl rfl (by decide) (by decide) (by decide) (by decide) (fun _ _ => rfl) hl.1 rfl (Nat.le_of_ble_eq_true rfl) d_X_liesTurned_39 ⟨Nat.le_of_ble_eq_true rfl, Nat.le_of_ble_eq_true rfl⟩ (fun r_9 v_8 _ H locs h hP hD hS => ?_)
        have hP : va_P (dC, dI) cls (W_X_liesTurned cI cC cB qu qu_result qu_result_sides qu_graph qu_graph_steps qu_text qu_reading qu_costs qu_told qu_spare qu_result_walkBackwards qu_result_editsBackwards qu_graph_segmentNames qu_graph_sideStarts qu_graph_placeBases qu_graph_placeSides qu_graph_followers qu_graph_pathNames qu_graph_stepCounts qu_graph_joinFrom qu_graph_joinTo fu_result_found fu_result_cost fu_result_walkLength fu_result_editCount fu_result_sideCount fu_result_basesLeft fu_result_place au_result_sides fu_graph_segments fu_graph_links fu_graph_paths fu_graph_places fu_graph_joins au_graph_steps) H := hP
        have hD : va_D A (W_X_liesTurned cI cC cB qu qu_result qu_result_sides qu_graph qu_graph_steps qu_text qu_reading qu_costs qu_told qu_spare qu_result_walkBackwards qu_result_editsBackwards qu_graph_segmentNames qu_graph_sideStarts qu_graph_placeBases qu_graph_placeSides qu_graph_followers qu_graph_pathNames qu_graph_stepCounts qu_graph_joinFrom qu_graph_joinTo fu_result_found fu_result_cost fu_result_walkLength fu_result_editCount fu_result_sideCount fu_result_basesLeft fu_result_place au_result_sides fu_graph_segments fu_graph_links fu_graph_paths fu_graph_places fu_graph_joins au_graph_steps) := hD
        refine lv_icmp_eq (tgt := 47) hx hb d_X_liesTurned_42 (by decide) (fun c_10 => ?_) (fun c_10 => ?_)
        · have h := h.1 c_10
          obtain ⟨x3_11, ex3_11⟩ : ∃ y : Int32, y = x3 + 1 := ⟨_, rfl⟩
          have h := h x3_11 ex3_11
          refine lv_iinc (v := x3_11) (lv' := [(3, .int x3_11), (0, .ref qu), (1, .int p1), (2, .int x2)]) hx hb d_X_liesTurned_47 hl (k := 3) rfl (by rw [ex3_11]; rfl) (by decide) rfl (fun ls hl => ?_)
          refine lv_goto (tgt := 12) hx hb d_X_liesTurned_50 (by decide) ?_
          exact ih _ _ _ _ _ h hP hD hS (lv_sub hl [1, 2, 3, 0] rfl)
        · have h := h.2 c_10
          refine lv_iconst (v := 0) hx hb d_X_liesTurned_45 (by decide) ?_
          exact hret () () 0 _ _ _ _ rfl h hP hD hS d_X_liesTurned_46
  unfold wp_X_liesTurned at h
  refine lv_aload_n hx hb d_X_liesTurned_0 rfl (lv_at hl 0 rfl) ?_
  refine va_get (D := (dC, dI)) (ci := 0) (v := .ref qu_result) (C := R_X) (T := T_X) (N := 7) hx hb hts in_X hown hK hP 0 rfl rfl 3 (by decide) (hts _ w_185) (fun _ h9 => h9) rfl d_X_liesTurned_1 ?_
  refine va_get (D := (dC, dI)) (ci := 4) (v := .int fu_result_sideCount) (C := R_Rs) (T := T_Rs) (N := 10) hx hb hts in_Rs hown hK hP 1 rfl rfl 4 (by decide) (hts _ w_260) (fun _ h9 => h9) rfl d_X_liesTurned_4 ?_
  refine lv_iconst (v := 1) hx hb d_X_liesTurned_7 (by decide) ?_
  refine lv_isub hx hb d_X_liesTurned_8 ?_
  refine lv_topi (fun x_12 ex_12 => ?_)
  have h := h x_12 ex_12
  refine lv_istore_n (lv' := [(2, .int x_12), (0, .ref qu), (1, .int p1)]) hx hb d_X_liesTurned_9 rfl hl (by decide) rfl (fun ls hl => ?_)
  refine lv_iconst (v := 0) hx hb d_X_liesTurned_10 (by decide) ?_
  refine lv_istore_n (lv' := [(3, .int 0), (2, .int x_12), (0, .ref qu), (1, .int p1)]) hx hb d_X_liesTurned_11 rfl hl (by decide) rfl (fun ls hl => ?_)
  obtain ⟨fu_12, h⟩ := h
  exact blk_12  _ _ _ _ _ _ h hP hD hS (lv_sub hl [2, 3, 1, 0] rfl)
abbrev W_X_lies (cI cC cB : ClassId) (qu : Nat) (qu_result : Nat) (qu_result_sides : Nat) (qu_graph : Nat) (qu_graph_stepCounts : Nat) (qu_graph_steps : Nat) (qu_text : Nat) (qu_reading : Nat) (qu_costs : Nat) (qu_told : Nat) (qu_spare : Nat) (qu_result_walkBackwards : Nat) (qu_result_editsBackwards : Nat) (qu_graph_segmentNames : Nat) (qu_graph_sideStarts : Nat) (qu_graph_placeBases : Nat) (qu_graph_placeSides : Nat) (qu_graph_followers : Nat) (qu_graph_pathNames : Nat) (qu_graph_joinFrom : Nat) (qu_graph_joinTo : Nat) (fu_result_found : Int32) (fu_result_cost : Int32) (fu_result_walkLength : Int32) (fu_result_editCount : Int32) (fu_result_sideCount : Int32) (fu_result_basesLeft : Int32) (fu_result_place : Int32) (au_result_sides : Nat → Int32) (fu_graph_segments : Int32) (fu_graph_links : Int32) (fu_graph_paths : Int32) (fu_graph_places : Int32) (fu_graph_joins : Int32) (au_graph_stepCounts : Nat → Int32) (au_graph_steps : Nat → Int32) : va_W := [(qu, .inr (0, [.ref qu_text, .ref qu_reading, .ref qu_costs, .ref qu_result, .ref qu_told, .ref qu_graph, .ref qu_spare])), (qu_result, .inr (4, [.int fu_result_found, .int fu_result_cost, .int fu_result_walkLength, .int fu_result_editCount, .int fu_result_sideCount, .ref qu_result_sides, .ref qu_result_walkBackwards, .ref qu_result_editsBackwards, .int fu_result_basesLeft, .int fu_result_place])), (qu_result_sides, .inl (cI, 25, .inl au_result_sides)), (qu_graph, .inr (5, [.int fu_graph_segments, .int fu_graph_links, .int fu_graph_paths, .int fu_graph_places, .int fu_graph_joins, .ref qu_graph_segmentNames, .ref qu_graph_sideStarts, .ref qu_graph_placeBases, .ref qu_graph_placeSides, .ref qu_graph_followers, .ref qu_graph_pathNames, .ref qu_graph_stepCounts, .ref qu_graph_steps, .ref qu_graph_joinFrom, .ref qu_graph_joinTo])), (qu_graph_stepCounts, .inl (cI, 4, .inl au_graph_stepCounts)), (qu_graph_steps, .inl (cI, 32, .inl au_graph_steps))]
def w_X_lies_47B (Q : Int32 → Unit → Prop)  (K_47 : Int32 → Int32 → Prop) (p1 : Int32) (fu_result_found : Int32) (fu_result_sideCount : Int32) (au_result_sides : Nat → Int32) (fu_graph_paths : Int32) (au_graph_stepCounts : Nat → Int32) (au_graph_steps : Nat → Int32) (x2 : Int32) (x3 : Int32) : Prop := ((x2 < x3 → (Q 0 ())) ∧ (¬ x2 < x3 → (∀ x_2 : Int32, x_2 = (p1 * 8) + x3 → (wp_X_liesForwards (fun r_4 v_3 => ((r_4 = 0 → (wp_X_liesTurned (fun r_7 v_6 => ((r_7 = 0 → (∀ x3_9 : Int32, x3_9 = x3 + 1 → (K_47 x2 x3_9))) ∧ (¬ r_7 = 0 → (Q 1 ())))) x_2 fu_result_sideCount au_result_sides au_graph_steps)) ∧ (¬ r_4 = 0 → (Q 1 ())))) x_2 fu_result_sideCount au_result_sides au_graph_steps))))
def w_X_lies_47 (Q : Int32 → Unit → Prop)  (p1 : Int32) (fu_result_found : Int32) (fu_result_sideCount : Int32) (au_result_sides : Nat → Int32) (fu_graph_paths : Int32) (au_graph_stepCounts : Nat → Int32) (au_graph_steps : Nat → Int32) : Nat → Int32 → Int32 → Prop
  | 0 => fun _ _ => False
  | n + 1 => fun x2 x3 => w_X_lies_47B Q  (w_X_lies_47 Q  p1 fu_result_found fu_result_sideCount au_result_sides fu_graph_paths au_graph_stepCounts au_graph_steps n) p1 fu_result_found fu_result_sideCount au_result_sides fu_graph_paths au_graph_stepCounts au_graph_steps x2 x3
def wp_X_lies (Q : Int32 → Unit → Prop) (p1 : Int32) (fu_result_found : Int32) (fu_result_sideCount : Int32) (au_result_sides : Nat → Int32) (fu_graph_paths : Int32) (au_graph_stepCounts : Nat → Int32) (au_graph_steps : Nat → Int32) : Prop := ((fu_result_found = 0 → (Q 0 ())) ∧ (¬ fu_result_found = 0 → (((p1 < 0 → (Q 0 ())) ∧ (¬ p1 < 0 → (((p1 < fu_graph_paths → (vp_in p1 4 ∧ (∀ x_14 : Int32, x_14 = (au_graph_stepCounts p1.toNatClampNeg) - fu_result_sideCount → (∃ fu_47 : Nat, w_X_lies_47 Q p1 fu_result_found fu_result_sideCount au_result_sides fu_graph_paths au_graph_stepCounts au_graph_steps fu_47 x_14 0)))) ∧ (¬ p1 < fu_graph_paths → (Q 0 ())))))))))
abbrev rm_X_lies : Room := { frames := 2, cells := 0, slots := 0, locals := 43 }
set_option maxHeartbeats 4000000 in
set_option maxRecDepth 100000 in
theorem k_X_lies (l : Launch) (dC : Nat → ClassId) (dI : Nat → Nat → Nat) (cI cC cB : ClassId) (sz : Nat) (qu : Nat) (qu_result : Nat) (qu_result_sides : Nat) (qu_graph : Nat) (qu_graph_stepCounts : Nat) (qu_graph_steps : Nat) (qu_text : Nat) (qu_reading : Nat) (qu_costs : Nat) (qu_told : Nat) (qu_spare : Nat) (qu_result_walkBackwards : Nat) (qu_result_editsBackwards : Nat) (qu_graph_segmentNames : Nat) (qu_graph_sideStarts : Nat) (qu_graph_placeBases : Nat) (qu_graph_placeSides : Nat) (qu_graph_followers : Nat) (qu_graph_pathNames : Nat) (qu_graph_joinFrom : Nat) (qu_graph_joinTo : Nat) (fu_result_found : Int32) (fu_result_cost : Int32) (fu_result_walkLength : Int32) (fu_result_editCount : Int32) (fu_result_sideCount : Int32) (fu_result_basesLeft : Int32) (fu_result_place : Int32) (au_result_sides : Nat → Int32) (fu_graph_segments : Int32) (fu_graph_links : Int32) (fu_graph_paths : Int32) (fu_graph_places : Int32) (fu_graph_joins : Int32) (au_graph_stepCounts : Nat → Int32) (au_graph_steps : Nat → Int32) (p1 : Int32) {Q : Int32 → Unit → Prop} (h : wp_X_lies Q p1 fu_result_found fu_result_sideCount au_result_sides fu_graph_paths au_graph_stepCounts au_graph_steps) :
    CTi l y_X_lies (wM y_X_lies c_X_lies 5 (some .boolean)) rm_X_lies 0 0 (dC, dI) (tysL cI cC cB) [.ref qu, .int p1] (W_X_lies cI cC cB qu qu_result qu_result_sides qu_graph qu_graph_stepCounts qu_graph_steps qu_text qu_reading qu_costs qu_told qu_spare qu_result_walkBackwards qu_result_editsBackwards qu_graph_segmentNames qu_graph_sideStarts qu_graph_placeBases qu_graph_placeSides qu_graph_followers qu_graph_pathNames qu_graph_joinFrom qu_graph_joinTo fu_result_found fu_result_cost fu_result_walkLength fu_result_editCount fu_result_sideCount fu_result_basesLeft fu_result_place au_result_sides fu_graph_segments fu_graph_links fu_graph_paths fu_graph_places fu_graph_joins au_graph_stepCounts au_graph_steps) sz Q (fun (v : Unit) (_ : Unit) => (W_X_lies cI cC cB qu qu_result qu_result_sides qu_graph qu_graph_stepCounts qu_graph_steps qu_text qu_reading qu_costs qu_told qu_spare qu_result_walkBackwards qu_result_editsBackwards qu_graph_segmentNames qu_graph_sideStarts qu_graph_placeBases qu_graph_placeSides qu_graph_followers qu_graph_pathNames qu_graph_joinFrom qu_graph_joinTo fu_result_found fu_result_cost fu_result_walkLength fu_result_editCount fu_result_sideCount fu_result_basesLeft fu_result_place au_result_sides fu_graph_segments fu_graph_links fu_graph_paths fu_graph_places fu_graph_joins au_graph_stepCounts au_graph_steps)) := by
  refine CTi.std (by decide) (Nat.le_of_ble_eq_true rfl) ?_
  intro p e s m args below meth c A ls QF C0 hP hD hl hS hsz hret
  obtain ⟨hx, hb, hr, hml, hown, hts, hlocks, hN, hA, hK, hnm⟩ := id C0
  have hown : s.vm.findClass R_X = some m.cls := hown
  have hl : lv_has ls 5 [(0, .ref qu), (1, .int p1)] := hl
  clear hsz
  have blk_47 : ∀  (n : Nat) (x2 : Int32) (x3 : Int32) (H : Heap) (locs : List Loc) (ls : Array Slot), w_X_lies_47 Q  p1 fu_result_found fu_result_sideCount au_result_sides fu_graph_paths au_graph_stepCounts au_graph_steps n x2 x3 → va_P (dC, dI) cls (W_X_lies cI cC cB qu qu_result qu_result_sides qu_graph qu_graph_stepCounts qu_graph_steps qu_text qu_reading qu_costs qu_told qu_spare qu_result_walkBackwards qu_result_editsBackwards qu_graph_segmentNames qu_graph_sideStarts qu_graph_placeBases qu_graph_placeSides qu_graph_followers qu_graph_pathNames qu_graph_joinFrom qu_graph_joinTo fu_result_found fu_result_cost fu_result_walkLength fu_result_editCount fu_result_sideCount fu_result_basesLeft fu_result_place au_result_sides fu_graph_segments fu_graph_links fu_graph_paths fu_graph_places fu_graph_joins au_graph_stepCounts au_graph_steps) H → va_D A (W_X_lies cI cC cB qu qu_result qu_result_sides qu_graph qu_graph_stepCounts qu_graph_steps qu_text qu_reading qu_costs qu_told qu_spare qu_result_walkBackwards qu_result_editsBackwards qu_graph_segmentNames qu_graph_sideStarts qu_graph_placeBases qu_graph_placeSides qu_graph_followers qu_graph_pathNames qu_graph_joinFrom qu_graph_joinTo fu_result_found fu_result_cost fu_result_walkLength fu_result_editCount fu_result_sideCount fu_result_basesLeft fu_result_place au_result_sides fu_graph_segments fu_graph_links fu_graph_paths fu_graph_places fu_graph_joins au_graph_stepCounts au_graph_steps) → va_S A s.heap H locs → lv_has ls 5 [(0, .ref qu), (1, .int p1), (2, .int x2), (3, .int x3)] → W p l e rm_X_lies s m args below meth c H locs 0 0 QF (F0 m 47 ls []) := by
    intro  n
    induction n with
    | zero => intro x2 x3 H locs ls h; exact (show False from h).elim
    | succ n ih =>
      intro x2 x3 H locs ls h hP hD hS hl
      have h : w_X_lies_47B Q  (w_X_lies_47 Q  p1 fu_result_found fu_result_sideCount au_result_sides fu_graph_paths au_graph_stepCounts au_graph_steps n) p1 fu_result_found fu_result_sideCount au_result_sides fu_graph_paths au_graph_stepCounts au_graph_steps x2 x3 := h
      generalize w_X_lies_47 Q  p1 fu_result_found fu_result_sideCount au_result_sides fu_graph_paths au_graph_stepCounts au_graph_steps n = K_47 at h ih
      unfold w_X_lies_47B at h
      refine lv_iload_n hx hb d_X_lies_47 rfl (lv_at hl 3 rfl) ?_
      refine lv_iload_n hx hb d_X_lies_48 rfl (lv_at hl 2 rfl) ?_
      refine lv_icmp_gt (tgt := 86) hx hb d_X_lies_49 (by decide) (fun c_1 => ?_) (fun c_1 => ?_)
      · have h := h.1 c_1
        refine lv_iconst (v := 0) hx hb d_X_lies_86 (by decide) ?_
        exact hret () () 0 _ _ _ _ rfl h hP hD hS d_X_lies_87
      · have h := h.2 c_1
        refine lv_iload_n hx hb d_X_lies_52 rfl (lv_at hl 1 rfl) ?_
        refine lv_bipush (v := 8) hx hb d_X_lies_53 (by decide) ?_
        refine lv_imul hx hb d_X_lies_55 ?_
        refine lv_iload_n hx hb d_X_lies_56 rfl (lv_at hl 3 rfl) ?_
        refine lv_iadd hx hb d_X_lies_57 ?_
        refine lv_topi (fun x_2 ex_2 => ?_)
        have h := h x_2 ex_2
        refine lv_istore (lv' := [(4, .int x_2), (0, .ref qu), (1, .int p1), (2, .int x2), (3, .int x3)]) hx hb d_X_lies_58 hl (by decide) rfl (fun ls hl => ?_)
        refine lv_aload_n hx hb d_X_lies_60 rfl (lv_at hl 1 rfl) ?_
        refine lv_iload hx hb d_X_lies_61 (lv_at hl 0 rfl) ?_
        refine call_V_i (As := [.int x_2]) (rest := []) C0 hP hD hS [0, 1, 2, 3, 5] [4] [1, 2, 3, 4, 0, 5] [(qu_graph_stepCounts, .inl (cI, 4, .inl au_graph_stepCounts))] (fun (v : Unit) (_ : Unit) => (W_X_lies cI cC cB qu qu_result qu_result_sides qu_graph qu_graph_stepCounts qu_graph_steps qu_text qu_reading qu_costs qu_told qu_spare qu_result_walkBackwards qu_result_editsBackwards qu_graph_segmentNames qu_graph_sideStarts qu_graph_placeBases qu_graph_placeSides qu_graph_followers qu_graph_pathNames qu_graph_joinFrom qu_graph_joinTo fu_result_found fu_result_cost fu_result_walkLength fu_result_editCount fu_result_sideCount fu_result_basesLeft fu_result_place au_result_sides fu_graph_segments fu_graph_links fu_graph_paths fu_graph_places fu_graph_joins au_graph_stepCounts au_graph_steps)) (ci := 0) rfl rfl (k_X_liesForwards l dC dI cI cC cB _ qu qu_result qu_result_sides qu_graph qu_graph_steps qu_text qu_reading qu_costs qu_told qu_spare qu_result_walkBackwards qu_result_editsBackwards qu_graph_segmentNames qu_graph_sideStarts qu_graph_placeBases qu_graph_placeSides qu_graph_followers qu_graph_pathNames qu_graph_stepCounts qu_graph_joinFrom qu_graph_joinTo fu_result_found fu_result_cost fu_result_walkLength fu_result_editCount fu_result_sideCount fu_result_basesLeft fu_result_place au_result_sides fu_graph_segments fu_graph_links fu_graph_paths fu_graph_places fu_graph_joins au_graph_steps x_2 h) (g_V w_268 w_269 w_270 w_32 w_267) 1 rfl (by decide +kernel) rfl rfl ⟨Nat.le_of_ble_eq_true rfl, Nat.le_of_ble_eq_true rfl⟩ rfl rfl (by decide) (by decide) (by decide) (by decide) (fun _ _ => rfl) hl.1 rfl (Nat.le_of_ble_eq_true rfl) d_X_lies_63 ⟨Nat.le_of_ble_eq_true rfl, Nat.le_of_ble_eq_true rfl⟩ (fun r_4 v_3 _ H locs h hP hD hS => ?_)
        have hP : va_P (dC, dI) cls (W_X_lies cI cC cB qu qu_result qu_result_sides qu_graph qu_graph_stepCounts qu_graph_steps qu_text qu_reading qu_costs qu_told qu_spare qu_result_walkBackwards qu_result_editsBackwards qu_graph_segmentNames qu_graph_sideStarts qu_graph_placeBases qu_graph_placeSides qu_graph_followers qu_graph_pathNames qu_graph_joinFrom qu_graph_joinTo fu_result_found fu_result_cost fu_result_walkLength fu_result_editCount fu_result_sideCount fu_result_basesLeft fu_result_place au_result_sides fu_graph_segments fu_graph_links fu_graph_paths fu_graph_places fu_graph_joins au_graph_stepCounts au_graph_steps) H := hP
        have hD : va_D A (W_X_lies cI cC cB qu qu_result qu_result_sides qu_graph qu_graph_stepCounts qu_graph_steps qu_text qu_reading qu_costs qu_told qu_spare qu_result_walkBackwards qu_result_editsBackwards qu_graph_segmentNames qu_graph_sideStarts qu_graph_placeBases qu_graph_placeSides qu_graph_followers qu_graph_pathNames qu_graph_joinFrom qu_graph_joinTo fu_result_found fu_result_cost fu_result_walkLength fu_result_editCount fu_result_sideCount fu_result_basesLeft fu_result_place au_result_sides fu_graph_segments fu_graph_links fu_graph_paths fu_graph_places fu_graph_joins au_graph_stepCounts au_graph_steps) := hD
        refine lv_if_ne (tgt := 78) hx hb d_X_lies_66 (by decide) (fun c_5 => ?_) (fun c_5 => ?_)
        · have h := h.2 c_5
          refine lv_iconst (v := 1) hx hb d_X_lies_78 (by decide) ?_
          exact hret () () 1 _ _ _ _ rfl h hP hD hS d_X_lies_79
        · have h := h.1 c_5
          refine lv_aload_n hx hb d_X_lies_69 rfl (lv_at hl 1 rfl) ?_
          refine lv_iload hx hb d_X_lies_70 (lv_at hl 0 rfl) ?_
          refine call_V_i (As := [.int x_2]) (rest := []) C0 hP hD hS [0, 1, 2, 3, 5] [4] [1, 2, 3, 4, 0, 5] [(qu_graph_stepCounts, .inl (cI, 4, .inl au_graph_stepCounts))] (fun (v : Unit) (_ : Unit) => (W_X_lies cI cC cB qu qu_result qu_result_sides qu_graph qu_graph_stepCounts qu_graph_steps qu_text qu_reading qu_costs qu_told qu_spare qu_result_walkBackwards qu_result_editsBackwards qu_graph_segmentNames qu_graph_sideStarts qu_graph_placeBases qu_graph_placeSides qu_graph_followers qu_graph_pathNames qu_graph_joinFrom qu_graph_joinTo fu_result_found fu_result_cost fu_result_walkLength fu_result_editCount fu_result_sideCount fu_result_basesLeft fu_result_place au_result_sides fu_graph_segments fu_graph_links fu_graph_paths fu_graph_places fu_graph_joins au_graph_stepCounts au_graph_steps)) (ci := 0) rfl rfl (k_X_liesTurned l dC dI cI cC cB _ qu qu_result qu_result_sides qu_graph qu_graph_steps qu_text qu_reading qu_costs qu_told qu_spare qu_result_walkBackwards qu_result_editsBackwards qu_graph_segmentNames qu_graph_sideStarts qu_graph_placeBases qu_graph_placeSides qu_graph_followers qu_graph_pathNames qu_graph_stepCounts qu_graph_joinFrom qu_graph_joinTo fu_result_found fu_result_cost fu_result_walkLength fu_result_editCount fu_result_sideCount fu_result_basesLeft fu_result_place au_result_sides fu_graph_segments fu_graph_links fu_graph_paths fu_graph_places fu_graph_joins au_graph_steps x_2 h) (g_V w_264 w_265 w_266 w_32 w_263) 1 rfl (by decide +kernel) rfl rfl ⟨Nat.le_of_ble_eq_true rfl, Nat.le_of_ble_eq_true rfl⟩ rfl rfl (by decide) (by decide) (by decide) (by decide) (fun _ _ => rfl) hl.1 rfl (Nat.le_of_ble_eq_true rfl) d_X_lies_72 ⟨Nat.le_of_ble_eq_true rfl, Nat.le_of_ble_eq_true rfl⟩ (fun r_7 v_6 _ H locs h hP hD hS => ?_)
          have hP : va_P (dC, dI) cls (W_X_lies cI cC cB qu qu_result qu_result_sides qu_graph qu_graph_stepCounts qu_graph_steps qu_text qu_reading qu_costs qu_told qu_spare qu_result_walkBackwards qu_result_editsBackwards qu_graph_segmentNames qu_graph_sideStarts qu_graph_placeBases qu_graph_placeSides qu_graph_followers qu_graph_pathNames qu_graph_joinFrom qu_graph_joinTo fu_result_found fu_result_cost fu_result_walkLength fu_result_editCount fu_result_sideCount fu_result_basesLeft fu_result_place au_result_sides fu_graph_segments fu_graph_links fu_graph_paths fu_graph_places fu_graph_joins au_graph_stepCounts au_graph_steps) H := hP
          have hD : va_D A (W_X_lies cI cC cB qu qu_result qu_result_sides qu_graph qu_graph_stepCounts qu_graph_steps qu_text qu_reading qu_costs qu_told qu_spare qu_result_walkBackwards qu_result_editsBackwards qu_graph_segmentNames qu_graph_sideStarts qu_graph_placeBases qu_graph_placeSides qu_graph_followers qu_graph_pathNames qu_graph_joinFrom qu_graph_joinTo fu_result_found fu_result_cost fu_result_walkLength fu_result_editCount fu_result_sideCount fu_result_basesLeft fu_result_place au_result_sides fu_graph_segments fu_graph_links fu_graph_paths fu_graph_places fu_graph_joins au_graph_stepCounts au_graph_steps) := hD
          refine lv_if_eq (tgt := 80) hx hb d_X_lies_75 (by decide) (fun c_8 => ?_) (fun c_8 => ?_)
          · have h := h.1 c_8
            obtain ⟨x3_9, ex3_9⟩ : ∃ y : Int32, y = x3 + 1 := ⟨_, rfl⟩
            have h := h x3_9 ex3_9
            refine lv_iinc (v := x3_9) (lv' := [(3, .int x3_9), (4, .int x_2), (0, .ref qu), (1, .int p1), (2, .int x2)]) hx hb d_X_lies_80 hl (k := 4) rfl (by rw [ex3_9]; rfl) (by decide) rfl (fun ls hl => ?_)
            refine lv_goto (tgt := 47) hx hb d_X_lies_83 (by decide) ?_
            exact ih _ _ _ _ _ h hP hD hS (lv_sub hl [2, 3, 4, 0] rfl)
          · have h := h.2 c_8
            refine lv_iconst (v := 1) hx hb d_X_lies_78 (by decide) ?_
            exact hret () () 1 _ _ _ _ rfl h hP hD hS d_X_lies_79
  unfold wp_X_lies at h
  refine lv_aload_n hx hb d_X_lies_0 rfl (lv_at hl 0 rfl) ?_
  refine va_get (D := (dC, dI)) (ci := 0) (v := .ref qu_result) (C := R_X) (T := T_X) (N := 7) hx hb hts in_X hown hK hP 0 rfl rfl 3 (by decide) (hts _ w_185) (fun _ h9 => h9) rfl d_X_lies_1 ?_
  refine va_get (D := (dC, dI)) (ci := 4) (v := .int fu_result_found) (C := R_Rs) (T := T_Rs) (N := 10) hx hb hts in_Rs hown hK hP 1 rfl rfl 0 (by decide) (hts _ w_252) (fun _ h9 => h9) rfl d_X_lies_4 ?_
  refine lv_if_eq (tgt := 25) hx hb d_X_lies_7 (by decide) (fun c_10 => ?_) (fun c_10 => ?_)
  · have h := h.1 c_10
    refine lv_iconst (v := 0) hx hb d_X_lies_25 (by decide) ?_
    exact hret () () 0 _ _ _ _ rfl h hP hD hS d_X_lies_26
  · have h := h.2 c_10
    refine lv_iload_n hx hb d_X_lies_10 rfl (lv_at hl 1 rfl) ?_
    refine lv_if_lt (tgt := 25) hx hb d_X_lies_11 (by decide) (fun c_11 => ?_) (fun c_11 => ?_)
    · have h := h.1 c_11
      refine lv_iconst (v := 0) hx hb d_X_lies_25 (by decide) ?_
      exact hret () () 0 _ _ _ _ rfl h hP hD hS d_X_lies_26
    · have h := h.2 c_11
      refine lv_iload_n hx hb d_X_lies_14 rfl (lv_at hl 1 rfl) ?_
      refine lv_aload_n hx hb d_X_lies_15 rfl (lv_at hl 0 rfl) ?_
      refine va_get (D := (dC, dI)) (ci := 0) (v := .ref qu_graph) (C := R_X) (T := T_X) (N := 7) hx hb hts in_X hown hK hP 0 rfl rfl 5 (by decide) (hts _ w_126) (fun _ h9 => h9) rfl d_X_lies_16 ?_
      refine va_get (D := (dC, dI)) (ci := 5) (v := .int fu_graph_paths) (C := R_Gr) (T := T_Gr) (N := 15) hx hb hts in_Gr hown hK hP 3 rfl rfl 2 (by decide) (hts _ w_129) (fun _ h9 => h9) rfl d_X_lies_19 ?_
      refine lv_icmp_lt (tgt := 27) hx hb d_X_lies_22 (by decide) (fun c_12 => ?_) (fun c_12 => ?_)
      · have h := h.1 c_12
        refine lv_aload_n hx hb d_X_lies_27 rfl (lv_at hl 0 rfl) ?_
        refine va_get (D := (dC, dI)) (ci := 0) (v := .ref qu_graph) (C := R_X) (T := T_X) (N := 7) hx hb hts in_X hown hK hP 0 rfl rfl 5 (by decide) (hts _ w_126) (fun _ h9 => h9) rfl d_X_lies_28 ?_
        refine va_get (D := (dC, dI)) (ci := 5) (v := .ref qu_graph_stepCounts) (C := R_Gr) (T := T_Gr) (N := 15) hx hb hts in_Gr hown hK hP 3 rfl rfl 11 (by decide) (hts _ w_271) (fun _ h9 => h9) rfl d_X_lies_31 ?_
        refine lv_iload_n hx hb d_X_lies_34 rfl (lv_at hl 1 rfl) ?_
        have hi_13 := h.1
        have h := h.2
        refine va_iald hx hb hK hP 4 0 rfl rfl hi_13 d_X_lies_35 ?_
        refine lv_aload_n hx hb d_X_lies_36 rfl (lv_at hl 0 rfl) ?_
        refine va_get (D := (dC, dI)) (ci := 0) (v := .ref qu_result) (C := R_X) (T := T_X) (N := 7) hx hb hts in_X hown hK hP 0 rfl rfl 3 (by decide) (hts _ w_185) (fun _ h9 => h9) rfl d_X_lies_37 ?_
        refine va_get (D := (dC, dI)) (ci := 4) (v := .int fu_result_sideCount) (C := R_Rs) (T := T_Rs) (N := 10) hx hb hts in_Rs hown hK hP 1 rfl rfl 4 (by decide) (hts _ w_260) (fun _ h9 => h9) rfl d_X_lies_40 ?_
        refine lv_isub hx hb d_X_lies_43 ?_
        refine lv_topi (fun x_14 ex_14 => ?_)
        have h := h x_14 ex_14
        refine lv_istore_n (lv' := [(2, .int x_14), (0, .ref qu), (1, .int p1)]) hx hb d_X_lies_44 rfl hl (by decide) rfl (fun ls hl => ?_)
        refine lv_iconst (v := 0) hx hb d_X_lies_45 (by decide) ?_
        refine lv_istore_n (lv' := [(3, .int 0), (2, .int x_14), (0, .ref qu), (1, .int p1)]) hx hb d_X_lies_46 rfl hl (by decide) rfl (fun ls hl => ?_)
        obtain ⟨fu_47, h⟩ := h
        exact blk_47  _ _ _ _ _ _ h hP hD hS (lv_sub hl [2, 3, 1, 0] rfl)
      · have h := h.2 c_12
        refine lv_iconst (v := 0) hx hb d_X_lies_25 (by decide) ?_
        exact hret () () 0 _ _ _ _ rfl h hP hD hS d_X_lies_26
abbrev W_Mo_type (cI cC cB : ClassId) (qu : Nat) (qu_text : Nat) (qu_segments : Nat) (qu_names : Nat) (qu_nameSize : Nat) (qu_bases : Nat) (qu_length : Nat) (qu_links : Nat) (qu_from : Nat) (qu_to : Nat) (qu_paths : Nat) (qu_titles : Nat) (qu_titleSize : Nat) (qu_steps : Nat) (qu_step : Nat) (qu_sideOf : Nat) (qu_within : Nat) (qu_read : Nat) (qu_cost : Nat) (qu_walk : Nat) (qu_edits : Nat) (qu_said : Nat) (fu_size : Int32) (fu_places : Int32) (fu_reads : Int32) (fu_there : Int32) (fu_total : Int32) (fu_walked : Int32) (fu_edited : Int32) (fu_written : Int32) (fu_at : Int32) (fu_end : Int32) (fu_began : Int32) (fu_many : Int32) (au_text : Nat → Int32) : va_W := [(qu, .inr (6, [.int fu_size, .ref qu_text, .ref qu_segments, .ref qu_names, .ref qu_nameSize, .ref qu_bases, .ref qu_length, .ref qu_links, .ref qu_from, .ref qu_to, .ref qu_paths, .ref qu_titles, .ref qu_titleSize, .ref qu_steps, .ref qu_step, .int fu_places, .ref qu_sideOf, .ref qu_within, .int fu_reads, .ref qu_read, .ref qu_cost, .int fu_there, .int fu_total, .int fu_walked, .ref qu_walk, .int fu_edited, .ref qu_edits, .int fu_written, .ref qu_said, .int fu_at, .int fu_end, .int fu_began, .int fu_many])), (qu_text, .inl (cC, 400, .inl au_text))]
def w_Mo_type_24 (Q : Int32 → (Int32 × (Nat → Int32)) → Prop)  (p1 : Int32) (fu_size : Int32) (au_text : Nat → Int32) : Prop := ((fu_size = 400 → (Q 0 (fu_size, au_text))) ∧ (¬ fu_size = 400 → (vp_in fu_size 400 ∧ (∀ au_text_3 : Nat → Int32, au_text_3 = upd au_text fu_size.toNatClampNeg (vp_nar .char p1) → (∀ x_4 : Int32, x_4 = fu_size + 1 → (Q 1 (x_4, au_text_3)))))))
def wp_Mo_type (Q : Int32 → (Int32 × (Nat → Int32)) → Prop) (p1 : Int32) (fu_size : Int32) (au_text : Nat → Int32) : Prop := ((p1 = 9 → (w_Mo_type_24 Q p1 fu_size au_text)) ∧ (¬ p1 = 9 → (((p1 = 10 → (w_Mo_type_24 Q p1 fu_size au_text)) ∧ (¬ p1 = 10 → (((p1 < 32 → (Q 0 (fu_size, au_text))) ∧ (¬ p1 < 32 → (((126 < p1 → (Q 0 (fu_size, au_text))) ∧ (¬ 126 < p1 → (w_Mo_type_24 Q p1 fu_size au_text))))))))))))
abbrev rm_Mo_type : Room := { frames := 0, cells := 0, slots := 0, locals := 0 }
set_option maxHeartbeats 4000000 in
set_option maxRecDepth 100000 in
theorem k_Mo_type (l : Launch) (dC : Nat → ClassId) (dI : Nat → Nat → Nat) (cI cC cB : ClassId) (sz : Nat) (qu : Nat) (qu_text : Nat) (qu_segments : Nat) (qu_names : Nat) (qu_nameSize : Nat) (qu_bases : Nat) (qu_length : Nat) (qu_links : Nat) (qu_from : Nat) (qu_to : Nat) (qu_paths : Nat) (qu_titles : Nat) (qu_titleSize : Nat) (qu_steps : Nat) (qu_step : Nat) (qu_sideOf : Nat) (qu_within : Nat) (qu_read : Nat) (qu_cost : Nat) (qu_walk : Nat) (qu_edits : Nat) (qu_said : Nat) (fu_size : Int32) (fu_places : Int32) (fu_reads : Int32) (fu_there : Int32) (fu_total : Int32) (fu_walked : Int32) (fu_edited : Int32) (fu_written : Int32) (fu_at : Int32) (fu_end : Int32) (fu_began : Int32) (fu_many : Int32) (au_text : Nat → Int32) (p1 : Int32) {Q : Int32 → (Int32 × (Nat → Int32)) → Prop} (h : wp_Mo_type Q p1 fu_size au_text) :
    CTi l y_Mo_type (wM y_Mo_type c_Mo_type 2 (some .boolean)) rm_Mo_type 0 0 (dC, dI) (tysL cI cC cB) [.ref qu, .int p1] (W_Mo_type cI cC cB qu qu_text qu_segments qu_names qu_nameSize qu_bases qu_length qu_links qu_from qu_to qu_paths qu_titles qu_titleSize qu_steps qu_step qu_sideOf qu_within qu_read qu_cost qu_walk qu_edits qu_said fu_size fu_places fu_reads fu_there fu_total fu_walked fu_edited fu_written fu_at fu_end fu_began fu_many au_text) sz Q (fun (v : Int32 × (Nat → Int32)) (_ : Unit) => (W_Mo_type cI cC cB qu qu_text qu_segments qu_names qu_nameSize qu_bases qu_length qu_links qu_from qu_to qu_paths qu_titles qu_titleSize qu_steps qu_step qu_sideOf qu_within qu_read qu_cost qu_walk qu_edits qu_said v.1 fu_places fu_reads fu_there fu_total fu_walked fu_edited fu_written fu_at fu_end fu_began fu_many v.2)) := by
  refine CTi.std (by decide) (Nat.le_of_ble_eq_true rfl) ?_
  intro p e s m args below meth c A ls QF C0 hP hD hl hS hsz hret
  obtain ⟨hx, hb, hr, hml, hown, hts, hlocks, hN, hA, hK, hnm⟩ := id C0
  have hown : s.vm.findClass R_Mo = some m.cls := hown
  have hl : lv_has ls 2 [(0, .ref qu), (1, .int p1)] := hl
  clear hsz
  have blk_24 : ∀  (fu_size : Int32) (au_text : Nat → Int32) (H : Heap) (locs : List Loc) (ls : Array Slot), w_Mo_type_24 Q  p1 fu_size au_text → va_P (dC, dI) cls (W_Mo_type cI cC cB qu qu_text qu_segments qu_names qu_nameSize qu_bases qu_length qu_links qu_from qu_to qu_paths qu_titles qu_titleSize qu_steps qu_step qu_sideOf qu_within qu_read qu_cost qu_walk qu_edits qu_said fu_size fu_places fu_reads fu_there fu_total fu_walked fu_edited fu_written fu_at fu_end fu_began fu_many au_text) H → va_D A (W_Mo_type cI cC cB qu qu_text qu_segments qu_names qu_nameSize qu_bases qu_length qu_links qu_from qu_to qu_paths qu_titles qu_titleSize qu_steps qu_step qu_sideOf qu_within qu_read qu_cost qu_walk qu_edits qu_said fu_size fu_places fu_reads fu_there fu_total fu_walked fu_edited fu_written fu_at fu_end fu_began fu_many au_text) → va_S A s.heap H locs → lv_has ls 2 [(0, .ref qu), (1, .int p1)] → W p l e rm_Mo_type s m args below meth c H locs 0 0 QF (F0 m 24 ls []) := by
    intro  fu_size au_text H locs ls h hP hD hS hl
    unfold w_Mo_type_24 at h
    refine lv_aload_n hx hb d_Mo_type_24 rfl (lv_at hl 0 rfl) ?_
    refine va_get (D := (dC, dI)) (ci := 6) (v := .int fu_size) (C := R_Mo) (T := T_Mo) (N := 33) hx hb hts in_Mo hown hK hP 0 rfl rfl 0 (by decide) (hts _ w_272) (fun _ h9 => h9) rfl d_Mo_type_25 ?_
    refine lv_sipush (v := 400) hx hb d_Mo_type_28 (by decide) ?_
    refine lv_icmp_ne (tgt := 36) hx hb d_Mo_type_31 (by decide) (fun c_1 => ?_) (fun c_1 => ?_)
    · have h := h.2 c_1
      refine lv_aload_n hx hb d_Mo_type_36 rfl (lv_at hl 0 rfl) ?_
      refine va_get (D := (dC, dI)) (ci := 6) (v := .ref qu_text) (C := R_Mo) (T := T_Mo) (N := 33) hx hb hts in_Mo hown hK hP 0 rfl rfl 1 (by decide) (hts _ w_273) (fun _ h9 => h9) rfl d_Mo_type_37 ?_
      refine lv_aload_n hx hb d_Mo_type_40 rfl (lv_at hl 0 rfl) ?_
      refine va_get (D := (dC, dI)) (ci := 6) (v := .int fu_size) (C := R_Mo) (T := T_Mo) (N := 33) hx hb hts in_Mo hown hK hP 0 rfl rfl 0 (by decide) (hts _ w_272) (fun _ h9 => h9) rfl d_Mo_type_41 ?_
      refine lv_iload_n hx hb d_Mo_type_44 rfl (lv_at hl 1 rfl) ?_
      have hi_2 := h.1
      have h := h.2
      refine va_cast hx hb hK hP hD hS 1 1 rfl rfl hi_2 d_Mo_type_45 (fun H locs hP hD hS => ?_)
      obtain ⟨au_text_3, eau_text_3⟩ : ∃ z : Nat → Int32, z = upd au_text fu_size.toNatClampNeg (vp_nar .char p1) := ⟨_, rfl⟩
      have h := h au_text_3 eau_text_3
      have hP : va_P (dC, dI) cls (W_Mo_type cI cC cB qu qu_text qu_segments qu_names qu_nameSize qu_bases qu_length qu_links qu_from qu_to qu_paths qu_titles qu_titleSize qu_steps qu_step qu_sideOf qu_within qu_read qu_cost qu_walk qu_edits qu_said fu_size fu_places fu_reads fu_there fu_total fu_walked fu_edited fu_written fu_at fu_end fu_began fu_many au_text_3) H := by rw [eau_text_3]; exact hP
      have hD : va_D A (W_Mo_type cI cC cB qu qu_text qu_segments qu_names qu_nameSize qu_bases qu_length qu_links qu_from qu_to qu_paths qu_titles qu_titleSize qu_steps qu_step qu_sideOf qu_within qu_read qu_cost qu_walk qu_edits qu_said fu_size fu_places fu_reads fu_there fu_total fu_walked fu_edited fu_written fu_at fu_end fu_began fu_many au_text_3) := by rw [eau_text_3]; exact hD
      refine lv_aload_n hx hb d_Mo_type_46 rfl (lv_at hl 0 rfl) ?_
      refine lv_dup hx hb d_Mo_type_47 rfl ?_
      refine va_get (D := (dC, dI)) (ci := 6) (v := .int fu_size) (C := R_Mo) (T := T_Mo) (N := 33) hx hb hts in_Mo hown hK hP 0 rfl rfl 0 (by decide) (hts _ w_272) (fun _ h9 => h9) rfl d_Mo_type_48 ?_
      refine lv_iconst (v := 1) hx hb d_Mo_type_51 (by decide) ?_
      refine lv_iadd hx hb d_Mo_type_52 ?_
      refine lv_topi (fun x_4 ex_4 => ?_)
      have h := h x_4 ex_4
      refine va_put (D := (dC, dI)) (ci := 6) (v := .int x_4) (ty := .int) (C := R_Mo) (T := T_Mo) (N := 33) hx hb hts in_Mo t_Mo t_Mo_ok n_Mo hown hK hP hD hS 0 rfl rfl 0 (by decide) (hts _ w_272) (fun _ h9 => h9) rfl (by decide +kernel) rfl rfl (Nat.le_of_ble_eq_true rfl) d_Mo_type_53 (fun H locs hP hD hS => ?_)
      have hP : va_P (dC, dI) cls (W_Mo_type cI cC cB qu qu_text qu_segments qu_names qu_nameSize qu_bases qu_length qu_links qu_from qu_to qu_paths qu_titles qu_titleSize qu_steps qu_step qu_sideOf qu_within qu_read qu_cost qu_walk qu_edits qu_said x_4 fu_places fu_reads fu_there fu_total fu_walked fu_edited fu_written fu_at fu_end fu_began fu_many au_text_3) H := hP
      have hD : va_D A (W_Mo_type cI cC cB qu qu_text qu_segments qu_names qu_nameSize qu_bases qu_length qu_links qu_from qu_to qu_paths qu_titles qu_titleSize qu_steps qu_step qu_sideOf qu_within qu_read qu_cost qu_walk qu_edits qu_said x_4 fu_places fu_reads fu_there fu_total fu_walked fu_edited fu_written fu_at fu_end fu_began fu_many au_text_3) := hD
      refine lv_iconst (v := 1) hx hb d_Mo_type_56 (by decide) ?_
      exact hret (x_4, au_text_3) () 1 _ _ _ _ rfl h hP hD hS d_Mo_type_57
    · have h := h.1 c_1
      refine lv_iconst (v := 0) hx hb d_Mo_type_34 (by decide) ?_
      exact hret (fu_size, au_text) () 0 _ _ _ _ rfl h hP hD hS d_Mo_type_35
  unfold wp_Mo_type at h
  refine lv_iload_n hx hb d_Mo_type_0 rfl (lv_at hl 1 rfl) ?_
  refine lv_bipush (v := 9) hx hb d_Mo_type_1 (by decide) ?_
  refine lv_icmp_eq (tgt := 24) hx hb d_Mo_type_3 (by decide) (fun c_5 => ?_) (fun c_5 => ?_)
  · have h := h.1 c_5
    exact blk_24  _ _ _ _ _ h hP hD hS (lv_sub hl [0, 1] rfl)
  · have h := h.2 c_5
    refine lv_iload_n hx hb d_Mo_type_6 rfl (lv_at hl 1 rfl) ?_
    refine lv_bipush (v := 10) hx hb d_Mo_type_7 (by decide) ?_
    refine lv_icmp_eq (tgt := 24) hx hb d_Mo_type_9 (by decide) (fun c_6 => ?_) (fun c_6 => ?_)
    · have h := h.1 c_6
      exact blk_24  _ _ _ _ _ h hP hD hS (lv_sub hl [0, 1] rfl)
    · have h := h.2 c_6
      refine lv_iload_n hx hb d_Mo_type_12 rfl (lv_at hl 1 rfl) ?_
      refine lv_bipush (v := 32) hx hb d_Mo_type_13 (by decide) ?_
      refine lv_icmp_lt (tgt := 34) hx hb d_Mo_type_15 (by decide) (fun c_7 => ?_) (fun c_7 => ?_)
      · have h := h.1 c_7
        refine lv_iconst (v := 0) hx hb d_Mo_type_34 (by decide) ?_
        exact hret (fu_size, au_text) () 0 _ _ _ _ rfl h hP hD hS d_Mo_type_35
      · have h := h.2 c_7
        refine lv_iload_n hx hb d_Mo_type_18 rfl (lv_at hl 1 rfl) ?_
        refine lv_bipush (v := 126) hx hb d_Mo_type_19 (by decide) ?_
        refine lv_icmp_gt (tgt := 34) hx hb d_Mo_type_21 (by decide) (fun c_8 => ?_) (fun c_8 => ?_)
        · have h := h.1 c_8
          refine lv_iconst (v := 0) hx hb d_Mo_type_34 (by decide) ?_
          exact hret (fu_size, au_text) () 0 _ _ _ _ rfl h hP hD hS d_Mo_type_35
        · have h := h.2 c_8
          exact blk_24  _ _ _ _ _ h hP hD hS (lv_sub hl [0, 1] rfl)
abbrev W_Mo_clear (cI cC cB : ClassId) (qu : Nat) (qu_text : Nat) (qu_segments : Nat) (qu_names : Nat) (qu_nameSize : Nat) (qu_bases : Nat) (qu_length : Nat) (qu_links : Nat) (qu_from : Nat) (qu_to : Nat) (qu_paths : Nat) (qu_titles : Nat) (qu_titleSize : Nat) (qu_steps : Nat) (qu_step : Nat) (qu_sideOf : Nat) (qu_within : Nat) (qu_read : Nat) (qu_cost : Nat) (qu_walk : Nat) (qu_edits : Nat) (qu_said : Nat) (fu_size : Int32) (fu_places : Int32) (fu_reads : Int32) (fu_there : Int32) (fu_total : Int32) (fu_walked : Int32) (fu_edited : Int32) (fu_written : Int32) (fu_at : Int32) (fu_end : Int32) (fu_began : Int32) (fu_many : Int32) : va_W := [(qu, .inr (6, [.int fu_size, .ref qu_text, .ref qu_segments, .ref qu_names, .ref qu_nameSize, .ref qu_bases, .ref qu_length, .ref qu_links, .ref qu_from, .ref qu_to, .ref qu_paths, .ref qu_titles, .ref qu_titleSize, .ref qu_steps, .ref qu_step, .int fu_places, .ref qu_sideOf, .ref qu_within, .int fu_reads, .ref qu_read, .ref qu_cost, .int fu_there, .int fu_total, .int fu_walked, .ref qu_walk, .int fu_edited, .ref qu_edits, .int fu_written, .ref qu_said, .int fu_at, .int fu_end, .int fu_began, .int fu_many]))]
def wp_Mo_clear (Q : Int32 → Prop)  (fu_size : Int32) : Prop := Q 0
abbrev rm_Mo_clear : Room := { frames := 0, cells := 0, slots := 0, locals := 0 }
set_option maxHeartbeats 4000000 in
set_option maxRecDepth 100000 in
theorem k_Mo_clear (l : Launch) (dC : Nat → ClassId) (dI : Nat → Nat → Nat) (cI cC cB : ClassId) (sz : Nat) (qu : Nat) (qu_text : Nat) (qu_segments : Nat) (qu_names : Nat) (qu_nameSize : Nat) (qu_bases : Nat) (qu_length : Nat) (qu_links : Nat) (qu_from : Nat) (qu_to : Nat) (qu_paths : Nat) (qu_titles : Nat) (qu_titleSize : Nat) (qu_steps : Nat) (qu_step : Nat) (qu_sideOf : Nat) (qu_within : Nat) (qu_read : Nat) (qu_cost : Nat) (qu_walk : Nat) (qu_edits : Nat) (qu_said : Nat) (fu_size : Int32) (fu_places : Int32) (fu_reads : Int32) (fu_there : Int32) (fu_total : Int32) (fu_walked : Int32) (fu_edited : Int32) (fu_written : Int32) (fu_at : Int32) (fu_end : Int32) (fu_began : Int32) (fu_many : Int32)  {Q : Int32 → Prop} (h : wp_Mo_clear Q  fu_size) :
    CTv l y_Mo_clear (wM y_Mo_clear c_Mo_clear 1 none) rm_Mo_clear 0 0 (dC, dI) (tysL cI cC cB) [.ref qu] (W_Mo_clear cI cC cB qu qu_text qu_segments qu_names qu_nameSize qu_bases qu_length qu_links qu_from qu_to qu_paths qu_titles qu_titleSize qu_steps qu_step qu_sideOf qu_within qu_read qu_cost qu_walk qu_edits qu_said fu_size fu_places fu_reads fu_there fu_total fu_walked fu_edited fu_written fu_at fu_end fu_began fu_many) sz Q (fun (v : Int32) (_ : Unit) => (W_Mo_clear cI cC cB qu qu_text qu_segments qu_names qu_nameSize qu_bases qu_length qu_links qu_from qu_to qu_paths qu_titles qu_titleSize qu_steps qu_step qu_sideOf qu_within qu_read qu_cost qu_walk qu_edits qu_said v fu_places fu_reads fu_there fu_total fu_walked fu_edited fu_written fu_at fu_end fu_began fu_many)) := by
  refine CTv.std (by decide) (Nat.le_of_ble_eq_true rfl) ?_
  intro p e s m args below meth c A ls QF C0 hP hD hl hS hsz hret
  obtain ⟨hx, hb, hr, hml, hown, hts, hlocks, hN, hA, hK, hnm⟩ := id C0
  have hown : s.vm.findClass R_Mo = some m.cls := hown
  have hl : lv_has ls 1 [(0, .ref qu)] := hl
  clear hsz
  unfold wp_Mo_clear at h
  refine lv_aload_n hx hb d_Mo_clear_0 rfl (lv_at hl 0 rfl) ?_
  refine lv_iconst (v := 0) hx hb d_Mo_clear_1 (by decide) ?_
  refine va_put (D := (dC, dI)) (ci := 6) (v := .int 0) (ty := .int) (C := R_Mo) (T := T_Mo) (N := 33) hx hb hts in_Mo t_Mo t_Mo_ok n_Mo hown hK hP hD hS 0 rfl rfl 0 (by decide) (hts _ w_272) (fun _ h9 => h9) rfl (by decide +kernel) rfl rfl (Nat.le_of_ble_eq_true rfl) d_Mo_clear_2 (fun H locs hP hD hS => ?_)
  have hP : va_P (dC, dI) cls (W_Mo_clear cI cC cB qu qu_text qu_segments qu_names qu_nameSize qu_bases qu_length qu_links qu_from qu_to qu_paths qu_titles qu_titleSize qu_steps qu_step qu_sideOf qu_within qu_read qu_cost qu_walk qu_edits qu_said 0 fu_places fu_reads fu_there fu_total fu_walked fu_edited fu_written fu_at fu_end fu_began fu_many) H := hP
  have hD : va_D A (W_Mo_clear cI cC cB qu qu_text qu_segments qu_names qu_nameSize qu_bases qu_length qu_links qu_from qu_to qu_paths qu_titles qu_titleSize qu_steps qu_step qu_sideOf qu_within qu_read qu_cost qu_walk qu_edits qu_said 0 fu_places fu_reads fu_there fu_total fu_walked fu_edited fu_written fu_at fu_end fu_began fu_many) := hD
  exact hret 0 () _ _ _ _ h hP hD hS d_Mo_clear_5
abbrev W_Mo_eat (cI cC cB : ClassId) (qu : Nat) (qu_text : Nat) (qu_segments : Nat) (qu_names : Nat) (qu_nameSize : Nat) (qu_bases : Nat) (qu_length : Nat) (qu_links : Nat) (qu_from : Nat) (qu_to : Nat) (qu_paths : Nat) (qu_titles : Nat) (qu_titleSize : Nat) (qu_steps : Nat) (qu_step : Nat) (qu_sideOf : Nat) (qu_within : Nat) (qu_read : Nat) (qu_cost : Nat) (qu_walk : Nat) (qu_edits : Nat) (qu_said : Nat) (fu_size : Int32) (fu_places : Int32) (fu_reads : Int32) (fu_there : Int32) (fu_total : Int32) (fu_walked : Int32) (fu_edited : Int32) (fu_written : Int32) (fu_at : Int32) (fu_end : Int32) (fu_began : Int32) (fu_many : Int32) (au_text : Nat → Int32) : va_W := [(qu, .inr (6, [.int fu_size, .ref qu_text, .ref qu_segments, .ref qu_names, .ref qu_nameSize, .ref qu_bases, .ref qu_length, .ref qu_links, .ref qu_from, .ref qu_to, .ref qu_paths, .ref qu_titles, .ref qu_titleSize, .ref qu_steps, .ref qu_step, .int fu_places, .ref qu_sideOf, .ref qu_within, .int fu_reads, .ref qu_read, .ref qu_cost, .int fu_there, .int fu_total, .int fu_walked, .ref qu_walk, .int fu_edited, .ref qu_edits, .int fu_written, .ref qu_said, .int fu_at, .int fu_end, .int fu_began, .int fu_many])), (qu_text, .inl (cC, 400, .inl au_text))]
def wp_Mo_eat (Q : Int32 → Int32 → Prop) (p1 : Int32) (fu_at : Int32) (fu_end : Int32) (au_text : Nat → Int32) : Prop := ((fu_end ≤ fu_at → (Q 0 fu_at)) ∧ (¬ fu_end ≤ fu_at → (vp_in fu_at 400 ∧ (∀ y_3 : Int32, y_3 = au_text fu_at.toNatClampNeg → (((y_3 = p1 → (∀ x_5 : Int32, x_5 = fu_at + 1 → (Q 1 x_5))) ∧ (¬ y_3 = p1 → (Q 0 fu_at))))))))
abbrev rm_Mo_eat : Room := { frames := 0, cells := 0, slots := 0, locals := 0 }
set_option maxHeartbeats 4000000 in
set_option maxRecDepth 100000 in
theorem k_Mo_eat (l : Launch) (dC : Nat → ClassId) (dI : Nat → Nat → Nat) (cI cC cB : ClassId) (sz : Nat) (qu : Nat) (qu_text : Nat) (qu_segments : Nat) (qu_names : Nat) (qu_nameSize : Nat) (qu_bases : Nat) (qu_length : Nat) (qu_links : Nat) (qu_from : Nat) (qu_to : Nat) (qu_paths : Nat) (qu_titles : Nat) (qu_titleSize : Nat) (qu_steps : Nat) (qu_step : Nat) (qu_sideOf : Nat) (qu_within : Nat) (qu_read : Nat) (qu_cost : Nat) (qu_walk : Nat) (qu_edits : Nat) (qu_said : Nat) (fu_size : Int32) (fu_places : Int32) (fu_reads : Int32) (fu_there : Int32) (fu_total : Int32) (fu_walked : Int32) (fu_edited : Int32) (fu_written : Int32) (fu_at : Int32) (fu_end : Int32) (fu_began : Int32) (fu_many : Int32) (au_text : Nat → Int32) (p1 : Int32) {Q : Int32 → Int32 → Prop} (h : wp_Mo_eat Q p1 fu_at fu_end au_text) :
    CTi l y_Mo_eat (wM y_Mo_eat c_Mo_eat 2 (some .boolean)) rm_Mo_eat 0 0 (dC, dI) (tysL cI cC cB) [.ref qu, .int p1] (W_Mo_eat cI cC cB qu qu_text qu_segments qu_names qu_nameSize qu_bases qu_length qu_links qu_from qu_to qu_paths qu_titles qu_titleSize qu_steps qu_step qu_sideOf qu_within qu_read qu_cost qu_walk qu_edits qu_said fu_size fu_places fu_reads fu_there fu_total fu_walked fu_edited fu_written fu_at fu_end fu_began fu_many au_text) sz Q (fun (v : Int32) (_ : Unit) => (W_Mo_eat cI cC cB qu qu_text qu_segments qu_names qu_nameSize qu_bases qu_length qu_links qu_from qu_to qu_paths qu_titles qu_titleSize qu_steps qu_step qu_sideOf qu_within qu_read qu_cost qu_walk qu_edits qu_said fu_size fu_places fu_reads fu_there fu_total fu_walked fu_edited fu_written v fu_end fu_began fu_many au_text)) := by
  refine CTi.std (by decide) (Nat.le_of_ble_eq_true rfl) ?_
  intro p e s m args below meth c A ls QF C0 hP hD hl hS hsz hret
  obtain ⟨hx, hb, hr, hml, hown, hts, hlocks, hN, hA, hK, hnm⟩ := id C0
  have hown : s.vm.findClass R_Mo = some m.cls := hown
  have hl : lv_has ls 2 [(0, .ref qu), (1, .int p1)] := hl
  clear hsz
  unfold wp_Mo_eat at h
  refine lv_aload_n hx hb d_Mo_eat_0 rfl (lv_at hl 0 rfl) ?_
  refine va_get (D := (dC, dI)) (ci := 6) (v := .int fu_at) (C := R_Mo) (T := T_Mo) (N := 33) hx hb hts in_Mo hown hK hP 0 rfl rfl 29 (by decide) (hts _ w_274) (fun _ h9 => h9) rfl d_Mo_eat_1 ?_
  refine lv_aload_n hx hb d_Mo_eat_4 rfl (lv_at hl 0 rfl) ?_
  refine va_get (D := (dC, dI)) (ci := 6) (v := .int fu_end) (C := R_Mo) (T := T_Mo) (N := 33) hx hb hts in_Mo hown hK hP 0 rfl rfl 30 (by decide) (hts _ w_275) (fun _ h9 => h9) rfl d_Mo_eat_5 ?_
  refine lv_icmp_ge (tgt := 24) hx hb d_Mo_eat_8 (by decide) (fun c_1 => ?_) (fun c_1 => ?_)
  · have h := h.1 c_1
    refine lv_iconst (v := 0) hx hb d_Mo_eat_24 (by decide) ?_
    exact hret fu_at () 0 _ _ _ _ rfl h hP hD hS d_Mo_eat_25
  · have h := h.2 c_1
    refine lv_aload_n hx hb d_Mo_eat_11 rfl (lv_at hl 0 rfl) ?_
    refine va_get (D := (dC, dI)) (ci := 6) (v := .ref qu_text) (C := R_Mo) (T := T_Mo) (N := 33) hx hb hts in_Mo hown hK hP 0 rfl rfl 1 (by decide) (hts _ w_273) (fun _ h9 => h9) rfl d_Mo_eat_12 ?_
    refine lv_aload_n hx hb d_Mo_eat_15 rfl (lv_at hl 0 rfl) ?_
    refine va_get (D := (dC, dI)) (ci := 6) (v := .int fu_at) (C := R_Mo) (T := T_Mo) (N := 33) hx hb hts in_Mo hown hK hP 0 rfl rfl 29 (by decide) (hts _ w_274) (fun _ h9 => h9) rfl d_Mo_eat_16 ?_
    have hi_2 := h.1
    have h := h.2
    refine va_cald hx hb hK hP 1 1 rfl rfl hi_2 d_Mo_eat_19 ?_
    refine lv_topi (fun y_3 ey_3 => ?_)
    have h := h y_3 ey_3
    refine lv_iload_n hx hb d_Mo_eat_20 rfl (lv_at hl 1 rfl) ?_
    refine lv_icmp_eq (tgt := 26) hx hb d_Mo_eat_21 (by decide) (fun c_4 => ?_) (fun c_4 => ?_)
    · have h := h.1 c_4
      refine lv_aload_n hx hb d_Mo_eat_26 rfl (lv_at hl 0 rfl) ?_
      refine lv_dup hx hb d_Mo_eat_27 rfl ?_
      refine va_get (D := (dC, dI)) (ci := 6) (v := .int fu_at) (C := R_Mo) (T := T_Mo) (N := 33) hx hb hts in_Mo hown hK hP 0 rfl rfl 29 (by decide) (hts _ w_274) (fun _ h9 => h9) rfl d_Mo_eat_28 ?_
      refine lv_iconst (v := 1) hx hb d_Mo_eat_31 (by decide) ?_
      refine lv_iadd hx hb d_Mo_eat_32 ?_
      refine lv_topi (fun x_5 ex_5 => ?_)
      have h := h x_5 ex_5
      refine va_put (D := (dC, dI)) (ci := 6) (v := .int x_5) (ty := .int) (C := R_Mo) (T := T_Mo) (N := 33) hx hb hts in_Mo t_Mo t_Mo_ok n_Mo hown hK hP hD hS 0 rfl rfl 29 (by decide) (hts _ w_274) (fun _ h9 => h9) rfl (by decide +kernel) rfl rfl (Nat.le_of_ble_eq_true rfl) d_Mo_eat_33 (fun H locs hP hD hS => ?_)
      have hP : va_P (dC, dI) cls (W_Mo_eat cI cC cB qu qu_text qu_segments qu_names qu_nameSize qu_bases qu_length qu_links qu_from qu_to qu_paths qu_titles qu_titleSize qu_steps qu_step qu_sideOf qu_within qu_read qu_cost qu_walk qu_edits qu_said fu_size fu_places fu_reads fu_there fu_total fu_walked fu_edited fu_written x_5 fu_end fu_began fu_many au_text) H := hP
      have hD : va_D A (W_Mo_eat cI cC cB qu qu_text qu_segments qu_names qu_nameSize qu_bases qu_length qu_links qu_from qu_to qu_paths qu_titles qu_titleSize qu_steps qu_step qu_sideOf qu_within qu_read qu_cost qu_walk qu_edits qu_said fu_size fu_places fu_reads fu_there fu_total fu_walked fu_edited fu_written x_5 fu_end fu_began fu_many au_text) := hD
      refine lv_iconst (v := 1) hx hb d_Mo_eat_36 (by decide) ?_
      exact hret x_5 () 1 _ _ _ _ rfl h hP hD hS d_Mo_eat_37
    · have h := h.2 c_4
      refine lv_iconst (v := 0) hx hb d_Mo_eat_24 (by decide) ?_
      exact hret fu_at () 0 _ _ _ _ rfl h hP hD hS d_Mo_eat_25
def w_Mo_inName_24 (Q : Int32 → Unit → Prop)    : Prop := Q 1 ()
def w_Mo_inName_12 (Q : Int32 → Unit → Prop)  (p0 : Int32)  : Prop := ((p0 < 48 → (Q 0 ())) ∧ (¬ p0 < 48 → (((57 < p0 → (Q 0 ())) ∧ (¬ 57 < p0 → (w_Mo_inName_24 Q  ))))))
def wp_Mo_inName (Q : Int32 → Unit → Prop) (p0 : Int32)  : Prop := ((p0 < 97 → (w_Mo_inName_12 Q p0 )) ∧ (¬ p0 < 97 → (((p0 ≤ 122 → (w_Mo_inName_24 Q  )) ∧ (¬ p0 ≤ 122 → (w_Mo_inName_12 Q p0 ))))))
abbrev rm_Mo_inName : Room := { frames := 0, cells := 0, slots := 0, locals := 0 }
set_option maxHeartbeats 4000000 in
set_option maxRecDepth 100000 in
theorem k_Mo_inName (l : Launch) (dC : Nat → ClassId) (dI : Nat → Nat → Nat) (cI cC cB : ClassId) (sz : Nat)   (p0 : Int32) {Q : Int32 → Unit → Prop} (h : wp_Mo_inName Q p0 ) :
    CTi l y_Mo_inName (wM y_Mo_inName c_Mo_inName 1 (some .boolean)) rm_Mo_inName 0 0 (dC, dI) (tysL cI cC cB) [.int p0] [] sz Q (fun (v : Unit) (_ : Unit) => []) := by
  refine CTi.std (by decide) (Nat.le_of_ble_eq_true rfl) ?_
  intro p e s m args below meth c A ls QF C0 hP hD hl hS hsz hret
  obtain ⟨hx, hb, hr, hml, hown, hts, hlocks, hN, hA, hK, hnm⟩ := id C0
  have hown : s.vm.findClass R_Mo = some m.cls := hown
  have hl : lv_has ls 1 [(0, .int p0)] := hl
  clear hsz
  have blk_24 : ∀   (H : Heap) (locs : List Loc) (ls : Array Slot), w_Mo_inName_24 Q    → va_P (dC, dI) cls [] H → va_D A [] → va_S A s.heap H locs → lv_has ls 1 [] → W p l e rm_Mo_inName s m args below meth c H locs 0 0 QF (F0 m 24 ls []) := by
    intro   H locs ls h hP hD hS hl
    unfold w_Mo_inName_24 at h
    refine lv_iconst (v := 1) hx hb d_Mo_inName_24 (by decide) ?_
    refine lv_goto (tgt := 29) hx hb d_Mo_inName_25 (by decide) ?_
    exact hret () () 1 _ _ _ _ rfl h hP hD hS d_Mo_inName_29
  have blk_12 : ∀   (H : Heap) (locs : List Loc) (ls : Array Slot), w_Mo_inName_12 Q  p0  → va_P (dC, dI) cls [] H → va_D A [] → va_S A s.heap H locs → lv_has ls 1 [(0, .int p0)] → W p l e rm_Mo_inName s m args below meth c H locs 0 0 QF (F0 m 12 ls []) := by
    intro   H locs ls h hP hD hS hl
    unfold w_Mo_inName_12 at h
    refine lv_iload_n hx hb d_Mo_inName_12 rfl (lv_at hl 0 rfl) ?_
    refine lv_bipush (v := 48) hx hb d_Mo_inName_13 (by decide) ?_
    refine lv_icmp_lt (tgt := 28) hx hb d_Mo_inName_15 (by decide) (fun c_1 => ?_) (fun c_1 => ?_)
    · have h := h.1 c_1
      refine lv_iconst (v := 0) hx hb d_Mo_inName_28 (by decide) ?_
      exact hret () () 0 _ _ _ _ rfl h hP hD hS d_Mo_inName_29
    · have h := h.2 c_1
      refine lv_iload_n hx hb d_Mo_inName_18 rfl (lv_at hl 0 rfl) ?_
      refine lv_bipush (v := 57) hx hb d_Mo_inName_19 (by decide) ?_
      refine lv_icmp_gt (tgt := 28) hx hb d_Mo_inName_21 (by decide) (fun c_2 => ?_) (fun c_2 => ?_)
      · have h := h.1 c_2
        refine lv_iconst (v := 0) hx hb d_Mo_inName_28 (by decide) ?_
        exact hret () () 0 _ _ _ _ rfl h hP hD hS d_Mo_inName_29
      · have h := h.2 c_2
        exact blk_24  _ _ _ h hP hD hS (lv_sub hl [] rfl)
  unfold wp_Mo_inName at h
  refine lv_iload_n hx hb d_Mo_inName_0 rfl (lv_at hl 0 rfl) ?_
  refine lv_bipush (v := 97) hx hb d_Mo_inName_1 (by decide) ?_
  refine lv_icmp_lt (tgt := 12) hx hb d_Mo_inName_3 (by decide) (fun c_3 => ?_) (fun c_3 => ?_)
  · have h := h.1 c_3
    exact blk_12  _ _ _ h hP hD hS (lv_sub hl [0] rfl)
  · have h := h.2 c_3
    refine lv_iload_n hx hb d_Mo_inName_6 rfl (lv_at hl 0 rfl) ?_
    refine lv_bipush (v := 122) hx hb d_Mo_inName_7 (by decide) ?_
    refine lv_icmp_le (tgt := 24) hx hb d_Mo_inName_9 (by decide) (fun c_4 => ?_) (fun c_4 => ?_)
    · have h := h.1 c_4
      exact blk_24  _ _ _ h hP hD hS (lv_sub hl [] rfl)
    · have h := h.2 c_4
      exact blk_12  _ _ _ h hP hD hS (lv_sub hl [0] rfl)
