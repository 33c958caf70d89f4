abbrev W_X_least (cI cC cB : ClassId) (qu : Nat) (qu_reading : Nat) (qu_reading_bases : Nat) (qu_costs : Nat) (qu_costs_table : Nat) (qu_graph : Nat) (qu_graph_placeBases : Nat) (qu_graph_joinFrom : Nat) (qu_graph_joinTo : Nat) (qu_text : Nat) (qu_result : Nat) (qu_told : Nat) (qu_spare : Nat) (qu_graph_segmentNames : Nat) (qu_graph_sideStarts : Nat) (qu_graph_placeSides : Nat) (qu_graph_followers : Nat) (qu_graph_pathNames : Nat) (qu_graph_stepCounts : Nat) (qu_graph_steps : Nat) (fu_reading_length : Int32) (au_reading_bases : Nat → Int32) (au_costs_table : Nat → Int32) (fu_graph_segments : Int32) (fu_graph_links : Int32) (fu_graph_paths : Int32) (fu_graph_places : Int32) (fu_graph_joins : Int32) (au_graph_placeBases : Nat → Int32) (au_graph_joinFrom : Nat → Int32) (au_graph_joinTo : Nat → Int32) : va_W := [(qu, .inr (0, [.ref qu_text, .ref qu_reading, .ref qu_costs, .ref qu_result, .ref qu_told, .ref qu_graph, .ref qu_spare])), (qu_reading, .inr (2, [.ref qu_reading_bases, .int fu_reading_length])), (qu_reading_bases, .inl (cC, 12, .inl au_reading_bases)), (qu_costs, .inr (3, [.ref qu_costs_table])), (qu_costs_table, .inl (cI, 832, .inl au_costs_table)), (qu_graph, .inr (5, [.int fu_graph_segments, .int fu_graph_links, .int fu_graph_paths, .int fu_graph_places, .int fu_graph_joins, .ref qu_graph_segmentNames, .ref qu_graph_sideStarts, .ref qu_graph_placeBases, .ref qu_graph_placeSides, .ref qu_graph_followers, .ref qu_graph_pathNames, .ref qu_graph_stepCounts, .ref qu_graph_steps, .ref qu_graph_joinFrom, .ref qu_graph_joinTo])), (qu_graph_placeBases, .inl (cC, 64, .inl au_graph_placeBases)), (qu_graph_joinFrom, .inl (cI, 72, .inl au_graph_joinFrom)), (qu_graph_joinTo, .inl (cI, 72, .inl au_graph_joinTo))]
def wp_X_least (Q : Int32 → (Nat → Int32) → Prop) (p1 : Int32) (p2 : Int32) (fu_reading_length : Int32) (au_reading_bases : Nat → Int32) (au_costs_table : Nat → Int32) (fu_graph_places : Int32) (fu_graph_joins : Int32) (au_graph_placeBases : Nat → Int32) (au_graph_joinFrom : Nat → Int32) (au_graph_joinTo : Nat → Int32) : Prop := ((p1 < 0 → (Q (-1) au_costs_table)) ∧ (¬ p1 < 0 → (((fu_reading_length < p1 → (Q (-1) au_costs_table)) ∧ (¬ fu_reading_length < p1 → (wp_Gr_hasPlace (fun r_4 v_3 => ((r_4 = 0 → (Q (-1) au_costs_table)) ∧ (¬ r_4 = 0 → (wp_Co_fill (fun v_6 => wp_Co_at (fun r_9 v_8 => Q r_9 v_6) p1 p2 v_6) p1 au_costs_table fu_graph_places fu_graph_joins au_graph_placeBases au_graph_joinFrom au_graph_joinTo au_reading_bases)))) p2 fu_graph_places))))))
abbrev rm_X_least : Room := { frames := 4, cells := 0, slots := 0, locals := 95 }
set_option maxHeartbeats 4000000 in
set_option maxRecDepth 100000 in
theorem k_X_least (l : Launch) (dC : Nat → ClassId) (dI : Nat → Nat → Nat) (cI cC cB : ClassId) (sz : Nat) (qu : Nat) (qu_reading : Nat) (qu_reading_bases : Nat) (qu_costs : Nat) (qu_costs_table : Nat) (qu_graph : Nat) (qu_graph_placeBases : Nat) (qu_graph_joinFrom : Nat) (qu_graph_joinTo : Nat) (qu_text : Nat) (qu_result : Nat) (qu_told : Nat) (qu_spare : Nat) (qu_graph_segmentNames : Nat) (qu_graph_sideStarts : Nat) (qu_graph_placeSides : Nat) (qu_graph_followers : Nat) (qu_graph_pathNames : Nat) (qu_graph_stepCounts : Nat) (qu_graph_steps : Nat) (fu_reading_length : Int32) (au_reading_bases : Nat → Int32) (au_costs_table : Nat → Int32) (fu_graph_segments : Int32) (fu_graph_links : Int32) (fu_graph_paths : Int32) (fu_graph_places : Int32) (fu_graph_joins : Int32) (au_graph_placeBases : Nat → Int32) (au_graph_joinFrom : Nat → Int32) (au_graph_joinTo : Nat → Int32) (p1 : Int32) (p2 : Int32) {Q : Int32 → (Nat → Int32) → Prop} (h : wp_X_least Q p1 p2 fu_reading_length au_reading_bases au_costs_table fu_graph_places fu_graph_joins au_graph_placeBases au_graph_joinFrom au_graph_joinTo) :
    CTi l y_X_least (wM y_X_least c_X_least 3 (some .int)) rm_X_least 0 0 (dC, dI) (tysL cI cC cB) [.ref qu, .int p1, .int p2] (W_X_least cI cC cB qu qu_reading qu_reading_bases qu_costs qu_costs_table qu_graph qu_graph_placeBases qu_graph_joinFrom qu_graph_joinTo qu_text qu_result qu_told qu_spare qu_graph_segmentNames qu_graph_sideStarts qu_graph_placeSides qu_graph_followers qu_graph_pathNames qu_graph_stepCounts qu_graph_steps fu_reading_length au_reading_bases au_costs_table fu_graph_segments fu_graph_links fu_graph_paths fu_graph_places fu_graph_joins au_graph_placeBases au_graph_joinFrom au_graph_joinTo) sz Q (fun (v : (Nat → Int32)) (b : Unit) => (W_X_least cI cC cB qu qu_reading qu_reading_bases qu_costs qu_costs_table qu_graph qu_graph_placeBases qu_graph_joinFrom qu_graph_joinTo qu_text qu_result qu_told qu_spare qu_graph_segmentNames qu_graph_sideStarts qu_graph_placeSides qu_graph_followers qu_graph_pathNames qu_graph_stepCounts qu_graph_steps fu_reading_length au_reading_bases v fu_graph_segments fu_graph_links fu_graph_paths fu_graph_places fu_graph_joins au_graph_placeBases au_graph_joinFrom au_graph_joinTo)) := by
  refine CTi.std (by decide) (Nat.le_of_ble_eq_true rfl) ?_
  intro p e s m args below meth c A ls QF C0 hP hD hl hS hsz hnm hret
  obtain ⟨hx, hb, hr, hml, hown, hts, hlocks, hN, hA, hK⟩ := id C0
  have hown : s.vm.findClass R_X = some m.cls := hown
  have hl : lv_has ls 3 [(0, .ref qu), (1, .int p1), (2, .int p2)] := hl
  clear hsz hnm
  unfold wp_X_least at h
  refine lv_iload_n hx hb d_X_least_0 rfl (lv_at hl 1 rfl) ?_
  refine lv_if_lt (tgt := 26) hx hb d_X_least_1 (by decide) (fun c_1 => ?_) (fun c_1 => ?_)
  · have h := h.1 c_1
    refine lv_iconst (v := (-1)) hx hb d_X_least_26 (by decide) ?_
    exact hret au_costs_table () (-1) _ _ _ _ rfl h hP hD hS d_X_least_27
  · have h := h.2 c_1
    refine lv_iload_n hx hb d_X_least_4 rfl (lv_at hl 1 rfl) ?_
    refine lv_aload_n hx hb d_X_least_5 rfl (lv_at hl 0 rfl) ?_
    refine va_get (D := (dC, dI)) (ci := 0) (v := .ref qu_reading) (C := R_X) (T := T_X) (N := 7) hx hb hts in_X hown hK hP 0 rfl rfl 1 (by decide) (hts _ w_154) (fun _ h9 => h9) rfl d_X_least_6 ?_
    refine va_get (D := (dC, dI)) (ci := 2) (v := .int fu_reading_length) (C := R_Re) (T := T_Re) (N := 2) hx hb hts in_Re hown hK hP 1 rfl rfl 1 (by decide) (hts _ w_162) (fun _ h9 => h9) rfl d_X_least_9 ?_
    refine lv_icmp_gt (tgt := 26) hx hb d_X_least_12 (by decide) (fun c_2 => ?_) (fun c_2 => ?_)
    · have h := h.1 c_2
      refine lv_iconst (v := (-1)) hx hb d_X_least_26 (by decide) ?_
      exact hret au_costs_table () (-1) _ _ _ _ rfl h hP hD hS d_X_least_27
    · have h := h.2 c_2
      refine lv_aload_n hx hb d_X_least_15 rfl (lv_at hl 0 rfl) ?_
      refine va_get (D := (dC, dI)) (ci := 0) (v := .ref qu_graph) (C := R_X) (T := T_X) (N := 7) hx hb hts in_X hown hK hP 0 rfl rfl 5 (by decide) (hts _ w_127) (fun _ h9 => h9) rfl d_X_least_16 ?_
      refine lv_iload_n hx hb d_X_least_19 rfl (lv_at hl 2 rfl) ?_
      refine call_V_i (As := [.int p2]) (rest := []) C0 hP hD hS [5] [0, 1, 2, 3, 4, 6, 7, 8] [0, 1, 2, 3, 4, 8, 5, 6, 7] [(qu, .inr (0, [.ref qu_text, .ref qu_reading, .ref qu_costs, .ref qu_result, .ref qu_told, .ref qu_graph, .ref qu_spare])), (qu_reading, .inr (2, [.ref qu_reading_bases, .int fu_reading_length])), (qu_reading_bases, .inl (cC, 12, .inl au_reading_bases)), (qu_costs, .inr (3, [.ref qu_costs_table])), (qu_costs_table, .inl (cI, 832, .inl au_costs_table)), (qu_graph_placeBases, .inl (cC, 64, .inl au_graph_placeBases)), (qu_graph_joinFrom, .inl (cI, 72, .inl au_graph_joinFrom)), (qu_graph_joinTo, .inl (cI, 72, .inl au_graph_joinTo))] (fun (v : Unit) (b : Unit) => (W_X_least cI cC cB qu qu_reading qu_reading_bases qu_costs qu_costs_table qu_graph qu_graph_placeBases qu_graph_joinFrom qu_graph_joinTo qu_text qu_result qu_told qu_spare qu_graph_segmentNames qu_graph_sideStarts qu_graph_placeSides qu_graph_followers qu_graph_pathNames qu_graph_stepCounts qu_graph_steps fu_reading_length au_reading_bases au_costs_table fu_graph_segments fu_graph_links fu_graph_paths fu_graph_places fu_graph_joins au_graph_placeBases au_graph_joinFrom au_graph_joinTo)) (ci := 5) rfl rfl (k_Gr_hasPlace l dC dI cI cC cB _ qu_graph qu_graph_segmentNames qu_graph_sideStarts qu_graph_placeBases qu_graph_placeSides qu_graph_followers qu_graph_pathNames qu_graph_stepCounts qu_graph_steps qu_graph_joinFrom qu_graph_joinTo fu_graph_segments fu_graph_links fu_graph_paths fu_graph_places fu_graph_joins p2 h) (g_V w_147 w_148 w_149 w_40 w_146) 1 rfl (by decide +kernel) rfl rfl ⟨Nat.le_of_ble_eq_true rfl, Nat.le_of_ble_eq_true rfl⟩ rfl rfl (by decide) (by decide) (by decide) (by decide) (fun _ _ => rfl) hl.1 rfl (Nat.le_of_ble_eq_true rfl) d_X_least_20 ⟨Nat.le_of_ble_eq_true rfl, Nat.le_of_ble_eq_true rfl⟩ (fun r_4 v_3 _ H locs h hP hD hS => ?_)
      have hP : va_P (dC, dI) cls (W_X_least cI cC cB qu qu_reading qu_reading_bases qu_costs qu_costs_table qu_graph qu_graph_placeBases qu_graph_joinFrom qu_graph_joinTo qu_text qu_result qu_told qu_spare qu_graph_segmentNames qu_graph_sideStarts qu_graph_placeSides qu_graph_followers qu_graph_pathNames qu_graph_stepCounts qu_graph_steps fu_reading_length au_reading_bases au_costs_table fu_graph_segments fu_graph_links fu_graph_paths fu_graph_places fu_graph_joins au_graph_placeBases au_graph_joinFrom au_graph_joinTo) H := hP
      have hD : va_D A (W_X_least cI cC cB qu qu_reading qu_reading_bases qu_costs qu_costs_table qu_graph qu_graph_placeBases qu_graph_joinFrom qu_graph_joinTo qu_text qu_result qu_told qu_spare qu_graph_segmentNames qu_graph_sideStarts qu_graph_placeSides qu_graph_followers qu_graph_pathNames qu_graph_stepCounts qu_graph_steps fu_reading_length au_reading_bases au_costs_table fu_graph_segments fu_graph_links fu_graph_paths fu_graph_places fu_graph_joins au_graph_placeBases au_graph_joinFrom au_graph_joinTo) := hD
      refine lv_if_ne (tgt := 28) hx hb d_X_least_23 (by decide) (fun c_5 => ?_) (fun c_5 => ?_)
      · have h := h.2 c_5
        refine lv_aload_n hx hb d_X_least_28 rfl (lv_at hl 0 rfl) ?_
        refine va_get (D := (dC, dI)) (ci := 0) (v := .ref qu_costs) (C := R_X) (T := T_X) (N := 7) hx hb hts in_X hown hK hP 0 rfl rfl 2 (by decide) (hts _ w_163) (fun _ h9 => h9) rfl d_X_least_29 ?_
        refine lv_aload_n hx hb d_X_least_32 rfl (lv_at hl 0 rfl) ?_
        refine va_get (D := (dC, dI)) (ci := 0) (v := .ref qu_graph) (C := R_X) (T := T_X) (N := 7) hx hb hts in_X hown hK hP 0 rfl rfl 5 (by decide) (hts _ w_127) (fun _ h9 => h9) rfl d_X_least_33 ?_
        refine lv_aload_n hx hb d_X_least_36 rfl (lv_at hl 0 rfl) ?_
        refine va_get (D := (dC, dI)) (ci := 0) (v := .ref qu_reading) (C := R_X) (T := T_X) (N := 7) hx hb hts in_X hown hK hP 0 rfl rfl 1 (by decide) (hts _ w_154) (fun _ h9 => h9) rfl d_X_least_37 ?_
        refine lv_iload_n hx hb d_X_least_40 rfl (lv_at hl 1 rfl) ?_
        refine call_V_v (As := [.ref qu_graph, .ref qu_reading, .int p1]) (rest := []) C0 hP hD hS [3, 4, 5, 6, 7, 8, 1, 2] [0] [0, 7, 8, 1, 2, 3, 4, 5, 6] [(qu, .inr (0, [.ref qu_text, .ref qu_reading, .ref qu_costs, .ref qu_result, .ref qu_told, .ref qu_graph, .ref qu_spare]))] (fun (v : (Nat → Int32)) (b : Unit) => (W_X_least cI cC cB qu qu_reading qu_reading_bases qu_costs qu_costs_table qu_graph qu_graph_placeBases qu_graph_joinFrom qu_graph_joinTo qu_text qu_result qu_told qu_spare qu_graph_segmentNames qu_graph_sideStarts qu_graph_placeSides qu_graph_followers qu_graph_pathNames qu_graph_stepCounts qu_graph_steps fu_reading_length au_reading_bases v fu_graph_segments fu_graph_links fu_graph_paths fu_graph_places fu_graph_joins au_graph_placeBases au_graph_joinFrom au_graph_joinTo)) (ci := 3) rfl rfl (k_Co_fill l dC dI cI cC cB _ qu_costs qu_costs_table qu_graph qu_graph_placeBases qu_graph_joinFrom qu_graph_joinTo qu_reading qu_reading_bases qu_graph_segmentNames qu_graph_sideStarts qu_graph_placeSides qu_graph_followers qu_graph_pathNames qu_graph_stepCounts qu_graph_steps au_costs_table fu_graph_segments fu_graph_links fu_graph_paths fu_graph_places fu_graph_joins au_graph_placeBases au_graph_joinFrom au_graph_joinTo fu_reading_length au_reading_bases p1 h) (g_V w_261 w_262 w_263 w_172 w_260) 3 rfl (by decide +kernel) rfl rfl ⟨Nat.le_of_ble_eq_true rfl, Nat.le_of_ble_eq_true rfl⟩ rfl rfl (by decide) (by decide) (by decide) (by decide) (fun _ _ => rfl) hl.1 rfl (Nat.le_of_ble_eq_true rfl) d_X_least_41 ⟨Nat.le_of_ble_eq_true rfl, Nat.le_of_ble_eq_true rfl⟩ (fun v_6 _ H locs h hP hD hS => ?_)
        have hP : va_P (dC, dI) cls (W_X_least cI cC cB qu qu_reading qu_reading_bases qu_costs qu_costs_table qu_graph qu_graph_placeBases qu_graph_joinFrom qu_graph_joinTo qu_text qu_result qu_told qu_spare qu_graph_segmentNames qu_graph_sideStarts qu_graph_placeSides qu_graph_followers qu_graph_pathNames qu_graph_stepCounts qu_graph_steps fu_reading_length au_reading_bases v_6 fu_graph_segments fu_graph_links fu_graph_paths fu_graph_places fu_graph_joins au_graph_placeBases au_graph_joinFrom au_graph_joinTo) H := hP
        have hD : va_D A (W_X_least cI cC cB qu qu_reading qu_reading_bases qu_costs qu_costs_table qu_graph qu_graph_placeBases qu_graph_joinFrom qu_graph_joinTo qu_text qu_result qu_told qu_spare qu_graph_segmentNames qu_graph_sideStarts qu_graph_placeSides qu_graph_followers qu_graph_pathNames qu_graph_stepCounts qu_graph_steps fu_reading_length au_reading_bases v_6 fu_graph_segments fu_graph_links fu_graph_paths fu_graph_places fu_graph_joins au_graph_placeBases au_graph_joinFrom au_graph_joinTo) := hD
        refine lv_aload_n hx hb d_X_least_44 rfl (lv_at hl 0 rfl) ?_
        refine va_get (D := (dC, dI)) (ci := 0) (v := .ref qu_costs) (C := R_X) (T := T_X) (N := 7) hx hb hts in_X hown hK hP 0 rfl rfl 2 (by decide) (hts _ w_163) (fun _ h9 => h9) rfl d_X_least_45 ?_
        refine lv_iload_n hx hb d_X_least_48 rfl (lv_at hl 1 rfl) ?_
        refine lv_iload_n hx hb d_X_least_49 rfl (lv_at hl 2 rfl) ?_
        refine call_V_i (As := [.int p1, .int p2]) (rest := []) C0 hP hD hS [3, 4] [0, 1, 2, 5, 6, 7, 8] [0, 1, 2, 7, 8, 3, 4, 5, 6] [(qu, .inr (0, [.ref qu_text, .ref qu_reading, .ref qu_costs, .ref qu_result, .ref qu_told, .ref qu_graph, .ref qu_spare])), (qu_reading, .inr (2, [.ref qu_reading_bases, .int fu_reading_length])), (qu_reading_bases, .inl (cC, 12, .inl au_reading_bases)), (qu_graph, .inr (5, [.int fu_graph_segments, .int fu_graph_links, .int fu_graph_paths, .int fu_graph_places, .int fu_graph_joins, .ref qu_graph_segmentNames, .ref qu_graph_sideStarts, .ref qu_graph_placeBases, .ref qu_graph_placeSides, .ref qu_graph_followers, .ref qu_graph_pathNames, .ref qu_graph_stepCounts, .ref qu_graph_steps, .ref qu_graph_joinFrom, .ref qu_graph_joinTo])), (qu_graph_placeBases, .inl (cC, 64, .inl au_graph_placeBases)), (qu_graph_joinFrom, .inl (cI, 72, .inl au_graph_joinFrom)), (qu_graph_joinTo, .inl (cI, 72, .inl au_graph_joinTo))] (fun (v : Unit) (b : Unit) => (W_X_least cI cC cB qu qu_reading qu_reading_bases qu_costs qu_costs_table qu_graph qu_graph_placeBases qu_graph_joinFrom qu_graph_joinTo qu_text qu_result qu_told qu_spare qu_graph_segmentNames qu_graph_sideStarts qu_graph_placeSides qu_graph_followers qu_graph_pathNames qu_graph_stepCounts qu_graph_steps fu_reading_length au_reading_bases v_6 fu_graph_segments fu_graph_links fu_graph_paths fu_graph_places fu_graph_joins au_graph_placeBases au_graph_joinFrom au_graph_joinTo)) (ci := 3) rfl rfl (k_Co_at l dC dI cI cC cB _ qu_costs qu_costs_table v_6 p1 p2 h) (g_V w_264 w_170 w_171 w_172 w_168) 2 rfl (by decide +kernel) rfl rfl ⟨Nat.le_of_ble_eq_true rfl, Nat.le_of_ble_eq_true rfl⟩ rfl rfl (by decide) (by decide) (by decide) (by decide) (fun _ _ => rfl) hl.1 rfl (Nat.le_of_ble_eq_true rfl) d_X_least_50 ⟨Nat.le_of_ble_eq_true rfl, Nat.le_of_ble_eq_true rfl⟩ (fun r_9 v_8 _ H locs h hP hD hS => ?_)
        have hP : va_P (dC, dI) cls (W_X_least cI cC cB qu qu_reading qu_reading_bases qu_costs qu_costs_table qu_graph qu_graph_placeBases qu_graph_joinFrom qu_graph_joinTo qu_text qu_result qu_told qu_spare qu_graph_segmentNames qu_graph_sideStarts qu_graph_placeSides qu_graph_followers qu_graph_pathNames qu_graph_stepCounts qu_graph_steps fu_reading_length au_reading_bases v_6 fu_graph_segments fu_graph_links fu_graph_paths fu_graph_places fu_graph_joins au_graph_placeBases au_graph_joinFrom au_graph_joinTo) H := hP
        have hD : va_D A (W_X_least cI cC cB qu qu_reading qu_reading_bases qu_costs qu_costs_table qu_graph qu_graph_placeBases qu_graph_joinFrom qu_graph_joinTo qu_text qu_result qu_told qu_spare qu_graph_segmentNames qu_graph_sideStarts qu_graph_placeSides qu_graph_followers qu_graph_pathNames qu_graph_stepCounts qu_graph_steps fu_reading_length au_reading_bases v_6 fu_graph_segments fu_graph_links fu_graph_paths fu_graph_places fu_graph_joins au_graph_placeBases au_graph_joinFrom au_graph_joinTo) := hD
        exact hret v_6 () r_9 _ _ _ _ rfl h hP hD hS d_X_least_53
      · have h := h.1 c_5
        refine lv_iconst (v := (-1)) hx hb d_X_least_26 (by decide) ?_
        exact hret au_costs_table () (-1) _ _ _ _ rfl h hP hD hS d_X_least_27
abbrev W_X_walk (cI cC cB : ClassId) (qu : Nat) (qu_result : Nat) (qu_result_walkBackwards : Nat) (qu_text : Nat) (qu_reading : Nat) (qu_costs : Nat) (qu_told : Nat) (qu_graph : Nat) (qu_spare : Nat) (qu_result_sides : Nat) (qu_result_editsBackwards : Nat) (fu_result_found : Int32) (fu_result_cost : Int32) (fu_result_walkLength : Int32) (fu_result_editCount : Int32) (fu_result_sideCount : Int32) (fu_result_basesLeft : Int32) (fu_result_place : Int32) (au_result_walkBackwards : Nat → Int32) : va_W := [(qu, .inr (0, [.ref qu_text, .ref qu_reading, .ref qu_costs, .ref qu_result, .ref qu_told, .ref qu_graph, .ref qu_spare])), (qu_result, .inr (4, [.int fu_result_found, .int fu_result_cost, .int fu_result_walkLength, .int fu_result_editCount, .int fu_result_sideCount, .ref qu_result_sides, .ref qu_result_walkBackwards, .ref qu_result_editsBackwards, .int fu_result_basesLeft, .int fu_result_place])), (qu_result_walkBackwards, .inl (cI, 25, .inl au_result_walkBackwards))]
def wp_X_walk (Q : Int32 → Unit → Prop) (p1 : Int32) (fu_result_found : Int32) (fu_result_walkLength : Int32) (au_result_walkBackwards : Nat → Int32) : Prop := ((fu_result_found = 0 → (Q (-1) ())) ∧ (¬ fu_result_found = 0 → (((p1 < 0 → (Q (-1) ())) ∧ (¬ p1 < 0 → (((fu_result_walkLength ≤ p1 → (Q (-1) ())) ∧ (¬ fu_result_walkLength ≤ p1 → (wp_Rs_placeAt (fun r_5 v_4 => Q r_5 ()) p1 fu_result_walkLength au_result_walkBackwards)))))))))
abbrev rm_X_walk : Room := { frames := 1, cells := 0, slots := 0, locals := 21 }
set_option maxHeartbeats 4000000 in
set_option maxRecDepth 100000 in
theorem k_X_walk (l : Launch) (dC : Nat → ClassId) (dI : Nat → Nat → Nat) (cI cC cB : ClassId) (sz : Nat) (qu : Nat) (qu_result : Nat) (qu_result_walkBackwards : Nat) (qu_text : Nat) (qu_reading : Nat) (qu_costs : Nat) (qu_told : Nat) (qu_graph : Nat) (qu_spare : Nat) (qu_result_sides : Nat) (qu_result_editsBackwards : Nat) (fu_result_found : Int32) (fu_result_cost : Int32) (fu_result_walkLength : Int32) (fu_result_editCount : Int32) (fu_result_sideCount : Int32) (fu_result_basesLeft : Int32) (fu_result_place : Int32) (au_result_walkBackwards : Nat → Int32) (p1 : Int32) {Q : Int32 → Unit → Prop} (h : wp_X_walk Q p1 fu_result_found fu_result_walkLength au_result_walkBackwards) :
    CTi l y_X_walk (wM y_X_walk c_X_walk 2 (some .int)) rm_X_walk 0 0 (dC, dI) (tysL cI cC cB) [.ref qu, .int p1] (W_X_walk cI cC cB qu qu_result qu_result_walkBackwards qu_text qu_reading qu_costs qu_told qu_graph qu_spare qu_result_sides qu_result_editsBackwards fu_result_found fu_result_cost fu_result_walkLength fu_result_editCount fu_result_sideCount fu_result_basesLeft fu_result_place au_result_walkBackwards) sz Q (fun (v : Unit) (b : Unit) => (W_X_walk cI cC cB qu qu_result qu_result_walkBackwards qu_text qu_reading qu_costs qu_told qu_graph qu_spare qu_result_sides qu_result_editsBackwards fu_result_found fu_result_cost fu_result_walkLength fu_result_editCount fu_result_sideCount fu_result_basesLeft fu_result_place au_result_walkBackwards)) := by
  refine CTi.std (by decide) (Nat.le_of_ble_eq_true rfl) ?_
  intro p e s m args below meth c A ls QF C0 hP hD hl hS hsz hnm hret
  obtain ⟨hx, hb, hr, hml, hown, hts, hlocks, hN, hA, hK⟩ := id C0
  have hown : s.vm.findClass R_X = some m.cls := hown
  have hl : lv_has ls 2 [(0, .ref qu), (1, .int p1)] := hl
  clear hsz hnm
  unfold wp_X_walk at h
  refine lv_aload_n hx hb d_X_walk_0 rfl (lv_at hl 0 rfl) ?_
  refine va_get (D := (dC, dI)) (ci := 0) (v := .ref qu_result) (C := R_X) (T := T_X) (N := 7) hx hb hts in_X hown hK hP 0 rfl rfl 3 (by decide) (hts _ w_128) (fun _ h9 => h9) rfl d_X_walk_1 ?_
  refine va_get (D := (dC, dI)) (ci := 4) (v := .int fu_result_found) (C := R_Rs) (T := T_Rs) (N := 10) hx hb hts in_Rs hown hK hP 1 rfl rfl 0 (by decide) (hts _ w_129) (fun _ h9 => h9) rfl d_X_walk_4 ?_
  refine lv_if_eq (tgt := 36) hx hb d_X_walk_7 (by decide) (fun c_1 => ?_) (fun c_1 => ?_)
  · have h := h.1 c_1
    refine lv_iconst (v := (-1)) hx hb d_X_walk_36 (by decide) ?_
    exact hret () () (-1) _ _ _ _ rfl h hP hD hS d_X_walk_37
  · have h := h.2 c_1
    refine lv_iload_n hx hb d_X_walk_10 rfl (lv_at hl 1 rfl) ?_
    refine lv_if_lt (tgt := 36) hx hb d_X_walk_11 (by decide) (fun c_2 => ?_) (fun c_2 => ?_)
    · have h := h.1 c_2
      refine lv_iconst (v := (-1)) hx hb d_X_walk_36 (by decide) ?_
      exact hret () () (-1) _ _ _ _ rfl h hP hD hS d_X_walk_37
    · have h := h.2 c_2
      refine lv_iload_n hx hb d_X_walk_14 rfl (lv_at hl 1 rfl) ?_
      refine lv_aload_n hx hb d_X_walk_15 rfl (lv_at hl 0 rfl) ?_
      refine va_get (D := (dC, dI)) (ci := 0) (v := .ref qu_result) (C := R_X) (T := T_X) (N := 7) hx hb hts in_X hown hK hP 0 rfl rfl 3 (by decide) (hts _ w_128) (fun _ h9 => h9) rfl d_X_walk_16 ?_
      refine va_get (D := (dC, dI)) (ci := 4) (v := .int fu_result_walkLength) (C := R_Rs) (T := T_Rs) (N := 10) hx hb hts in_Rs hown hK hP 1 rfl rfl 2 (by decide) (hts _ w_265) (fun _ h9 => h9) rfl d_X_walk_19 ?_
      refine lv_icmp_ge (tgt := 36) hx hb d_X_walk_22 (by decide) (fun c_3 => ?_) (fun c_3 => ?_)
      · have h := h.1 c_3
        refine lv_iconst (v := (-1)) hx hb d_X_walk_36 (by decide) ?_
        exact hret () () (-1) _ _ _ _ rfl h hP hD hS d_X_walk_37
      · have h := h.2 c_3
        refine lv_aload_n hx hb d_X_walk_25 rfl (lv_at hl 0 rfl) ?_
        refine va_get (D := (dC, dI)) (ci := 0) (v := .ref qu_result) (C := R_X) (T := T_X) (N := 7) hx hb hts in_X hown hK hP 0 rfl rfl 3 (by decide) (hts _ w_128) (fun _ h9 => h9) rfl d_X_walk_26 ?_
        refine lv_iload_n hx hb d_X_walk_29 rfl (lv_at hl 1 rfl) ?_
        refine call_V_i (As := [.int p1]) (rest := []) C0 hP hD hS [1, 2] [0] [0, 1, 2] [(qu, .inr (0, [.ref qu_text, .ref qu_reading, .ref qu_costs, .ref qu_result, .ref qu_told, .ref qu_graph, .ref qu_spare]))] (fun (v : Unit) (b : Unit) => (W_X_walk cI cC cB qu qu_result qu_result_walkBackwards qu_text qu_reading qu_costs qu_told qu_graph qu_spare qu_result_sides qu_result_editsBackwards fu_result_found fu_result_cost fu_result_walkLength fu_result_editCount fu_result_sideCount fu_result_basesLeft fu_result_place au_result_walkBackwards)) (ci := 4) rfl rfl (k_Rs_placeAt l dC dI cI cC cB _ qu_result qu_result_walkBackwards qu_result_sides qu_result_editsBackwards fu_result_found fu_result_cost fu_result_walkLength fu_result_editCount fu_result_sideCount fu_result_basesLeft fu_result_place au_result_walkBackwards p1 h) (g_V w_266 w_210 w_211 w_212 w_208) 1 rfl (by decide +kernel) rfl rfl ⟨Nat.le_of_ble_eq_true rfl, Nat.le_of_ble_eq_true rfl⟩ rfl rfl (by decide) (by decide) (by decide) (by decide) (fun _ _ => rfl) hl.1 rfl (Nat.le_of_ble_eq_true rfl) d_X_walk_30 ⟨Nat.le_of_ble_eq_true rfl, Nat.le_of_ble_eq_true rfl⟩ (fun r_5 v_4 _ H locs h hP hD hS => ?_)
        have hP : va_P (dC, dI) cls (W_X_walk cI cC cB qu qu_result qu_result_walkBackwards qu_text qu_reading qu_costs qu_told qu_graph qu_spare qu_result_sides qu_result_editsBackwards fu_result_found fu_result_cost fu_result_walkLength fu_result_editCount fu_result_sideCount fu_result_basesLeft fu_result_place au_result_walkBackwards) H := hP
        have hD : va_D A (W_X_walk cI cC cB qu qu_result qu_result_walkBackwards qu_text qu_reading qu_costs qu_told qu_graph qu_spare qu_result_sides qu_result_editsBackwards fu_result_found fu_result_cost fu_result_walkLength fu_result_editCount fu_result_sideCount fu_result_basesLeft fu_result_place au_result_walkBackwards) := hD
        refine lv_goto (tgt := 37) hx hb d_X_walk_33 (by decide) ?_
        exact hret () () r_5 _ _ _ _ rfl h hP hD hS d_X_walk_37
abbrev W_Rs_editAt (cI cC cB : ClassId) (qu : Nat) (qu_editsBackwards : Nat) (qu_sides : Nat) (qu_walkBackwards : Nat) (fu_found : Int32) (fu_cost : Int32) (fu_walkLength : Int32) (fu_editCount : Int32) (fu_sideCount : Int32) (fu_basesLeft : Int32) (fu_place : Int32) (au_editsBackwards : Nat → Int32) : va_W := [(qu, .inr (4, [.int fu_found, .int fu_cost, .int fu_walkLength, .int fu_editCount, .int fu_sideCount, .ref qu_sides, .ref qu_walkBackwards, .ref qu_editsBackwards, .int fu_basesLeft, .int fu_place])), (qu_editsBackwards, .inl (cC, 25, .inl au_editsBackwards))]
def wp_Rs_editAt (Q : Int32 → Unit → Prop) (p1 : Int32) (fu_editCount : Int32) (au_editsBackwards : Nat → Int32) : Prop := ∀ x_1 : Int32, x_1 = (fu_editCount - 1) - p1 → (vp_in x_1 25 ∧ (∀ y_3 : Int32, y_3 = au_editsBackwards x_1.toNatClampNeg → ((narrow .char (.int y_3) = .int y_3 ∧ Q y_3 ()))))
abbrev rm_Rs_editAt : Room := { frames := 0, cells := 0, slots := 0, locals := 0 }
set_option maxHeartbeats 4000000 in
set_option maxRecDepth 100000 in
theorem k_Rs_editAt (l : Launch) (dC : Nat → ClassId) (dI : Nat → Nat → Nat) (cI cC cB : ClassId) (sz : Nat) (qu : Nat) (qu_editsBackwards : Nat) (qu_sides : Nat) (qu_walkBackwards : Nat) (fu_found : Int32) (fu_cost : Int32) (fu_walkLength : Int32) (fu_editCount : Int32) (fu_sideCount : Int32) (fu_basesLeft : Int32) (fu_place : Int32) (au_editsBackwards : Nat → Int32) (p1 : Int32) {Q : Int32 → Unit → Prop} (h : wp_Rs_editAt Q p1 fu_editCount au_editsBackwards) :
    CTi l y_Rs_editAt (wM y_Rs_editAt c_Rs_editAt 2 (some .char)) rm_Rs_editAt 0 0 (dC, dI) (tysL cI cC cB) [.ref qu, .int p1] (W_Rs_editAt cI cC cB qu qu_editsBackwards qu_sides qu_walkBackwards fu_found fu_cost fu_walkLength fu_editCount fu_sideCount fu_basesLeft fu_place au_editsBackwards) sz Q (fun (v : Unit) (b : Unit) => (W_Rs_editAt cI cC cB qu qu_editsBackwards qu_sides qu_walkBackwards fu_found fu_cost fu_walkLength fu_editCount fu_sideCount fu_basesLeft fu_place au_editsBackwards)) := by
  refine CTi.std (by decide) (Nat.le_of_ble_eq_true rfl) ?_
  intro p e s m args below meth c A ls QF C0 hP hD hl hS hsz hnm hret
  obtain ⟨hx, hb, hr, hml, hown, hts, hlocks, hN, hA, hK⟩ := id C0
  have hown : s.vm.findClass R_Rs = some m.cls := hown
  have hl : lv_has ls 2 [(0, .ref qu), (1, .int p1)] := hl
  clear hsz hnm
  unfold wp_Rs_editAt at h
  refine lv_aload_n hx hb d_Rs_editAt_0 rfl (lv_at hl 0 rfl) ?_
  refine va_get (D := (dC, dI)) (ci := 4) (v := .ref qu_editsBackwards) (C := R_Rs) (T := T_Rs) (N := 10) hx hb hts in_Rs hown hK hP 0 rfl rfl 7 (by decide) (hts _ w_219) (fun _ h9 => h9) rfl d_Rs_editAt_1 ?_
  refine lv_aload_n hx hb d_Rs_editAt_4 rfl (lv_at hl 0 rfl) ?_
  refine va_get (D := (dC, dI)) (ci := 4) (v := .int fu_editCount) (C := R_Rs) (T := T_Rs) (N := 10) hx hb hts in_Rs hown hK hP 0 rfl rfl 3 (by decide) (hts _ w_218) (fun _ h9 => h9) rfl d_Rs_editAt_5 ?_
  refine lv_iconst (v := 1) hx hb d_Rs_editAt_8 (by decide) ?_
  refine lv_isub hx hb d_Rs_editAt_9 ?_
  refine lv_iload_n hx hb d_Rs_editAt_10 rfl (lv_at hl 1 rfl) ?_
  refine lv_isub hx hb d_Rs_editAt_11 ?_
  refine lv_topi (fun x_1 ex_1 => ?_)
  have h := h x_1 ex_1
  have hi_2 := h.1
  have h := h.2
  refine va_cald hx hb hK hP 1 1 rfl rfl hi_2 d_Rs_editAt_12 ?_
  refine lv_topi (fun y_3 ey_3 => ?_)
  have h := h y_3 ey_3
  exact hret () () y_3 _ _ _ _ h.1 h.2 hP hD hS d_Rs_editAt_13
abbrev W_X_edit (cI cC cB : ClassId) (qu : Nat) (qu_result : Nat) (qu_result_editsBackwards : Nat) (qu_text : Nat) (qu_reading : Nat) (qu_costs : Nat) (qu_told : Nat) (qu_graph : Nat) (qu_spare : Nat) (qu_result_sides : Nat) (qu_result_walkBackwards : Nat) (fu_result_found : Int32) (fu_result_cost : Int32) (fu_result_walkLength : Int32) (fu_result_editCount : Int32) (fu_result_sideCount : Int32) (fu_result_basesLeft : Int32) (fu_result_place : Int32) (au_result_editsBackwards : Nat → Int32) : va_W := [(qu, .inr (0, [.ref qu_text, .ref qu_reading, .ref qu_costs, .ref qu_result, .ref qu_told, .ref qu_graph, .ref qu_spare])), (qu_result, .inr (4, [.int fu_result_found, .int fu_result_cost, .int fu_result_walkLength, .int fu_result_editCount, .int fu_result_sideCount, .ref qu_result_sides, .ref qu_result_walkBackwards, .ref qu_result_editsBackwards, .int fu_result_basesLeft, .int fu_result_place])), (qu_result_editsBackwards, .inl (cC, 25, .inl au_result_editsBackwards))]
def wp_X_edit (Q : Int32 → Unit → Prop) (p1 : Int32) (fu_result_found : Int32) (fu_result_editCount : Int32) (au_result_editsBackwards : Nat → Int32) : Prop := ((fu_result_found = 0 → (Q (-1) ())) ∧ (¬ fu_result_found = 0 → (((p1 < 0 → (Q (-1) ())) ∧ (¬ p1 < 0 → (((fu_result_editCount ≤ p1 → (Q (-1) ())) ∧ (¬ fu_result_editCount ≤ p1 → (wp_Rs_editAt (fun r_5 v_4 => Q r_5 ()) p1 fu_result_editCount au_result_editsBackwards)))))))))
abbrev rm_X_edit : Room := { frames := 1, cells := 0, slots := 0, locals := 21 }
set_option maxHeartbeats 4000000 in
set_option maxRecDepth 100000 in
theorem k_X_edit (l : Launch) (dC : Nat → ClassId) (dI : Nat → Nat → Nat) (cI cC cB : ClassId) (sz : Nat) (qu : Nat) (qu_result : Nat) (qu_result_editsBackwards : Nat) (qu_text : Nat) (qu_reading : Nat) (qu_costs : Nat) (qu_told : Nat) (qu_graph : Nat) (qu_spare : Nat) (qu_result_sides : Nat) (qu_result_walkBackwards : Nat) (fu_result_found : Int32) (fu_result_cost : Int32) (fu_result_walkLength : Int32) (fu_result_editCount : Int32) (fu_result_sideCount : Int32) (fu_result_basesLeft : Int32) (fu_result_place : Int32) (au_result_editsBackwards : Nat → Int32) (p1 : Int32) {Q : Int32 → Unit → Prop} (h : wp_X_edit Q p1 fu_result_found fu_result_editCount au_result_editsBackwards) :
    CTi l y_X_edit (wM y_X_edit c_X_edit 2 (some .int)) rm_X_edit 0 0 (dC, dI) (tysL cI cC cB) [.ref qu, .int p1] (W_X_edit cI cC cB qu qu_result qu_result_editsBackwards qu_text qu_reading qu_costs qu_told qu_graph qu_spare qu_result_sides qu_result_walkBackwards fu_result_found fu_result_cost fu_result_walkLength fu_result_editCount fu_result_sideCount fu_result_basesLeft fu_result_place au_result_editsBackwards) sz Q (fun (v : Unit) (b : Unit) => (W_X_edit cI cC cB qu qu_result qu_result_editsBackwards qu_text qu_reading qu_costs qu_told qu_graph qu_spare qu_result_sides qu_result_walkBackwards fu_result_found fu_result_cost fu_result_walkLength fu_result_editCount fu_result_sideCount fu_result_basesLeft fu_result_place au_result_editsBackwards)) := by
  refine CTi.std (by decide) (Nat.le_of_ble_eq_true rfl) ?_
  intro p e s m args below meth c A ls QF C0 hP hD hl hS hsz hnm hret
  obtain ⟨hx, hb, hr, hml, hown, hts, hlocks, hN, hA, hK⟩ := id C0
  have hown : s.vm.findClass R_X = some m.cls := hown
  have hl : lv_has ls 2 [(0, .ref qu), (1, .int p1)] := hl
  clear hsz hnm
  unfold wp_X_edit at h
  refine lv_aload_n hx hb d_X_edit_0 rfl (lv_at hl 0 rfl) ?_
  refine va_get (D := (dC, dI)) (ci := 0) (v := .ref qu_result) (C := R_X) (T := T_X) (N := 7) hx hb hts in_X hown hK hP 0 rfl rfl 3 (by decide) (hts _ w_128) (fun _ h9 => h9) rfl d_X_edit_1 ?_
  refine va_get (D := (dC, dI)) (ci := 4) (v := .int fu_result_found) (C := R_Rs) (T := T_Rs) (N := 10) hx hb hts in_Rs hown hK hP 1 rfl rfl 0 (by decide) (hts _ w_129) (fun _ h9 => h9) rfl d_X_edit_4 ?_
  refine lv_if_eq (tgt := 36) hx hb d_X_edit_7 (by decide) (fun c_1 => ?_) (fun c_1 => ?_)
  · have h := h.1 c_1
    refine lv_iconst (v := (-1)) hx hb d_X_edit_36 (by decide) ?_
    exact hret () () (-1) _ _ _ _ rfl h hP hD hS d_X_edit_37
  · have h := h.2 c_1
    refine lv_iload_n hx hb d_X_edit_10 rfl (lv_at hl 1 rfl) ?_
    refine lv_if_lt (tgt := 36) hx hb d_X_edit_11 (by decide) (fun c_2 => ?_) (fun c_2 => ?_)
    · have h := h.1 c_2
      refine lv_iconst (v := (-1)) hx hb d_X_edit_36 (by decide) ?_
      exact hret () () (-1) _ _ _ _ rfl h hP hD hS d_X_edit_37
    · have h := h.2 c_2
      refine lv_iload_n hx hb d_X_edit_14 rfl (lv_at hl 1 rfl) ?_
      refine lv_aload_n hx hb d_X_edit_15 rfl (lv_at hl 0 rfl) ?_
      refine va_get (D := (dC, dI)) (ci := 0) (v := .ref qu_result) (C := R_X) (T := T_X) (N := 7) hx hb hts in_X hown hK hP 0 rfl rfl 3 (by decide) (hts _ w_128) (fun _ h9 => h9) rfl d_X_edit_16 ?_
      refine va_get (D := (dC, dI)) (ci := 4) (v := .int fu_result_editCount) (C := R_Rs) (T := T_Rs) (N := 10) hx hb hts in_Rs hown hK hP 1 rfl rfl 3 (by decide) (hts _ w_267) (fun _ h9 => h9) rfl d_X_edit_19 ?_
      refine lv_icmp_ge (tgt := 36) hx hb d_X_edit_22 (by decide) (fun c_3 => ?_) (fun c_3 => ?_)
      · have h := h.1 c_3
        refine lv_iconst (v := (-1)) hx hb d_X_edit_36 (by decide) ?_
        exact hret () () (-1) _ _ _ _ rfl h hP hD hS d_X_edit_37
      · have h := h.2 c_3
        refine lv_aload_n hx hb d_X_edit_25 rfl (lv_at hl 0 rfl) ?_
        refine va_get (D := (dC, dI)) (ci := 0) (v := .ref qu_result) (C := R_X) (T := T_X) (N := 7) hx hb hts in_X hown hK hP 0 rfl rfl 3 (by decide) (hts _ w_128) (fun _ h9 => h9) rfl d_X_edit_26 ?_
        refine lv_iload_n hx hb d_X_edit_29 rfl (lv_at hl 1 rfl) ?_
        refine call_V_i (As := [.int p1]) (rest := []) C0 hP hD hS [1, 2] [0] [0, 1, 2] [(qu, .inr (0, [.ref qu_text, .ref qu_reading, .ref qu_costs, .ref qu_result, .ref qu_told, .ref qu_graph, .ref qu_spare]))] (fun (v : Unit) (b : Unit) => (W_X_edit cI cC cB qu qu_result qu_result_editsBackwards qu_text qu_reading qu_costs qu_told qu_graph qu_spare qu_result_sides qu_result_walkBackwards fu_result_found fu_result_cost fu_result_walkLength fu_result_editCount fu_result_sideCount fu_result_basesLeft fu_result_place au_result_editsBackwards)) (ci := 4) rfl rfl (k_Rs_editAt l dC dI cI cC cB _ qu_result qu_result_editsBackwards qu_result_sides qu_result_walkBackwards fu_result_found fu_result_cost fu_result_walkLength fu_result_editCount fu_result_sideCount fu_result_basesLeft fu_result_place au_result_editsBackwards p1 h) (g_V w_269 w_270 w_271 w_212 w_268) 1 rfl (by decide +kernel) rfl rfl ⟨Nat.le_of_ble_eq_true rfl, Nat.le_of_ble_eq_true rfl⟩ rfl rfl (by decide) (by decide) (by decide) (by decide) (fun _ _ => rfl) hl.1 rfl (Nat.le_of_ble_eq_true rfl) d_X_edit_30 ⟨Nat.le_of_ble_eq_true rfl, Nat.le_of_ble_eq_true rfl⟩ (fun r_5 v_4 _ H locs h hP hD hS => ?_)
        have hP : va_P (dC, dI) cls (W_X_edit cI cC cB qu qu_result qu_result_editsBackwards qu_text qu_reading qu_costs qu_told qu_graph qu_spare qu_result_sides qu_result_walkBackwards fu_result_found fu_result_cost fu_result_walkLength fu_result_editCount fu_result_sideCount fu_result_basesLeft fu_result_place au_result_editsBackwards) H := hP
        have hD : va_D A (W_X_edit cI cC cB qu qu_result qu_result_editsBackwards qu_text qu_reading qu_costs qu_told qu_graph qu_spare qu_result_sides qu_result_walkBackwards fu_result_found fu_result_cost fu_result_walkLength fu_result_editCount fu_result_sideCount fu_result_basesLeft fu_result_place au_result_editsBackwards) := hD
        refine lv_goto (tgt := 37) hx hb d_X_edit_33 (by decide) ?_
        exact hret () () r_5 _ _ _ _ rfl h hP hD hS d_X_edit_37
abbrev W_X_liesForwards (cI cC cB : ClassId) (qu : Nat) (qu_result : Nat) (qu_result_sides : Nat) (qu_graph : Nat) (qu_graph_steps : Nat) (qu_text : Nat) (qu_reading : Nat) (qu_costs : Nat) (qu_told : Nat) (qu_spare : Nat) (qu_result_walkBackwards : Nat) (qu_result_editsBackwards : Nat) (qu_graph_segmentNames : Nat) (qu_graph_sideStarts : Nat) (qu_graph_placeBases : Nat) (qu_graph_placeSides : Nat) (qu_graph_followers : Nat) (qu_graph_pathNames : Nat) (qu_graph_stepCounts : Nat) (qu_graph_joinFrom : Nat) (qu_graph_joinTo : Nat) (fu_result_found : Int32) (fu_result_cost : Int32) (fu_result_walkLength : Int32) (fu_result_editCount : Int32) (fu_result_sideCount : Int32) (fu_result_basesLeft : Int32) (fu_result_place : Int32) (au_result_sides : Nat → Int32) (fu_graph_segments : Int32) (fu_graph_links : Int32) (fu_graph_paths : Int32) (fu_graph_places : Int32) (fu_graph_joins : Int32) (au_graph_steps : Nat → Int32) : va_W := [(qu, .inr (0, [.ref qu_text, .ref qu_reading, .ref qu_costs, .ref qu_result, .ref qu_told, .ref qu_graph, .ref qu_spare])), (qu_result, .inr (4, [.int fu_result_found, .int fu_result_cost, .int fu_result_walkLength, .int fu_result_editCount, .int fu_result_sideCount, .ref qu_result_sides, .ref qu_result_walkBackwards, .ref qu_result_editsBackwards, .int fu_result_basesLeft, .int fu_result_place])), (qu_result_sides, .inl (cI, 25, .inl au_result_sides)), (qu_graph, .inr (5, [.int fu_graph_segments, .int fu_graph_links, .int fu_graph_paths, .int fu_graph_places, .int fu_graph_joins, .ref qu_graph_segmentNames, .ref qu_graph_sideStarts, .ref qu_graph_placeBases, .ref qu_graph_placeSides, .ref qu_graph_followers, .ref qu_graph_pathNames, .ref qu_graph_stepCounts, .ref qu_graph_steps, .ref qu_graph_joinFrom, .ref qu_graph_joinTo])), (qu_graph_steps, .inl (cI, 32, .inl au_graph_steps))]
def w_X_liesForwards_2B (Q : Int32 → Unit → Prop)  (K_2 : Int32 → Prop) (p1 : Int32) (fu_result_sideCount : Int32) (au_result_sides : Nat → Int32) (au_graph_steps : Nat → Int32) (x2 : Int32) : Prop := ((fu_result_sideCount ≤ x2 → (Q 1 ())) ∧ (¬ fu_result_sideCount ≤ x2 → (∀ x_2 : Int32, x_2 = p1 + x2 → (vp_in x_2 32 ∧ (∀ y_4 : Int32, y_4 = au_graph_steps x_2.toNatClampNeg → (vp_in x2 25 ∧ (∀ y_6 : Int32, y_6 = au_result_sides x2.toNatClampNeg → (((y_4 = y_6 → (∀ x2_8 : Int32, x2_8 = x2 + 1 → (K_2 x2_8))) ∧ (¬ y_4 = y_6 → (Q 0 ())))))))))))
def w_X_liesForwards_2 (Q : Int32 → Unit → Prop)  (p1 : Int32) (fu_result_sideCount : Int32) (au_result_sides : Nat → Int32) (au_graph_steps : Nat → Int32) : Nat → Int32 → Prop
  | 0 => fun _ => False
  | n + 1 => fun x2 => w_X_liesForwards_2B Q  (w_X_liesForwards_2 Q  p1 fu_result_sideCount au_result_sides au_graph_steps n) p1 fu_result_sideCount au_result_sides au_graph_steps x2
def wp_X_liesForwards (Q : Int32 → Unit → Prop) (p1 : Int32) (fu_result_sideCount : Int32) (au_result_sides : Nat → Int32) (au_graph_steps : Nat → Int32) : Prop := ∃ fu_2 : Nat, w_X_liesForwards_2 Q p1 fu_result_sideCount au_result_sides au_graph_steps fu_2 0
abbrev rm_X_liesForwards : Room := { frames := 0, cells := 0, slots := 0, locals := 0 }
set_option maxHeartbeats 4000000 in
set_option maxRecDepth 100000 in
theorem k_X_liesForwards (l : Launch) (dC : Nat → ClassId) (dI : Nat → Nat → Nat) (cI cC cB : ClassId) (sz : Nat) (qu : Nat) (qu_result : Nat) (qu_result_sides : Nat) (qu_graph : Nat) (qu_graph_steps : Nat) (qu_text : Nat) (qu_reading : Nat) (qu_costs : Nat) (qu_told : Nat) (qu_spare : Nat) (qu_result_walkBackwards : Nat) (qu_result_editsBackwards : Nat) (qu_graph_segmentNames : Nat) (qu_graph_sideStarts : Nat) (qu_graph_placeBases : Nat) (qu_graph_placeSides : Nat) (qu_graph_followers : Nat) (qu_graph_pathNames : Nat) (qu_graph_stepCounts : Nat) (qu_graph_joinFrom : Nat) (qu_graph_joinTo : Nat) (fu_result_found : Int32) (fu_result_cost : Int32) (fu_result_walkLength : Int32) (fu_result_editCount : Int32) (fu_result_sideCount : Int32) (fu_result_basesLeft : Int32) (fu_result_place : Int32) (au_result_sides : Nat → Int32) (fu_graph_segments : Int32) (fu_graph_links : Int32) (fu_graph_paths : Int32) (fu_graph_places : Int32) (fu_graph_joins : Int32) (au_graph_steps : Nat → Int32) (p1 : Int32) {Q : Int32 → Unit → Prop} (h : wp_X_liesForwards Q p1 fu_result_sideCount au_result_sides au_graph_steps) :
    CTi l y_X_liesForwards (wM y_X_liesForwards c_X_liesForwards 3 (some .boolean)) rm_X_liesForwards 0 0 (dC, dI) (tysL cI cC cB) [.ref qu, .int p1] (W_X_liesForwards cI cC cB qu qu_result qu_result_sides qu_graph qu_graph_steps qu_text qu_reading qu_costs qu_told qu_spare qu_result_walkBackwards qu_result_editsBackwards qu_graph_segmentNames qu_graph_sideStarts qu_graph_placeBases qu_graph_placeSides qu_graph_followers qu_graph_pathNames qu_graph_stepCounts qu_graph_joinFrom qu_graph_joinTo fu_result_found fu_result_cost fu_result_walkLength fu_result_editCount fu_result_sideCount fu_result_basesLeft fu_result_place au_result_sides fu_graph_segments fu_graph_links fu_graph_paths fu_graph_places fu_graph_joins au_graph_steps) sz Q (fun (v : Unit) (b : Unit) => (W_X_liesForwards cI cC cB qu qu_result qu_result_sides qu_graph qu_graph_steps qu_text qu_reading qu_costs qu_told qu_spare qu_result_walkBackwards qu_result_editsBackwards qu_graph_segmentNames qu_graph_sideStarts qu_graph_placeBases qu_graph_placeSides qu_graph_followers qu_graph_pathNames qu_graph_stepCounts qu_graph_joinFrom qu_graph_joinTo fu_result_found fu_result_cost fu_result_walkLength fu_result_editCount fu_result_sideCount fu_result_basesLeft fu_result_place au_result_sides fu_graph_segments fu_graph_links fu_graph_paths fu_graph_places fu_graph_joins au_graph_steps)) := by
  refine CTi.std (by decide) (Nat.le_of_ble_eq_true rfl) ?_
  intro p e s m args below meth c A ls QF C0 hP hD hl hS hsz hnm hret
  obtain ⟨hx, hb, hr, hml, hown, hts, hlocks, hN, hA, hK⟩ := id C0
  have hown : s.vm.findClass R_X = some m.cls := hown
  have hl : lv_has ls 3 [(0, .ref qu), (1, .int p1)] := hl
  clear hsz hnm
  have blk_2 : ∀  (n : Nat) (x2 : Int32)  (H : Heap) (locs : List Loc) (ls : Array Slot), w_X_liesForwards_2 Q  p1 fu_result_sideCount au_result_sides au_graph_steps n x2 → va_P (dC, dI) cls (W_X_liesForwards cI cC cB qu qu_result qu_result_sides qu_graph qu_graph_steps qu_text qu_reading qu_costs qu_told qu_spare qu_result_walkBackwards qu_result_editsBackwards qu_graph_segmentNames qu_graph_sideStarts qu_graph_placeBases qu_graph_placeSides qu_graph_followers qu_graph_pathNames qu_graph_stepCounts qu_graph_joinFrom qu_graph_joinTo fu_result_found fu_result_cost fu_result_walkLength fu_result_editCount fu_result_sideCount fu_result_basesLeft fu_result_place au_result_sides fu_graph_segments fu_graph_links fu_graph_paths fu_graph_places fu_graph_joins au_graph_steps) H → va_D A (W_X_liesForwards cI cC cB qu qu_result qu_result_sides qu_graph qu_graph_steps qu_text qu_reading qu_costs qu_told qu_spare qu_result_walkBackwards qu_result_editsBackwards qu_graph_segmentNames qu_graph_sideStarts qu_graph_placeBases qu_graph_placeSides qu_graph_followers qu_graph_pathNames qu_graph_stepCounts qu_graph_joinFrom qu_graph_joinTo fu_result_found fu_result_cost fu_result_walkLength fu_result_editCount fu_result_sideCount fu_result_basesLeft fu_result_place au_result_sides fu_graph_segments fu_graph_links fu_graph_paths fu_graph_places fu_graph_joins au_graph_steps) → va_S A s.heap H locs → lv_has ls 3 [(0, .ref qu), (1, .int p1), (2, .int x2)] → W p l e rm_X_liesForwards s m args below meth c H locs 0 0 QF (F0 m 2 ls []) := by
    intro  n
    induction n with
    | zero => intro x2  H locs ls h; exact (show False from h).elim
    | succ n ih =>
      intro x2  H locs ls h hP hD hS hl
      have h : w_X_liesForwards_2B Q  (w_X_liesForwards_2 Q  p1 fu_result_sideCount au_result_sides au_graph_steps n) p1 fu_result_sideCount au_result_sides au_graph_steps x2 := h
      generalize w_X_liesForwards_2 Q  p1 fu_result_sideCount au_result_sides au_graph_steps n = K_2 at h ih
      unfold w_X_liesForwards_2B at h
      refine lv_iload_n hx hb d_X_liesForwards_2 rfl (lv_at hl 2 rfl) ?_
      refine lv_aload_n hx hb d_X_liesForwards_3 rfl (lv_at hl 0 rfl) ?_
      refine va_get (D := (dC, dI)) (ci := 0) (v := .ref qu_result) (C := R_X) (T := T_X) (N := 7) hx hb hts in_X hown hK hP 0 rfl rfl 3 (by decide) (hts _ w_128) (fun _ h9 => h9) rfl d_X_liesForwards_4 ?_
      refine va_get (D := (dC, dI)) (ci := 4) (v := .int fu_result_sideCount) (C := R_Rs) (T := T_Rs) (N := 10) hx hb hts in_Rs hown hK hP 1 rfl rfl 4 (by decide) (hts _ w_272) (fun _ h9 => h9) rfl d_X_liesForwards_7 ?_
      refine lv_icmp_ge (tgt := 44) hx hb d_X_liesForwards_10 (by decide) (fun c_1 => ?_) (fun c_1 => ?_)
      · have h := h.1 c_1
        refine lv_iconst (v := 1) hx hb d_X_liesForwards_44 (by decide) ?_
        exact hret () () 1 _ _ _ _ rfl h hP hD hS d_X_liesForwards_45
      · have h := h.2 c_1
        refine lv_aload_n hx hb d_X_liesForwards_13 rfl (lv_at hl 0 rfl) ?_
        refine va_get (D := (dC, dI)) (ci := 0) (v := .ref qu_graph) (C := R_X) (T := T_X) (N := 7) hx hb hts in_X hown hK hP 0 rfl rfl 5 (by decide) (hts _ w_127) (fun _ h9 => h9) rfl d_X_liesForwards_14 ?_
        refine va_get (D := (dC, dI)) (ci := 5) (v := .ref qu_graph_steps) (C := R_Gr) (T := T_Gr) (N := 15) hx hb hts in_Gr hown hK hP 3 rfl rfl 12 (by decide) (hts _ w_273) (fun _ h9 => h9) rfl d_X_liesForwards_17 ?_
        refine lv_iload_n hx hb d_X_liesForwards_20 rfl (lv_at hl 1 rfl) ?_
        refine lv_iload_n hx hb d_X_liesForwards_21 rfl (lv_at hl 2 rfl) ?_
        refine lv_iadd hx hb d_X_liesForwards_22 ?_
        refine lv_topi (fun x_2 ex_2 => ?_)
        have h := h x_2 ex_2
        have hi_3 := h.1
        have h := h.2
        refine va_iald hx hb hK hP 4 0 rfl rfl hi_3 d_X_liesForwards_23 ?_
        refine lv_topi (fun y_4 ey_4 => ?_)
        have h := h y_4 ey_4
        refine lv_aload_n hx hb d_X_liesForwards_24 rfl (lv_at hl 0 rfl) ?_
        refine va_get (D := (dC, dI)) (ci := 0) (v := .ref qu_result) (C := R_X) (T := T_X) (N := 7) hx hb hts in_X hown hK hP 0 rfl rfl 3 (by decide) (hts _ w_128) (fun _ h9 => h9) rfl d_X_liesForwards_25 ?_
        refine va_get (D := (dC, dI)) (ci := 4) (v := .ref qu_result_sides) (C := R_Rs) (T := T_Rs) (N := 10) hx hb hts in_Rs hown hK hP 1 rfl rfl 5 (by decide) (hts _ w_274) (fun _ h9 => h9) rfl d_X_liesForwards_28 ?_
        refine lv_iload_n hx hb d_X_liesForwards_31 rfl (lv_at hl 2 rfl) ?_
        have hi_5 := h.1
        have h := h.2
        refine va_iald hx hb hK hP 2 0 rfl rfl hi_5 d_X_liesForwards_32 ?_
        refine lv_topi (fun y_6 ey_6 => ?_)
        have h := h y_6 ey_6
        refine lv_icmp_eq (tgt := 38) hx hb d_X_liesForwards_33 (by decide) (fun c_7 => ?_) (fun c_7 => ?_)
        · have h := h.1 c_7
          obtain ⟨x2_8, ex2_8⟩ : ∃ y : Int32, y = x2 + 1 := ⟨_, rfl⟩
          have h := h x2_8 ex2_8
          refine lv_iinc (v := x2_8) (lv' := [(2, .int x2_8), (0, .ref qu), (1, .int p1)]) hx hb d_X_liesForwards_38 hl (k := 2) rfl (by rw [ex2_8]; rfl) (by decide) rfl (fun ls hl => ?_)
          refine lv_goto (tgt := 2) hx hb d_X_liesForwards_41 (by decide) ?_
          exact ih _ _ _ _ h hP hD hS (lv_sub hl [1, 2, 0] rfl)
        · have h := h.2 c_7
          refine lv_iconst (v := 0) hx hb d_X_liesForwards_36 (by decide) ?_
          exact hret () () 0 _ _ _ _ rfl h hP hD hS d_X_liesForwards_37
  unfold wp_X_liesForwards at h
  refine lv_iconst (v := 0) hx hb d_X_liesForwards_0 (by decide) ?_
  refine lv_istore_n (lv' := [(2, .int 0), (0, .ref qu), (1, .int p1)]) hx hb d_X_liesForwards_1 rfl hl (by decide) rfl (fun ls hl => ?_)
  obtain ⟨fu_2, h⟩ := h
  exact blk_2  _ _ _ _ _ h hP hD hS (lv_sub hl [1, 2, 0] rfl)
abbrev W_X_liesTurned (cI cC cB : ClassId) (qu : Nat) (qu_result : Nat) (qu_result_sides : Nat) (qu_graph : Nat) (qu_graph_steps : Nat) (qu_text : Nat) (qu_reading : Nat) (qu_costs : Nat) (qu_told : Nat) (qu_spare : Nat) (qu_result_walkBackwards : Nat) (qu_result_editsBackwards : Nat) (qu_graph_segmentNames : Nat) (qu_graph_sideStarts : Nat) (qu_graph_placeBases : Nat) (qu_graph_placeSides : Nat) (qu_graph_followers : Nat) (qu_graph_pathNames : Nat) (qu_graph_stepCounts : Nat) (qu_graph_joinFrom : Nat) (qu_graph_joinTo : Nat) (fu_result_found : Int32) (fu_result_cost : Int32) (fu_result_walkLength : Int32) (fu_result_editCount : Int32) (fu_result_sideCount : Int32) (fu_result_basesLeft : Int32) (fu_result_place : Int32) (au_result_sides : Nat → Int32) (fu_graph_segments : Int32) (fu_graph_links : Int32) (fu_graph_paths : Int32) (fu_graph_places : Int32) (fu_graph_joins : Int32) (au_graph_steps : Nat → Int32) : va_W := [(qu, .inr (0, [.ref qu_text, .ref qu_reading, .ref qu_costs, .ref qu_result, .ref qu_told, .ref qu_graph, .ref qu_spare])), (qu_result, .inr (4, [.int fu_result_found, .int fu_result_cost, .int fu_result_walkLength, .int fu_result_editCount, .int fu_result_sideCount, .ref qu_result_sides, .ref qu_result_walkBackwards, .ref qu_result_editsBackwards, .int fu_result_basesLeft, .int fu_result_place])), (qu_result_sides, .inl (cI, 25, .inl au_result_sides)), (qu_graph, .inr (5, [.int fu_graph_segments, .int fu_graph_links, .int fu_graph_paths, .int fu_graph_places, .int fu_graph_joins, .ref qu_graph_segmentNames, .ref qu_graph_sideStarts, .ref qu_graph_placeBases, .ref qu_graph_placeSides, .ref qu_graph_followers, .ref qu_graph_pathNames, .ref qu_graph_stepCounts, .ref qu_graph_steps, .ref qu_graph_joinFrom, .ref qu_graph_joinTo])), (qu_graph_steps, .inl (cI, 32, .inl au_graph_steps))]
def w_X_liesTurned_12B (Q : Int32 → Unit → Prop)  (K_12 : Int32 → Int32 → Prop) (p1 : Int32) (fu_result_sideCount : Int32) (au_result_sides : Nat → Int32) (au_graph_steps : Nat → Int32) (x2 : Int32) (x3 : Int32) : Prop := ((x2 < x3 → (Q 1 ())) ∧ (¬ x2 < x3 → (∀ x_2 : Int32, x_2 = p1 + x3 → (vp_in x_2 32 ∧ (∀ y_4 : Int32, y_4 = au_graph_steps x_2.toNatClampNeg → (∀ x_5 : Int32, x_5 = x2 - x3 → (vp_in x_5 25 ∧ (∀ y_7 : Int32, y_7 = au_result_sides x_5.toNatClampNeg → (wp_X_turned (fun r_9 v_8 => ((y_4 = r_9 → (∀ x3_11 : Int32, x3_11 = x3 + 1 → (K_12 x2 x3_11))) ∧ (¬ y_4 = r_9 → (Q 0 ())))) y_7)))))))))
def w_X_liesTurned_12 (Q : Int32 → Unit → Prop)  (p1 : Int32) (fu_result_sideCount : Int32) (au_result_sides : Nat → Int32) (au_graph_steps : Nat → Int32) : Nat → Int32 → Int32 → Prop
  | 0 => fun _ _ => False
  | n + 1 => fun x2 x3 => w_X_liesTurned_12B Q  (w_X_liesTurned_12 Q  p1 fu_result_sideCount au_result_sides au_graph_steps n) p1 fu_result_sideCount au_result_sides au_graph_steps x2 x3
def wp_X_liesTurned (Q : Int32 → Unit → Prop) (p1 : Int32) (fu_result_sideCount : Int32) (au_result_sides : Nat → Int32) (au_graph_steps : Nat → Int32) : Prop := ∀ x_12 : Int32, x_12 = fu_result_sideCount - 1 → (∃ fu_12 : Nat, w_X_liesTurned_12 Q p1 fu_result_sideCount au_result_sides au_graph_steps fu_12 x_12 0)
abbrev rm_X_liesTurned : Room := { frames := 1, cells := 0, slots := 0, locals := 20 }
set_option maxHeartbeats 4000000 in
set_option maxRecDepth 100000 in
theorem k_X_liesTurned (l : Launch) (dC : Nat → ClassId) (dI : Nat → Nat → Nat) (cI cC cB : ClassId) (sz : Nat) (qu : Nat) (qu_result : Nat) (qu_result_sides : Nat) (qu_graph : Nat) (qu_graph_steps : Nat) (qu_text : Nat) (qu_reading : Nat) (qu_costs : Nat) (qu_told : Nat) (qu_spare : Nat) (qu_result_walkBackwards : Nat) (qu_result_editsBackwards : Nat) (qu_graph_segmentNames : Nat) (qu_graph_sideStarts : Nat) (qu_graph_placeBases : Nat) (qu_graph_placeSides : Nat) (qu_graph_followers : Nat) (qu_graph_pathNames : Nat) (qu_graph_stepCounts : Nat) (qu_graph_joinFrom : Nat) (qu_graph_joinTo : Nat) (fu_result_found : Int32) (fu_result_cost : Int32) (fu_result_walkLength : Int32) (fu_result_editCount : Int32) (fu_result_sideCount : Int32) (fu_result_basesLeft : Int32) (fu_result_place : Int32) (au_result_sides : Nat → Int32) (fu_graph_segments : Int32) (fu_graph_links : Int32) (fu_graph_paths : Int32) (fu_graph_places : Int32) (fu_graph_joins : Int32) (au_graph_steps : Nat → Int32) (p1 : Int32) {Q : Int32 → Unit → Prop} (h : wp_X_liesTurned Q p1 fu_result_sideCount au_result_sides au_graph_steps) :
    CTi l y_X_liesTurned (wM y_X_liesTurned c_X_liesTurned 4 (some .boolean)) rm_X_liesTurned 0 0 (dC, dI) (tysL cI cC cB) [.ref qu, .int p1] (W_X_liesTurned cI cC cB qu qu_result qu_result_sides qu_graph qu_graph_steps qu_text qu_reading qu_costs qu_told qu_spare qu_result_walkBackwards qu_result_editsBackwards qu_graph_segmentNames qu_graph_sideStarts qu_graph_placeBases qu_graph_placeSides qu_graph_followers qu_graph_pathNames qu_graph_stepCounts qu_graph_joinFrom qu_graph_joinTo fu_result_found fu_result_cost fu_result_walkLength fu_result_editCount fu_result_sideCount fu_result_basesLeft fu_result_place au_result_sides fu_graph_segments fu_graph_links fu_graph_paths fu_graph_places fu_graph_joins au_graph_steps) sz Q (fun (v : Unit) (b : Unit) => (W_X_liesTurned cI cC cB qu qu_result qu_result_sides qu_graph qu_graph_steps qu_text qu_reading qu_costs qu_told qu_spare qu_result_walkBackwards qu_result_editsBackwards qu_graph_segmentNames qu_graph_sideStarts qu_graph_placeBases qu_graph_placeSides qu_graph_followers qu_graph_pathNames qu_graph_stepCounts qu_graph_joinFrom qu_graph_joinTo fu_result_found fu_result_cost fu_result_walkLength fu_result_editCount fu_result_sideCount fu_result_basesLeft fu_result_place au_result_sides fu_graph_segments fu_graph_links fu_graph_paths fu_graph_places fu_graph_joins au_graph_steps)) := by
  refine CTi.std (by decide) (Nat.le_of_ble_eq_true rfl) ?_
  intro p e s m args below meth c A ls QF C0 hP hD hl hS hsz hnm hret
  obtain ⟨hx, hb, hr, hml, hown, hts, hlocks, hN, hA, hK⟩ := id C0
  have hown : s.vm.findClass R_X = some m.cls := hown
  have hl : lv_has ls 4 [(0, .ref qu), (1, .int p1)] := hl
  clear hsz hnm
  have blk_12 : ∀  (n : Nat) (x2 : Int32) (x3 : Int32)  (H : Heap) (locs : List Loc) (ls : Array Slot), w_X_liesTurned_12 Q  p1 fu_result_sideCount au_result_sides au_graph_steps n x2 x3 → va_P (dC, dI) cls (W_X_liesTurned cI cC cB qu qu_result qu_result_sides qu_graph qu_graph_steps qu_text qu_reading qu_costs qu_told qu_spare qu_result_walkBackwards qu_result_editsBackwards qu_graph_segmentNames qu_graph_sideStarts qu_graph_placeBases qu_graph_placeSides qu_graph_followers qu_graph_pathNames qu_graph_stepCounts qu_graph_joinFrom qu_graph_joinTo fu_result_found fu_result_cost fu_result_walkLength fu_result_editCount fu_result_sideCount fu_result_basesLeft fu_result_place au_result_sides fu_graph_segments fu_graph_links fu_graph_paths fu_graph_places fu_graph_joins au_graph_steps) H → va_D A (W_X_liesTurned cI cC cB qu qu_result qu_result_sides qu_graph qu_graph_steps qu_text qu_reading qu_costs qu_told qu_spare qu_result_walkBackwards qu_result_editsBackwards qu_graph_segmentNames qu_graph_sideStarts qu_graph_placeBases qu_graph_placeSides qu_graph_followers qu_graph_pathNames qu_graph_stepCounts qu_graph_joinFrom qu_graph_joinTo fu_result_found fu_result_cost fu_result_walkLength fu_result_editCount fu_result_sideCount fu_result_basesLeft fu_result_place au_result_sides fu_graph_segments fu_graph_links fu_graph_paths fu_graph_places fu_graph_joins au_graph_steps) → va_S A s.heap H locs → lv_has ls 4 [(0, .ref qu), (1, .int p1), (2, .int x2), (3, .int x3)] → W p l e rm_X_liesTurned s m args below meth c H locs 0 0 QF (F0 m 12 ls []) := by
    intro  n
    induction n with
    | zero => intro x2 x3  H locs ls h; exact (show False from h).elim
    | succ n ih =>
      intro x2 x3  H locs ls h hP hD hS hl
      have h : w_X_liesTurned_12B Q  (w_X_liesTurned_12 Q  p1 fu_result_sideCount au_result_sides au_graph_steps n) p1 fu_result_sideCount au_result_sides au_graph_steps x2 x3 := h
      generalize w_X_liesTurned_12 Q  p1 fu_result_sideCount au_result_sides au_graph_steps n = K_12 at h ih
      unfold w_X_liesTurned_12B at h
      refine lv_iload_n hx hb d_X_liesTurned_12 rfl (lv_at hl 3 rfl) ?_
      refine lv_iload_n hx hb d_X_liesTurned_13 rfl (lv_at hl 2 rfl) ?_
      refine lv_icmp_gt (tgt := 53) hx hb d_X_liesTurned_14 (by decide) (fun c_1 => ?_) (fun c_1 => ?_)
      · have h := h.1 c_1
        refine lv_iconst (v := 1) hx hb d_X_liesTurned_53 (by decide) ?_
        exact hret () () 1 _ _ _ _ rfl h hP hD hS d_X_liesTurned_54
      · have h := h.2 c_1
        refine lv_aload_n hx hb d_X_liesTurned_17 rfl (lv_at hl 0 rfl) ?_
        refine va_get (D := (dC, dI)) (ci := 0) (v := .ref qu_graph) (C := R_X) (T := T_X) (N := 7) hx hb hts in_X hown hK hP 0 rfl rfl 5 (by decide) (hts _ w_127) (fun _ h9 => h9) rfl d_X_liesTurned_18 ?_
        refine va_get (D := (dC, dI)) (ci := 5) (v := .ref qu_graph_steps) (C := R_Gr) (T := T_Gr) (N := 15) hx hb hts in_Gr hown hK hP 3 rfl rfl 12 (by decide) (hts _ w_273) (fun _ h9 => h9) rfl d_X_liesTurned_21 ?_
        refine lv_iload_n hx hb d_X_liesTurned_24 rfl (lv_at hl 1 rfl) ?_
        refine lv_iload_n hx hb d_X_liesTurned_25 rfl (lv_at hl 3 rfl) ?_
        refine lv_iadd hx hb d_X_liesTurned_26 ?_
        refine lv_topi (fun x_2 ex_2 => ?_)
        have h := h x_2 ex_2
        have hi_3 := h.1
        have h := h.2
        refine va_iald hx hb hK hP 4 0 rfl rfl hi_3 d_X_liesTurned_27 ?_
        refine lv_topi (fun y_4 ey_4 => ?_)
        have h := h y_4 ey_4
        refine lv_aload_n hx hb d_X_liesTurned_28 rfl (lv_at hl 0 rfl) ?_
        refine va_get (D := (dC, dI)) (ci := 0) (v := .ref qu_result) (C := R_X) (T := T_X) (N := 7) hx hb hts in_X hown hK hP 0 rfl rfl 3 (by decide) (hts _ w_128) (fun _ h9 => h9) rfl d_X_liesTurned_29 ?_
        refine va_get (D := (dC, dI)) (ci := 4) (v := .ref qu_result_sides) (C := R_Rs) (T := T_Rs) (N := 10) hx hb hts in_Rs hown hK hP 1 rfl rfl 5 (by decide) (hts _ w_274) (fun _ h9 => h9) rfl d_X_liesTurned_32 ?_
        refine lv_iload_n hx hb d_X_liesTurned_35 rfl (lv_at hl 2 rfl) ?_
        refine lv_iload_n hx hb d_X_liesTurned_36 rfl (lv_at hl 3 rfl) ?_
        refine lv_isub hx hb d_X_liesTurned_37 ?_
        refine lv_topi (fun x_5 ex_5 => ?_)
        have h := h x_5 ex_5
        have hi_6 := h.1
        have h := h.2
        refine va_iald hx hb hK hP 2 0 rfl rfl hi_6 d_X_liesTurned_38 ?_
        refine lv_topi (fun y_7 ey_7 => ?_)
        have h := h y_7 ey_7
        refine call_S_i (As := [.int y_7]) (rest := [.int y_4]) C0 hP hD hS [] [0, 1, 2, 3, 4] [0, 1, 2, 3, 4] [(qu, .inr (0, [.ref qu_text, .ref qu_reading, .ref qu_costs, .ref qu_result, .ref qu_told, .ref qu_graph, .ref qu_spare])), (qu_result, .inr (4, [.int fu_result_found, .int fu_result_cost, .int fu_result_walkLength, .int fu_result_editCount, .int fu_result_sideCount, .ref qu_result_sides, .ref qu_result_walkBackwards, .ref qu_result_editsBackwards, .int fu_result_basesLeft, .int fu_result_place])), (qu_result_sides, .inl (cI, 25, .inl au_result_sides)), (qu_graph, .inr (5, [.int fu_graph_segments, .int fu_graph_links, .int fu_graph_paths, .int fu_graph_places, .int fu_graph_joins, .ref qu_graph_segmentNames, .ref qu_graph_sideStarts, .ref qu_graph_placeBases, .ref qu_graph_placeSides, .ref qu_graph_followers, .ref qu_graph_pathNames, .ref qu_graph_stepCounts, .ref qu_graph_steps, .ref qu_graph_joinFrom, .ref qu_graph_joinTo])), (qu_graph_steps, .inl (cI, 32, .inl au_graph_steps))] (fun (v : Unit) (b : Unit) => (W_X_liesTurned cI cC cB qu qu_result qu_result_sides qu_graph qu_graph_steps qu_text qu_reading qu_costs qu_told qu_spare qu_result_walkBackwards qu_result_editsBackwards qu_graph_segmentNames qu_graph_sideStarts qu_graph_placeBases qu_graph_placeSides qu_graph_followers qu_graph_pathNames qu_graph_stepCounts qu_graph_joinFrom qu_graph_joinTo fu_result_found fu_result_cost fu_result_walkLength fu_result_editCount fu_result_sideCount fu_result_basesLeft fu_result_place au_result_sides fu_graph_segments fu_graph_links fu_graph_paths fu_graph_places fu_graph_joins au_graph_steps)) (k_X_turned l dC dI cI cC cB _ y_7 h) (g_S w_31 w_32 w_33 w_30) 1 rfl (by decide +kernel) rfl rfl ⟨Nat.le_of_ble_eq_true rfl, Nat.le_of_ble_eq_true rfl⟩ rfl rfl (by decide) (by decide) (by decide) (by decide) (fun _ _ => rfl) hl.1 rfl (Nat.le_of_ble_eq_true rfl) d_X_liesTurned_39 ⟨Nat.le_of_ble_eq_true rfl, Nat.le_of_ble_eq_true rfl⟩ (fun r_9 v_8 _ H locs h hP hD hS => ?_)
        have hP : va_P (dC, dI) cls (W_X_liesTurned cI cC cB qu qu_result qu_result_sides qu_graph qu_graph_steps qu_text qu_reading qu_costs qu_told qu_spare qu_result_walkBackwards qu_result_editsBackwards qu_graph_segmentNames qu_graph_sideStarts qu_graph_placeBases qu_graph_placeSides qu_graph_followers qu_graph_pathNames qu_graph_stepCounts qu_graph_joinFrom qu_graph_joinTo fu_result_found fu_result_cost fu_result_walkLength fu_result_editCount fu_result_sideCount fu_result_basesLeft fu_result_place au_result_sides fu_graph_segments fu_graph_links fu_graph_paths fu_graph_places fu_graph_joins au_graph_steps) H := hP
        have hD : va_D A (W_X_liesTurned cI cC cB qu qu_result qu_result_sides qu_graph qu_graph_steps qu_text qu_reading qu_costs qu_told qu_spare qu_result_walkBackwards qu_result_editsBackwards qu_graph_segmentNames qu_graph_sideStarts qu_graph_placeBases qu_graph_placeSides qu_graph_followers qu_graph_pathNames qu_graph_stepCounts qu_graph_joinFrom qu_graph_joinTo fu_result_found fu_result_cost fu_result_walkLength fu_result_editCount fu_result_sideCount fu_result_basesLeft fu_result_place au_result_sides fu_graph_segments fu_graph_links fu_graph_paths fu_graph_places fu_graph_joins au_graph_steps) := hD
        refine lv_icmp_eq (tgt := 47) hx hb d_X_liesTurned_42 (by decide) (fun c_10 => ?_) (fun c_10 => ?_)
        · have h := h.1 c_10
          obtain ⟨x3_11, ex3_11⟩ : ∃ y : Int32, y = x3 + 1 := ⟨_, rfl⟩
          have h := h x3_11 ex3_11
          refine lv_iinc (v := x3_11) (lv' := [(3, .int x3_11), (0, .ref qu), (1, .int p1), (2, .int x2)]) hx hb d_X_liesTurned_47 hl (k := 3) rfl (by rw [ex3_11]; rfl) (by decide) rfl (fun ls hl => ?_)
          refine lv_goto (tgt := 12) hx hb d_X_liesTurned_50 (by decide) ?_
          exact ih _ _ _ _ _ h hP hD hS (lv_sub hl [1, 2, 3, 0] rfl)
        · have h := h.2 c_10
          refine lv_iconst (v := 0) hx hb d_X_liesTurned_45 (by decide) ?_
          exact hret () () 0 _ _ _ _ rfl h hP hD hS d_X_liesTurned_46
  unfold wp_X_liesTurned at h
  refine lv_aload_n hx hb d_X_liesTurned_0 rfl (lv_at hl 0 rfl) ?_
  refine va_get (D := (dC, dI)) (ci := 0) (v := .ref qu_result) (C := R_X) (T := T_X) (N := 7) hx hb hts in_X hown hK hP 0 rfl rfl 3 (by decide) (hts _ w_128) (fun _ h9 => h9) rfl d_X_liesTurned_1 ?_
  refine va_get (D := (dC, dI)) (ci := 4) (v := .int fu_result_sideCount) (C := R_Rs) (T := T_Rs) (N := 10) hx hb hts in_Rs hown hK hP 1 rfl rfl 4 (by decide) (hts _ w_272) (fun _ h9 => h9) rfl d_X_liesTurned_4 ?_
  refine lv_iconst (v := 1) hx hb d_X_liesTurned_7 (by decide) ?_
  refine lv_isub hx hb d_X_liesTurned_8 ?_
  refine lv_topi (fun x_12 ex_12 => ?_)
  have h := h x_12 ex_12
  refine lv_istore_n (lv' := [(2, .int x_12), (0, .ref qu), (1, .int p1)]) hx hb d_X_liesTurned_9 rfl hl (by decide) rfl (fun ls hl => ?_)
  refine lv_iconst (v := 0) hx hb d_X_liesTurned_10 (by decide) ?_
  refine lv_istore_n (lv' := [(3, .int 0), (2, .int x_12), (0, .ref qu), (1, .int p1)]) hx hb d_X_liesTurned_11 rfl hl (by decide) rfl (fun ls hl => ?_)
  obtain ⟨fu_12, h⟩ := h
  exact blk_12  _ _ _ _ _ _ h hP hD hS (lv_sub hl [2, 3, 1, 0] rfl)
abbrev W_X_lies (cI cC cB : ClassId) (qu : Nat) (qu_result : Nat) (qu_result_sides : Nat) (qu_graph : Nat) (qu_graph_stepCounts : Nat) (qu_graph_steps : Nat) (qu_text : Nat) (qu_reading : Nat) (qu_costs : Nat) (qu_told : Nat) (qu_spare : Nat) (qu_result_walkBackwards : Nat) (qu_result_editsBackwards : Nat) (qu_graph_segmentNames : Nat) (qu_graph_sideStarts : Nat) (qu_graph_placeBases : Nat) (qu_graph_placeSides : Nat) (qu_graph_followers : Nat) (qu_graph_pathNames : Nat) (qu_graph_joinFrom : Nat) (qu_graph_joinTo : Nat) (fu_result_found : Int32) (fu_result_cost : Int32) (fu_result_walkLength : Int32) (fu_result_editCount : Int32) (fu_result_sideCount : Int32) (fu_result_basesLeft : Int32) (fu_result_place : Int32) (au_result_sides : Nat → Int32) (fu_graph_segments : Int32) (fu_graph_links : Int32) (fu_graph_paths : Int32) (fu_graph_places : Int32) (fu_graph_joins : Int32) (au_graph_stepCounts : Nat → Int32) (au_graph_steps : Nat → Int32) : va_W := [(qu, .inr (0, [.ref qu_text, .ref qu_reading, .ref qu_costs, .ref qu_result, .ref qu_told, .ref qu_graph, .ref qu_spare])), (qu_result, .inr (4, [.int fu_result_found, .int fu_result_cost, .int fu_result_walkLength, .int fu_result_editCount, .int fu_result_sideCount, .ref qu_result_sides, .ref qu_result_walkBackwards, .ref qu_result_editsBackwards, .int fu_result_basesLeft, .int fu_result_place])), (qu_result_sides, .inl (cI, 25, .inl au_result_sides)), (qu_graph, .inr (5, [.int fu_graph_segments, .int fu_graph_links, .int fu_graph_paths, .int fu_graph_places, .int fu_graph_joins, .ref qu_graph_segmentNames, .ref qu_graph_sideStarts, .ref qu_graph_placeBases, .ref qu_graph_placeSides, .ref qu_graph_followers, .ref qu_graph_pathNames, .ref qu_graph_stepCounts, .ref qu_graph_steps, .ref qu_graph_joinFrom, .ref qu_graph_joinTo])), (qu_graph_stepCounts, .inl (cI, 4, .inl au_graph_stepCounts)), (qu_graph_steps, .inl (cI, 32, .inl au_graph_steps))]
def w_X_lies_47B (Q : Int32 → Unit → Prop)  (K_47 : Int32 → Int32 → Prop) (p1 : Int32) (fu_result_found : Int32) (fu_result_sideCount : Int32) (au_result_sides : Nat → Int32) (fu_graph_paths : Int32) (au_graph_stepCounts : Nat → Int32) (au_graph_steps : Nat → Int32) (x2 : Int32) (x3 : Int32) : Prop := ((x2 < x3 → (Q 0 ())) ∧ (¬ x2 < x3 → (∀ x_2 : Int32, x_2 = (p1 * 8) + x3 → (wp_X_liesForwards (fun r_4 v_3 => ((r_4 = 0 → (wp_X_liesTurned (fun r_7 v_6 => ((r_7 = 0 → (∀ x3_9 : Int32, x3_9 = x3 + 1 → (K_47 x2 x3_9))) ∧ (¬ r_7 = 0 → (Q 1 ())))) x_2 fu_result_sideCount au_result_sides au_graph_steps)) ∧ (¬ r_4 = 0 → (Q 1 ())))) x_2 fu_result_sideCount au_result_sides au_graph_steps))))
def w_X_lies_47 (Q : Int32 → Unit → Prop)  (p1 : Int32) (fu_result_found : Int32) (fu_result_sideCount : Int32) (au_result_sides : Nat → Int32) (fu_graph_paths : Int32) (au_graph_stepCounts : Nat → Int32) (au_graph_steps : Nat → Int32) : Nat → Int32 → Int32 → Prop
  | 0 => fun _ _ => False
  | n + 1 => fun x2 x3 => w_X_lies_47B Q  (w_X_lies_47 Q  p1 fu_result_found fu_result_sideCount au_result_sides fu_graph_paths au_graph_stepCounts au_graph_steps n) p1 fu_result_found fu_result_sideCount au_result_sides fu_graph_paths au_graph_stepCounts au_graph_steps x2 x3
def wp_X_lies (Q : Int32 → Unit → Prop) (p1 : Int32) (fu_result_found : Int32) (fu_result_sideCount : Int32) (au_result_sides : Nat → Int32) (fu_graph_paths : Int32) (au_graph_stepCounts : Nat → Int32) (au_graph_steps : Nat → Int32) : Prop := ((fu_result_found = 0 → (Q 0 ())) ∧ (¬ fu_result_found = 0 → (((p1 < 0 → (Q 0 ())) ∧ (¬ p1 < 0 → (((p1 < fu_graph_paths → (vp_in p1 4 ∧ (∀ x_14 : Int32, x_14 = (au_graph_stepCounts p1.toNatClampNeg) - fu_result_sideCount → (∃ fu_47 : Nat, w_X_lies_47 Q p1 fu_result_found fu_result_sideCount au_result_sides fu_graph_paths au_graph_stepCounts au_graph_steps fu_47 x_14 0)))) ∧ (¬ p1 < fu_graph_paths → (Q 0 ())))))))))
abbrev rm_X_lies : Room := { frames := 2, cells := 0, slots := 0, locals := 43 }
set_option maxHeartbeats 4000000 in
set_option maxRecDepth 100000 in
theorem k_X_lies (l : Launch) (dC : Nat → ClassId) (dI : Nat → Nat → Nat) (cI cC cB : ClassId) (sz : Nat) (qu : Nat) (qu_result : Nat) (qu_result_sides : Nat) (qu_graph : Nat) (qu_graph_stepCounts : Nat) (qu_graph_steps : Nat) (qu_text : Nat) (qu_reading : Nat) (qu_costs : Nat) (qu_told : Nat) (qu_spare : Nat) (qu_result_walkBackwards : Nat) (qu_result_editsBackwards : Nat) (qu_graph_segmentNames : Nat) (qu_graph_sideStarts : Nat) (qu_graph_placeBases : Nat) (qu_graph_placeSides : Nat) (qu_graph_followers : Nat) (qu_graph_pathNames : Nat) (qu_graph_joinFrom : Nat) (qu_graph_joinTo : Nat) (fu_result_found : Int32) (fu_result_cost : Int32) (fu_result_walkLength : Int32) (fu_result_editCount : Int32) (fu_result_sideCount : Int32) (fu_result_basesLeft : Int32) (fu_result_place : Int32) (au_result_sides : Nat → Int32) (fu_graph_segments : Int32) (fu_graph_links : Int32) (fu_graph_paths : Int32) (fu_graph_places : Int32) (fu_graph_joins : Int32) (au_graph_stepCounts : Nat → Int32) (au_graph_steps : Nat → Int32) (p1 : Int32) {Q : Int32 → Unit → Prop} (h : wp_X_lies Q p1 fu_result_found fu_result_sideCount au_result_sides fu_graph_paths au_graph_stepCounts au_graph_steps) :
    CTi l y_X_lies (wM y_X_lies c_X_lies 5 (some .boolean)) rm_X_lies 0 0 (dC, dI) (tysL cI cC cB) [.ref qu, .int p1] (W_X_lies cI cC cB qu qu_result qu_result_sides qu_graph qu_graph_stepCounts qu_graph_steps qu_text qu_reading qu_costs qu_told qu_spare qu_result_walkBackwards qu_result_editsBackwards qu_graph_segmentNames qu_graph_sideStarts qu_graph_placeBases qu_graph_placeSides qu_graph_followers qu_graph_pathNames qu_graph_joinFrom qu_graph_joinTo fu_result_found fu_result_cost fu_result_walkLength fu_result_editCount fu_result_sideCount fu_result_basesLeft fu_result_place au_result_sides fu_graph_segments fu_graph_links fu_graph_paths fu_graph_places fu_graph_joins au_graph_stepCounts au_graph_steps) sz Q (fun (v : Unit) (b : Unit) => (W_X_lies cI cC cB qu qu_result qu_result_sides qu_graph qu_graph_stepCounts qu_graph_steps qu_text qu_reading qu_costs qu_told qu_spare qu_result_walkBackwards qu_result_editsBackwards qu_graph_segmentNames qu_graph_sideStarts qu_graph_placeBases qu_graph_placeSides qu_graph_followers qu_graph_pathNames qu_graph_joinFrom qu_graph_joinTo fu_result_found fu_result_cost fu_result_walkLength fu_result_editCount fu_result_sideCount fu_result_basesLeft fu_result_place au_result_sides fu_graph_segments fu_graph_links fu_graph_paths fu_graph_places fu_graph_joins au_graph_stepCounts au_graph_steps)) := by
  refine CTi.std (by decide) (Nat.le_of_ble_eq_true rfl) ?_
  intro p e s m args below meth c A ls QF C0 hP hD hl hS hsz hnm hret
  obtain ⟨hx, hb, hr, hml, hown, hts, hlocks, hN, hA, hK⟩ := id C0
  have hown : s.vm.findClass R_X = some m.cls := hown
  have hl : lv_has ls 5 [(0, .ref qu), (1, .int p1)] := hl
  clear hsz hnm
  have blk_47 : ∀  (n : Nat) (x2 : Int32) (x3 : Int32)  (H : Heap) (locs : List Loc) (ls : Array Slot), w_X_lies_47 Q  p1 fu_result_found fu_result_sideCount au_result_sides fu_graph_paths au_graph_stepCounts au_graph_steps n x2 x3 → va_P (dC, dI) cls (W_X_lies cI cC cB qu qu_result qu_result_sides qu_graph qu_graph_stepCounts qu_graph_steps qu_text qu_reading qu_costs qu_told qu_spare qu_result_walkBackwards qu_result_editsBackwards qu_graph_segmentNames qu_graph_sideStarts qu_graph_placeBases qu_graph_placeSides qu_graph_followers qu_graph_pathNames qu_graph_joinFrom qu_graph_joinTo fu_result_found fu_result_cost fu_result_walkLength fu_result_editCount fu_result_sideCount fu_result_basesLeft fu_result_place au_result_sides fu_graph_segments fu_graph_links fu_graph_paths fu_graph_places fu_graph_joins au_graph_stepCounts au_graph_steps) H → va_D A (W_X_lies cI cC cB qu qu_result qu_result_sides qu_graph qu_graph_stepCounts qu_graph_steps qu_text qu_reading qu_costs qu_told qu_spare qu_result_walkBackwards qu_result_editsBackwards qu_graph_segmentNames qu_graph_sideStarts qu_graph_placeBases qu_graph_placeSides qu_graph_followers qu_graph_pathNames qu_graph_joinFrom qu_graph_joinTo fu_result_found fu_result_cost fu_result_walkLength fu_result_editCount fu_result_sideCount fu_result_basesLeft fu_result_place au_result_sides fu_graph_segments fu_graph_links fu_graph_paths fu_graph_places fu_graph_joins au_graph_stepCounts au_graph_steps) → va_S A s.heap H locs → lv_has ls 5 [(0, .ref qu), (1, .int p1), (2, .int x2), (3, .int x3)] → W p l e rm_X_lies s m args below meth c H locs 0 0 QF (F0 m 47 ls []) := by
    intro  n
    induction n with
    | zero => intro x2 x3  H locs ls h; exact (show False from h).elim
    | succ n ih =>
      intro x2 x3  H locs ls h hP hD hS hl
      have h : w_X_lies_47B Q  (w_X_lies_47 Q  p1 fu_result_found fu_result_sideCount au_result_sides fu_graph_paths au_graph_stepCounts au_graph_steps n) p1 fu_result_found fu_result_sideCount au_result_sides fu_graph_paths au_graph_stepCounts au_graph_steps x2 x3 := h
      generalize w_X_lies_47 Q  p1 fu_result_found fu_result_sideCount au_result_sides fu_graph_paths au_graph_stepCounts au_graph_steps n = K_47 at h ih
      unfold w_X_lies_47B at h
      refine lv_iload_n hx hb d_X_lies_47 rfl (lv_at hl 3 rfl) ?_
      refine lv_iload_n hx hb d_X_lies_48 rfl (lv_at hl 2 rfl) ?_
      refine lv_icmp_gt (tgt := 86) hx hb d_X_lies_49 (by decide) (fun c_1 => ?_) (fun c_1 => ?_)
      · have h := h.1 c_1
        refine lv_iconst (v := 0) hx hb d_X_lies_86 (by decide) ?_
        exact hret () () 0 _ _ _ _ rfl h hP hD hS d_X_lies_87
      · have h := h.2 c_1
        refine lv_iload_n hx hb d_X_lies_52 rfl (lv_at hl 1 rfl) ?_
        refine lv_bipush (v := 8) hx hb d_X_lies_53 (by decide) ?_
        refine lv_imul hx hb d_X_lies_55 ?_
        refine lv_iload_n hx hb d_X_lies_56 rfl (lv_at hl 3 rfl) ?_
        refine lv_iadd hx hb d_X_lies_57 ?_
        refine lv_topi (fun x_2 ex_2 => ?_)
        have h := h x_2 ex_2
        refine lv_istore (lv' := [(4, .int x_2), (0, .ref qu), (1, .int p1), (2, .int x2), (3, .int x3)]) hx hb d_X_lies_58 hl (by decide) rfl (fun ls hl => ?_)
        refine lv_aload_n hx hb d_X_lies_60 rfl (lv_at hl 1 rfl) ?_
        refine lv_iload hx hb d_X_lies_61 (lv_at hl 0 rfl) ?_
        refine call_V_i (As := [.int x_2]) (rest := []) C0 hP hD hS [0, 1, 2, 3, 5] [4] [1, 2, 3, 4, 0, 5] [(qu_graph_stepCounts, .inl (cI, 4, .inl au_graph_stepCounts))] (fun (v : Unit) (b : Unit) => (W_X_lies cI cC cB qu qu_result qu_result_sides qu_graph qu_graph_stepCounts qu_graph_steps qu_text qu_reading qu_costs qu_told qu_spare qu_result_walkBackwards qu_result_editsBackwards qu_graph_segmentNames qu_graph_sideStarts qu_graph_placeBases qu_graph_placeSides qu_graph_followers qu_graph_pathNames qu_graph_joinFrom qu_graph_joinTo fu_result_found fu_result_cost fu_result_walkLength fu_result_editCount fu_result_sideCount fu_result_basesLeft fu_result_place au_result_sides fu_graph_segments fu_graph_links fu_graph_paths fu_graph_places fu_graph_joins au_graph_stepCounts au_graph_steps)) (ci := 0) rfl rfl (k_X_liesForwards l dC dI cI cC cB _ qu qu_result qu_result_sides qu_graph qu_graph_steps qu_text qu_reading qu_costs qu_told qu_spare qu_result_walkBackwards qu_result_editsBackwards qu_graph_segmentNames qu_graph_sideStarts qu_graph_placeBases qu_graph_placeSides qu_graph_followers qu_graph_pathNames qu_graph_stepCounts qu_graph_joinFrom qu_graph_joinTo fu_result_found fu_result_cost fu_result_walkLength fu_result_editCount fu_result_sideCount fu_result_basesLeft fu_result_place au_result_sides fu_graph_segments fu_graph_links fu_graph_paths fu_graph_places fu_graph_joins au_graph_steps x_2 h) (g_V w_280 w_281 w_282 w_33 w_279) 1 rfl (by decide +kernel) rfl rfl ⟨Nat.le_of_ble_eq_true rfl, Nat.le_of_ble_eq_true rfl⟩ rfl rfl (by decide) (by decide) (by decide) (by decide) (fun _ _ => rfl) hl.1 rfl (Nat.le_of_ble_eq_true rfl) d_X_lies_63 ⟨Nat.le_of_ble_eq_true rfl, Nat.le_of_ble_eq_true rfl⟩ (fun r_4 v_3 _ H locs h hP hD hS => ?_)
        have hP : va_P (dC, dI) cls (W_X_lies cI cC cB qu qu_result qu_result_sides qu_graph qu_graph_stepCounts qu_graph_steps qu_text qu_reading qu_costs qu_told qu_spare qu_result_walkBackwards qu_result_editsBackwards qu_graph_segmentNames qu_graph_sideStarts qu_graph_placeBases qu_graph_placeSides qu_graph_followers qu_graph_pathNames qu_graph_joinFrom qu_graph_joinTo fu_result_found fu_result_cost fu_result_walkLength fu_result_editCount fu_result_sideCount fu_result_basesLeft fu_result_place au_result_sides fu_graph_segments fu_graph_links fu_graph_paths fu_graph_places fu_graph_joins au_graph_stepCounts au_graph_steps) H := hP
        have hD : va_D A (W_X_lies cI cC cB qu qu_result qu_result_sides qu_graph qu_graph_stepCounts qu_graph_steps qu_text qu_reading qu_costs qu_told qu_spare qu_result_walkBackwards qu_result_editsBackwards qu_graph_segmentNames qu_graph_sideStarts qu_graph_placeBases qu_graph_placeSides qu_graph_followers qu_graph_pathNames qu_graph_joinFrom qu_graph_joinTo fu_result_found fu_result_cost fu_result_walkLength fu_result_editCount fu_result_sideCount fu_result_basesLeft fu_result_place au_result_sides fu_graph_segments fu_graph_links fu_graph_paths fu_graph_places fu_graph_joins au_graph_stepCounts au_graph_steps) := hD
        refine lv_if_ne (tgt := 78) hx hb d_X_lies_66 (by decide) (fun c_5 => ?_) (fun c_5 => ?_)
        · have h := h.2 c_5
          refine lv_iconst (v := 1) hx hb d_X_lies_78 (by decide) ?_
          exact hret () () 1 _ _ _ _ rfl h hP hD hS d_X_lies_79
        · have h := h.1 c_5
          refine lv_aload_n hx hb d_X_lies_69 rfl (lv_at hl 1 rfl) ?_
          refine lv_iload hx hb d_X_lies_70 (lv_at hl 0 rfl) ?_
          refine call_V_i (As := [.int x_2]) (rest := []) C0 hP hD hS [0, 1, 2, 3, 5] [4] [1, 2, 3, 4, 0, 5] [(qu_graph_stepCounts, .inl (cI, 4, .inl au_graph_stepCounts))] (fun (v : Unit) (b : Unit) => (W_X_lies cI cC cB qu qu_result qu_result_sides qu_graph qu_graph_stepCounts qu_graph_steps qu_text qu_reading qu_costs qu_told qu_spare qu_result_walkBackwards qu_result_editsBackwards qu_graph_segmentNames qu_graph_sideStarts qu_graph_placeBases qu_graph_placeSides qu_graph_followers qu_graph_pathNames qu_graph_joinFrom qu_graph_joinTo fu_result_found fu_result_cost fu_result_walkLength fu_result_editCount fu_result_sideCount fu_result_basesLeft fu_result_place au_result_sides fu_graph_segments fu_graph_links fu_graph_paths fu_graph_places fu_graph_joins au_graph_stepCounts au_graph_steps)) (ci := 0) rfl rfl (k_X_liesTurned l dC dI cI cC cB _ qu qu_result qu_result_sides qu_graph qu_graph_steps qu_text qu_reading qu_costs qu_told qu_spare qu_result_walkBackwards qu_result_editsBackwards qu_graph_segmentNames qu_graph_sideStarts qu_graph_placeBases qu_graph_placeSides qu_graph_followers qu_graph_pathNames qu_graph_stepCounts qu_graph_joinFrom qu_graph_joinTo fu_result_found fu_result_cost fu_result_walkLength fu_result_editCount fu_result_sideCount fu_result_basesLeft fu_result_place au_result_sides fu_graph_segments fu_graph_links fu_graph_paths fu_graph_places fu_graph_joins au_graph_steps x_2 h) (g_V w_276 w_277 w_278 w_33 w_275) 1 rfl (by decide +kernel) rfl rfl ⟨Nat.le_of_ble_eq_true rfl, Nat.le_of_ble_eq_true rfl⟩ rfl rfl (by decide) (by decide) (by decide) (by decide) (fun _ _ => rfl) hl.1 rfl (Nat.le_of_ble_eq_true rfl) d_X_lies_72 ⟨Nat.le_of_ble_eq_true rfl, Nat.le_of_ble_eq_true rfl⟩ (fun r_7 v_6 _ H locs h hP hD hS => ?_)
          have hP : va_P (dC, dI) cls (W_X_lies cI cC cB qu qu_result qu_result_sides qu_graph qu_graph_stepCounts qu_graph_steps qu_text qu_reading qu_costs qu_told qu_spare qu_result_walkBackwards qu_result_editsBackwards qu_graph_segmentNames qu_graph_sideStarts qu_graph_placeBases qu_graph_placeSides qu_graph_followers qu_graph_pathNames qu_graph_joinFrom qu_graph_joinTo fu_result_found fu_result_cost fu_result_walkLength fu_result_editCount fu_result_sideCount fu_result_basesLeft fu_result_place au_result_sides fu_graph_segments fu_graph_links fu_graph_paths fu_graph_places fu_graph_joins au_graph_stepCounts au_graph_steps) H := hP
          have hD : va_D A (W_X_lies cI cC cB qu qu_result qu_result_sides qu_graph qu_graph_stepCounts qu_graph_steps qu_text qu_reading qu_costs qu_told qu_spare qu_result_walkBackwards qu_result_editsBackwards qu_graph_segmentNames qu_graph_sideStarts qu_graph_placeBases qu_graph_placeSides qu_graph_followers qu_graph_pathNames qu_graph_joinFrom qu_graph_joinTo fu_result_found fu_result_cost fu_result_walkLength fu_result_editCount fu_result_sideCount fu_result_basesLeft fu_result_place au_result_sides fu_graph_segments fu_graph_links fu_graph_paths fu_graph_places fu_graph_joins au_graph_stepCounts au_graph_steps) := hD
          refine lv_if_eq (tgt := 80) hx hb d_X_lies_75 (by decide) (fun c_8 => ?_) (fun c_8 => ?_)
          · have h := h.1 c_8
            obtain ⟨x3_9, ex3_9⟩ : ∃ y : Int32, y = x3 + 1 := ⟨_, rfl⟩
            have h := h x3_9 ex3_9
            refine lv_iinc (v := x3_9) (lv' := [(3, .int x3_9), (4, .int x_2), (0, .ref qu), (1, .int p1), (2, .int x2)]) hx hb d_X_lies_80 hl (k := 4) rfl (by rw [ex3_9]; rfl) (by decide) rfl (fun ls hl => ?_)
            refine lv_goto (tgt := 47) hx hb d_X_lies_83 (by decide) ?_
            exact ih _ _ _ _ _ h hP hD hS (lv_sub hl [2, 3, 4, 0] rfl)
          · have h := h.2 c_8
            refine lv_iconst (v := 1) hx hb d_X_lies_78 (by decide) ?_
            exact hret () () 1 _ _ _ _ rfl h hP hD hS d_X_lies_79
  unfold wp_X_lies at h
  refine lv_aload_n hx hb d_X_lies_0 rfl (lv_at hl 0 rfl) ?_
  refine va_get (D := (dC, dI)) (ci := 0) (v := .ref qu_result) (C := R_X) (T := T_X) (N := 7) hx hb hts in_X hown hK hP 0 rfl rfl 3 (by decide) (hts _ w_128) (fun _ h9 => h9) rfl d_X_lies_1 ?_
  refine va_get (D := (dC, dI)) (ci := 4) (v := .int fu_result_found) (C := R_Rs) (T := T_Rs) (N := 10) hx hb hts in_Rs hown hK hP 1 rfl rfl 0 (by decide) (hts _ w_129) (fun _ h9 => h9) rfl d_X_lies_4 ?_
  refine lv_if_eq (tgt := 25) hx hb d_X_lies_7 (by decide) (fun c_10 => ?_) (fun c_10 => ?_)
  · have h := h.1 c_10
    refine lv_iconst (v := 0) hx hb d_X_lies_25 (by decide) ?_
    exact hret () () 0 _ _ _ _ rfl h hP hD hS d_X_lies_26
  · have h := h.2 c_10
    refine lv_iload_n hx hb d_X_lies_10 rfl (lv_at hl 1 rfl) ?_
    refine lv_if_lt (tgt := 25) hx hb d_X_lies_11 (by decide) (fun c_11 => ?_) (fun c_11 => ?_)
    · have h := h.1 c_11
      refine lv_iconst (v := 0) hx hb d_X_lies_25 (by decide) ?_
      exact hret () () 0 _ _ _ _ rfl h hP hD hS d_X_lies_26
    · have h := h.2 c_11
      refine lv_iload_n hx hb d_X_lies_14 rfl (lv_at hl 1 rfl) ?_
      refine lv_aload_n hx hb d_X_lies_15 rfl (lv_at hl 0 rfl) ?_
      refine va_get (D := (dC, dI)) (ci := 0) (v := .ref qu_graph) (C := R_X) (T := T_X) (N := 7) hx hb hts in_X hown hK hP 0 rfl rfl 5 (by decide) (hts _ w_127) (fun _ h9 => h9) rfl d_X_lies_16 ?_
      refine va_get (D := (dC, dI)) (ci := 5) (v := .int fu_graph_paths) (C := R_Gr) (T := T_Gr) (N := 15) hx hb hts in_Gr hown hK hP 3 rfl rfl 2 (by decide) (hts _ w_143) (fun _ h9 => h9) rfl d_X_lies_19 ?_
      refine lv_icmp_lt (tgt := 27) hx hb d_X_lies_22 (by decide) (fun c_12 => ?_) (fun c_12 => ?_)
      · have h := h.1 c_12
        refine lv_aload_n hx hb d_X_lies_27 rfl (lv_at hl 0 rfl) ?_
        refine va_get (D := (dC, dI)) (ci := 0) (v := .ref qu_graph) (C := R_X) (T := T_X) (N := 7) hx hb hts in_X hown hK hP 0 rfl rfl 5 (by decide) (hts _ w_127) (fun _ h9 => h9) rfl d_X_lies_28 ?_
        refine va_get (D := (dC, dI)) (ci := 5) (v := .ref qu_graph_stepCounts) (C := R_Gr) (T := T_Gr) (N := 15) hx hb hts in_Gr hown hK hP 3 rfl rfl 11 (by decide) (hts _ w_283) (fun _ h9 => h9) rfl d_X_lies_31 ?_
        refine lv_iload_n hx hb d_X_lies_34 rfl (lv_at hl 1 rfl) ?_
        have hi_13 := h.1
        have h := h.2
        refine va_iald hx hb hK hP 4 0 rfl rfl hi_13 d_X_lies_35 ?_
        refine lv_aload_n hx hb d_X_lies_36 rfl (lv_at hl 0 rfl) ?_
        refine va_get (D := (dC, dI)) (ci := 0) (v := .ref qu_result) (C := R_X) (T := T_X) (N := 7) hx hb hts in_X hown hK hP 0 rfl rfl 3 (by decide) (hts _ w_128) (fun _ h9 => h9) rfl d_X_lies_37 ?_
        refine va_get (D := (dC, dI)) (ci := 4) (v := .int fu_result_sideCount) (C := R_Rs) (T := T_Rs) (N := 10) hx hb hts in_Rs hown hK hP 1 rfl rfl 4 (by decide) (hts _ w_272) (fun _ h9 => h9) rfl d_X_lies_40 ?_
        refine lv_isub hx hb d_X_lies_43 ?_
        refine lv_topi (fun x_14 ex_14 => ?_)
        have h := h x_14 ex_14
        refine lv_istore_n (lv' := [(2, .int x_14), (0, .ref qu), (1, .int p1)]) hx hb d_X_lies_44 rfl hl (by decide) rfl (fun ls hl => ?_)
        refine lv_iconst (v := 0) hx hb d_X_lies_45 (by decide) ?_
        refine lv_istore_n (lv' := [(3, .int 0), (2, .int x_14), (0, .ref qu), (1, .int p1)]) hx hb d_X_lies_46 rfl hl (by decide) rfl (fun ls hl => ?_)
        obtain ⟨fu_47, h⟩ := h
        exact blk_47  _ _ _ _ _ _ h hP hD hS (lv_sub hl [2, 3, 1, 0] rfl)
      · have h := h.2 c_12
        refine lv_iconst (v := 0) hx hb d_X_lies_25 (by decide) ?_
        exact hret () () 0 _ _ _ _ rfl h hP hD hS d_X_lies_26
def w_AS_newLength_21 (Q : Int32 → Unit → Prop)  (p0 : Int32)  : Prop := False
def wp_AS_newLength (Q : Int32 → Unit → Prop) (p0 : Int32) (p1 : Int32) (p2 : Int32)  : Prop := ∀ x_1 : Int32, x_1 = (if p1 < p2 then p2 else p1) → (∀ x_2 : Int32, x_2 = p0 + x_1 → (((x_2 ≤ 0 → (w_AS_newLength_21 Q p0 )) ∧ (¬ x_2 ≤ 0 → (((2147483639 < x_2 → (w_AS_newLength_21 Q p0 )) ∧ (¬ 2147483639 < x_2 → (Q x_2 ()))))))))
abbrev rm_AS_newLength : Room := { frames := 1, cells := 0, slots := 0, locals := 21 }
set_option maxHeartbeats 4000000 in
set_option maxRecDepth 100000 in
theorem k_AS_newLength (l : Launch) (dC : Nat → ClassId) (dI : Nat → Nat → Nat) (cI cC cB : ClassId) (sz : Nat)   (p0 : Int32) (p1 : Int32) (p2 : Int32) {Q : Int32 → Unit → Prop} (h : wp_AS_newLength Q p0 p1 p2 ) :
    CTi l y_AS_newLength (wM y_AS_newLength c_AS_newLength 4 (some .int)) rm_AS_newLength 0 0 (dC, dI) (tysL cI cC cB) [.int p0, .int p1, .int p2] [] sz Q (fun (v : Unit) (b : Unit) => []) := by
  refine CTi.std (by decide) (Nat.le_of_ble_eq_true rfl) ?_
  intro p e s m args below meth c A ls QF C0 hP hD hl hS hsz hnm hret
  obtain ⟨hx, hb, hr, hml, hown, hts, hlocks, hN, hA, hK⟩ := id C0
  have hown : s.vm.findClass R_AS = some m.cls := hown
  have hl : lv_has ls 4 [(0, .int p0), (1, .int p1), (2, .int p2)] := hl
  clear hsz hnm
  have blk_21 : ∀    (H : Heap) (locs : List Loc) (ls : Array Slot), w_AS_newLength_21 Q  p0  → va_P (dC, dI) cls [] H → va_D A [] → va_S A s.heap H locs → lv_has ls 4 [(0, .int p0)] → W p l e rm_AS_newLength s m args below meth c H locs 0 0 QF (F0 m 21 ls []) := by
    intro    H locs ls h hP hD hS hl
    unfold w_AS_newLength_21 at h
    exact h.elim
  unfold wp_AS_newLength at h
  refine lv_iload_n hx hb d_AS_newLength_0 rfl (lv_at hl 0 rfl) ?_
  refine lv_iload_n hx hb d_AS_newLength_1 rfl (lv_at hl 1 rfl) ?_
  refine lv_iload_n hx hb d_AS_newLength_2 rfl (lv_at hl 2 rfl) ?_
  refine va_mmax hx hb (hml.trans hl.1.symm) hown (hts _ w_286) (hts _ w_287) (hts _ w_185) (hts _ w_288) (Nat.le_of_ble_eq_true rfl) (Nat.le_of_ble_eq_true rfl) (Nat.le_of_ble_eq_true rfl) (Nat.le_of_ble_eq_true rfl) d_AS_newLength_3 ?_
  refine lv_topi (fun x_1 ex_1 => ?_)
  have h := h x_1 ex_1
  refine lv_iadd hx hb d_AS_newLength_6 ?_
  refine lv_topi (fun x_2 ex_2 => ?_)
  have h := h x_2 ex_2
  refine lv_istore_n (lv' := [(3, .int x_2), (0, .int p0), (1, .int p1), (2, .int p2)]) hx hb d_AS_newLength_7 rfl hl (by decide) rfl (fun ls hl => ?_)
  refine lv_iconst (v := 0) hx hb d_AS_newLength_8 (by decide) ?_
  refine lv_iload_n hx hb d_AS_newLength_9 rfl (lv_at hl 0 rfl) ?_
  refine lv_icmp_ge (tgt := 21) hx hb d_AS_newLength_10 (by decide) (fun c_3 => ?_) (fun c_3 => ?_)
  · have h := h.1 c_3
    exact blk_21  _ _ _ h hP hD hS (lv_sub hl [1] rfl)
  · have h := h.2 c_3
    refine lv_iload_n hx hb d_AS_newLength_13 rfl (lv_at hl 0 rfl) ?_
    refine lv_ldc hx hb hown (hts _ w_289) d_AS_newLength_14 ?_
    refine lv_icmp_gt (tgt := 21) hx hb d_AS_newLength_16 (by decide) (fun c_4 => ?_) (fun c_4 => ?_)
    · have h := h.1 c_4
      exact blk_21  _ _ _ h hP hD hS (lv_sub hl [1] rfl)
    · have h := h.2 c_4
      refine lv_iload_n hx hb d_AS_newLength_19 rfl (lv_at hl 0 rfl) ?_
      exact hret () () x_2 _ _ _ _ rfl h hP hD hS d_AS_newLength_20
abbrev W_AB_newCapacity (cI cC cB : ClassId) (qu : Nat) (qu_value : Nat) (fu_coder : Int32) (fu_maybeLatin1 : Int32) (fu_count : Int32) (nu_value : Nat) (au_value : Nat → Int32) : va_W := [(qu, .inr (7, [.ref qu_value, .int fu_coder, .int fu_maybeLatin1, .int fu_count])), (qu_value, .inl (cB, nu_value, .inl au_value))]
def wp_AB_newCapacity (Q : Int32 → Unit → Prop) (p1 : Int32) (fu_coder : Int32) (nu_value : Nat) : Prop := ∀ x_1 : Int32, x_1 = p1 <<< (fu_coder &&& 31) → (∀ x_2 : Int32, x_2 = x_1 - (Int32.ofNat nu_value) → (∀ x_3 : Int32, x_3 = (Int32.ofNat nu_value) + (2 <<< (fu_coder &&& 31)) → (wp_AS_newLength (fun r_5 v_4 => ((r_5 = 2147483647 → (False)) ∧ (¬ r_5 = 2147483647 → (∀ x_7 : Int32, x_7 = r_5 >>> (fu_coder &&& 31) → (Q x_7 ()))))) (Int32.ofNat nu_value) x_2 x_3)))
abbrev rm_AB_newCapacity : Room := { frames := 2, cells := 0, slots := 0, locals := 44 }
set_option maxHeartbeats 4000000 in
set_option maxRecDepth 100000 in
theorem k_AB_newCapacity (l : Launch) (dC : Nat → ClassId) (dI : Nat → Nat → Nat) (cI cC cB : ClassId) (sz : Nat) (qu : Nat) (qu_value : Nat) (fu_coder : Int32) (fu_maybeLatin1 : Int32) (fu_count : Int32) (nu_value : Nat) (au_value : Nat → Int32) (p1 : Int32) {Q : Int32 → Unit → Prop} (h : wp_AB_newCapacity Q p1 fu_coder nu_value) :
    CTi l y_AB_newCapacity (wM y_AB_newCapacity c_AB_newCapacity 6 (some .int)) rm_AB_newCapacity 0 0 (dC, dI) (tysL cI cC cB) [.ref qu, .int p1] (W_AB_newCapacity cI cC cB qu qu_value fu_coder fu_maybeLatin1 fu_count nu_value au_value) sz Q (fun (v : Unit) (b : Unit) => (W_AB_newCapacity cI cC cB qu qu_value fu_coder fu_maybeLatin1 fu_count nu_value au_value)) := by
  refine CTi.std (by decide) (Nat.le_of_ble_eq_true rfl) ?_
  intro p e s m args below meth c A ls QF C0 hP hD hl hS hsz hnm hret
  obtain ⟨hx, hb, hr, hml, hown, hts, hlocks, hN, hA, hK⟩ := id C0
  have hown : s.vm.findClass R_AB = some m.cls := hown
  have hl : lv_has ls 6 [(0, .ref qu), (1, .int p1)] := hl
  clear hsz hnm
  unfold wp_AB_newCapacity at h
  refine lv_aload_n hx hb d_AB_newCapacity_0 rfl (lv_at hl 0 rfl) ?_
  refine va_get (D := (dC, dI)) (ci := 7) (v := .ref qu_value) (C := R_SB) (T := T_SB) (N := 4) hx hb hts in_SB hown hK hP 0 rfl rfl 0 (by decide) (hts _ w_284) (fun _ h9 => h9) rfl d_AB_newCapacity_1 ?_
  refine va_alen hx hb hK hP 1 2 rfl rfl rfl d_AB_newCapacity_4 ?_
  refine lv_istore_n (lv' := [(2, .int (Int32.ofNat nu_value)), (0, .ref qu), (1, .int p1)]) hx hb d_AB_newCapacity_5 rfl hl (by decide) rfl (fun ls hl => ?_)
  refine lv_iload_n hx hb d_AB_newCapacity_6 rfl (lv_at hl 2 rfl) ?_
  refine lv_aload_n hx hb d_AB_newCapacity_7 rfl (lv_at hl 1 rfl) ?_
  refine va_get (D := (dC, dI)) (ci := 7) (v := .int fu_coder) (C := R_SB) (T := T_SB) (N := 4) hx hb hts in_SB hown hK hP 0 rfl rfl 1 (by decide) (hts _ w_285) (fun _ h9 => h9) rfl d_AB_newCapacity_8 ?_
  refine lv_ishl hx hb d_AB_newCapacity_11 ?_
  refine lv_topi (fun x_1 ex_1 => ?_)
  have h := h x_1 ex_1
  refine lv_istore_n (lv' := [(3, .int x_1), (2, .int (Int32.ofNat nu_value)), (0, .ref qu), (1, .int p1)]) hx hb d_AB_newCapacity_12 rfl hl (by decide) rfl (fun ls hl => ?_)
  refine lv_iload_n hx hb d_AB_newCapacity_13 rfl (lv_at hl 0 rfl) ?_
  refine lv_iload_n hx hb d_AB_newCapacity_14 rfl (lv_at hl 1 rfl) ?_
  refine lv_isub hx hb d_AB_newCapacity_15 ?_
  refine lv_topi (fun x_2 ex_2 => ?_)
  have h := h x_2 ex_2
  refine lv_istore (lv' := [(4, .int x_2), (3, .int x_1), (2, .int (Int32.ofNat nu_value)), (0, .ref qu), (1, .int p1)]) hx hb d_AB_newCapacity_16 hl (by decide) rfl (fun ls hl => ?_)
  refine lv_iload_n hx hb d_AB_newCapacity_18 rfl (lv_at hl 2 rfl) ?_
  refine lv_iload hx hb d_AB_newCapacity_19 (lv_at hl 0 rfl) ?_
  refine lv_iload_n hx hb d_AB_newCapacity_21 rfl (lv_at hl 2 rfl) ?_
  refine lv_iconst (v := 2) hx hb d_AB_newCapacity_22 (by decide) ?_
  refine lv_aload_n hx hb d_AB_newCapacity_23 rfl (lv_at hl 3 rfl) ?_
  refine va_get (D := (dC, dI)) (ci := 7) (v := .int fu_coder) (C := R_SB) (T := T_SB) (N := 4) hx hb hts in_SB hown hK hP 0 rfl rfl 1 (by decide) (hts _ w_285) (fun _ h9 => h9) rfl d_AB_newCapacity_24 ?_
  refine lv_ishl hx hb d_AB_newCapacity_27 ?_
  refine lv_iadd hx hb d_AB_newCapacity_28 ?_
  refine lv_topi (fun x_3 ex_3 => ?_)
  have h := h x_3 ex_3
  refine call_S_i (As := [.int (Int32.ofNat nu_value), .int x_2, .int x_3]) (rest := []) C0 hP hD hS [] [0, 1] [0, 1] [(qu, .inr (7, [.ref qu_value, .int fu_coder, .int fu_maybeLatin1, .int fu_count])), (qu_value, .inl (cB, nu_value, .inl au_value))] (fun (v : Unit) (b : Unit) => (W_AB_newCapacity cI cC cB qu qu_value fu_coder fu_maybeLatin1 fu_count nu_value au_value)) (k_AS_newLength l dC dI cI cC cB _ (Int32.ofNat nu_value) x_2 x_3 h) (g_S w_292 w_293 w_294 w_291) 3 rfl (by decide +kernel) rfl rfl ⟨Nat.le_of_ble_eq_true rfl, Nat.le_of_ble_eq_true rfl⟩ rfl rfl (by decide) (by decide) (by decide) (by decide) (fun _ _ => rfl) hl.1 rfl (Nat.le_of_ble_eq_true rfl) d_AB_newCapacity_29 ⟨Nat.le_of_ble_eq_true rfl, Nat.le_of_ble_eq_true rfl⟩ (fun r_5 v_4 _ H locs h hP hD hS => ?_)
  have hP : va_P (dC, dI) cls (W_AB_newCapacity cI cC cB qu qu_value fu_coder fu_maybeLatin1 fu_count nu_value au_value) H := hP
  have hD : va_D A (W_AB_newCapacity cI cC cB qu qu_value fu_coder fu_maybeLatin1 fu_count nu_value au_value) := hD
  refine lv_istore (lv' := [(5, .int r_5), (4, .int x_2), (3, .int x_1), (2, .int (Int32.ofNat nu_value)), (0, .ref qu), (1, .int p1)]) hx hb d_AB_newCapacity_32 hl (by decide) rfl (fun ls hl => ?_)
  refine lv_iload hx hb d_AB_newCapacity_34 (lv_at hl 0 rfl) ?_
  refine lv_ldc hx hb hown (hts _ w_290) d_AB_newCapacity_36 ?_
  refine lv_icmp_ne (tgt := 51) hx hb d_AB_newCapacity_38 (by decide) (fun c_6 => ?_) (fun c_6 => ?_)
  · have h := h.2 c_6
    refine lv_iload hx hb d_AB_newCapacity_51 (lv_at hl 0 rfl) ?_
    refine lv_aload_n hx hb d_AB_newCapacity_53 rfl (lv_at hl 4 rfl) ?_
    refine va_get (D := (dC, dI)) (ci := 7) (v := .int fu_coder) (C := R_SB) (T := T_SB) (N := 4) hx hb hts in_SB hown hK hP 0 rfl rfl 1 (by decide) (hts _ w_285) (fun _ h9 => h9) rfl d_AB_newCapacity_54 ?_
    refine lv_ishr hx hb d_AB_newCapacity_57 ?_
    refine lv_topi (fun x_7 ex_7 => ?_)
    have h := h x_7 ex_7
    exact hret () () x_7 _ _ _ _ rfl h hP hD hS d_AB_newCapacity_58
  · have h := h.1 c_6
    exact h.elim
def wp_Ar_copyOf (Q : Nat × (Nat → Int32) → Prop) (mc ms : Nat) (p1 : Int32) (nu : Nat) (au : Nat → Int32) : Prop := ((p1 = (Int32.ofNat nu) → False) ∧ (¬ p1 = (Int32.ofNat nu) → (¬ p1 < 0 ∧ (∀ N : Nat, N = p1.toNatClampNeg → (N ≤ 65536 ∧ 0 + 1 ≤ mc ∧ 0 + N ≤ ms ∧ (∀ k : Int32, k = (if p1 < (Int32.ofNat nu) then p1 else (Int32.ofNat nu)) → (¬ k < 0 ∧ k.toNatClampNeg ≤ nu ∧ k.toNatClampNeg ≤ N ∧ (∀ i : Nat, i < k.toNatClampNeg → fits .byte (.int (au i)) = true) ∧ Q (N, va_cpy au (fun _ => 0) 0 0 k.toNatClampNeg))))))))
abbrev rm_Ar_copyOf (mc ms : Nat) : Room := { frames := 1, cells := mc, slots := ms, locals := 51 }
set_option maxHeartbeats 4000000 in
set_option maxRecDepth 100000 in
theorem k_Ar_copyOf (l : Launch) (dC : Nat → ClassId) (dI : Nat → Nat → Nat) (cI cC cB : ClassId) (sz : Nat) (qu : Nat) (nu : Nat) (au : Nat → Int32) (p1 : Int32) (mc ms : Nat) {Q : Nat × (Nat → Int32) → Prop} (h : wp_Ar_copyOf Q mc ms p1 nu au) :
    CTr l y_Ar_copyOf (wM y_Ar_copyOf c_Ar_copyOf 3 (some (.array .byte))) (rm_Ar_copyOf mc ms) mc ms (dC, dI) (tysL cI cC cB) [.ref qu, .int p1] [(qu, .inl (cB, nu, .inl au))] sz Q (fun (v : Nat × (Nat → Int32)) (b : Nat) => [(qu, .inl (cB, nu, .inl au)), (b, .inl (cB, v.1, .inl v.2))]) (fun _ b => b) := by
  refine CTr.std (Or.inr ⟨_, rfl⟩) (by decide) (Nat.le_of_ble_eq_true rfl) ?_
  intro p e s m args below meth c A ls QF C0 hP hD hl hS hsz hnm hret
  obtain ⟨hx, hb, hr, hml, hown, hts, hlocks, hN, hA, hK⟩ := id C0
  have hown : s.vm.findClass R_Ar = some m.cls := hown
  have hl : lv_has ls 3 [(0, .ref qu), (1, .int p1)] := hl
  unfold wp_Ar_copyOf at h
  refine lv_iload_n hx hb d_Ar_copyOf_0 rfl (lv_at hl 1 rfl) ?_
  refine lv_aload_n hx hb d_Ar_copyOf_1 rfl (lv_at hl 0 rfl) ?_
  refine va_alen hx hb hK hP 0 2 rfl rfl rfl d_Ar_copyOf_2 ?_
  refine lv_icmp_ne (tgt := 14) hx hb d_Ar_copyOf_3 (by decide) (fun c_1 => ?_) (fun c_1 => (h.1 c_1).elim)
  obtain ⟨hneg, h⟩ := h.2 c_1
  obtain ⟨N, eN⟩ : ∃ z : Nat, z = p1.toNatClampNeg := ⟨_, rfl⟩
  obtain ⟨hbig, hmc, hms, h⟩ := h N eN
  refine lv_iload_n hx hb d_Ar_copyOf_14 rfl (lv_at hl 1 rfl) ?_
  refine g_newa (atype := .byte) C0 hP hD hS w_295 2 rfl (fun _ => rfl) hneg eN.symm (by show N * 1 ≤ _; omega) hmc hms d_Ar_copyOf_15 (fun q2 H hP hD hS => ?_)
  have hP : va_P (dC, dI) cls [(qu, .inl (cB, nu, .inl au)), (q2, .inl (cB, N, .inl (fun _ => 0)))] H := hP
  have hD : va_D A [(qu, .inl (cB, nu, .inl au)), (q2, .inl (cB, N, .inl (fun _ => 0)))] := hD
  refine lv_astore_n (lv' := [(2, .ref q2), (0, .ref qu), (1, .int p1)]) hx hb d_Ar_copyOf_17 rfl hl (by decide) rfl (fun ls hl => ?_)
  refine lv_aload_n hx hb d_Ar_copyOf_18 rfl (lv_at hl 1 rfl) ?_
  refine lv_iconst (v := 0) hx hb d_Ar_copyOf_19 (by decide) ?_
  refine lv_aload_n hx hb d_Ar_copyOf_20 rfl (lv_at hl 0 rfl) ?_
  refine lv_iconst (v := 0) hx hb d_Ar_copyOf_21 (by decide) ?_
  refine lv_aload_n hx hb d_Ar_copyOf_22 rfl (lv_at hl 1 rfl) ?_
  refine va_alen hx hb hK hP 0 2 rfl rfl rfl d_Ar_copyOf_23 ?_
  refine lv_iload_n hx hb d_Ar_copyOf_24 rfl (lv_at hl 2 rfl) ?_
  refine va_mmin hx hb (hml.trans hl.1.symm) hown (hts _ w_296) (hts _ w_184) (hts _ w_185) (hts _ w_186) (Nat.le_of_ble_eq_true rfl) (Nat.le_of_ble_eq_true rfl) hmc hms d_Ar_copyOf_25 ?_
  refine lv_topi (fun k ek => ?_)
  obtain ⟨h1, h2, h3, h4, h⟩ := h k ek
  have e0 : (0 : Int32).toNatClampNeg = 0 := by decide
  refine va_copyi (ty := .byte) hx hb (hml.trans hl.1.symm) hown (hts _ w_297) (hts _ w_298) (hts _ w_299) (hts _ w_300) hK hP hD hS 0 1 2 2 rfl rfl rfl rfl rfl (by decide) (by decide) h1 (by rw [e0]; omega) (by rw [e0]; omega) (fun i hi => by rw [e0, Nat.zero_add]; exact h4 i hi) (Nat.le_of_ble_eq_true rfl) (by show (List.map (fun v : Value => v.category) ([] : List Value)).sum + (nativeFrameWords "java/lang/System" "arraycopy" 5 + 11) ≤ 51; decide +kernel) d_Ar_copyOf_28 (fun H locs hP hD hS => ?_)
  rw [e0] at hP hD
  have hP : va_P (dC, dI) cls [(qu, .inl (cB, nu, .inl au)), (q2, .inl (cB, N, .inl (va_cpy au (fun _ => 0) 0 0 k.toNatClampNeg)))] H := hP
  have hD : va_D A [(qu, .inl (cB, nu, .inl au)), (q2, .inl (cB, N, .inl (va_cpy au (fun _ => 0) 0 0 k.toNatClampNeg)))] := hD
  refine lv_aload_n hx hb d_Ar_copyOf_31 rfl (lv_at hl 0 rfl) ?_
  refine W.widen (k := mc) (n := ms) hmc hms ?_
  exact hret (N, va_cpy au (fun _ => 0) 0 0 k.toNatClampNeg) q2 _ _ _ _ h hP hD hS d_Ar_copyOf_32
def wp_AB_ensureCapacityInternal (Q : Nat × (Nat → Int32) → Prop) (mc ms : Nat) (p1 : Int32) (fu_coder : Int32) (nu_value : Nat) (au_value : Nat → Int32) : Prop := ∀ x2 : Int32, x2 = (Int32.ofNat nu_value) >>> (fu_coder &&& 31) → (∀ x3 : Int32, x3 = p1 - x2 → ((x3 ≤ 0 → Q (nu_value, au_value)) ∧ (¬ x3 ≤ 0 → wp_AB_newCapacity (fun r _ => ∀ x4 : Int32, x4 = r <<< (fu_coder &&& 31) → wp_Ar_copyOf Q mc ms x4 nu_value au_value) p1 fu_coder nu_value)))
abbrev rm_AB_ensureCapacityInternal (mc ms : Nat) : Room := { frames := 3, cells := mc, slots := ms, locals := 73 }
set_option maxHeartbeats 4000000 in
set_option maxRecDepth 100000 in
theorem k_AB_ensureCapacityInternal (l : Launch) (dC : Nat → ClassId) (dI : Nat → Nat → Nat) (cI cC cB : ClassId) (sz : Nat) (qu qu_value : Nat) (fu_coder : Int32) (fu_maybeLatin1 : Int32) (fu_count : Int32) (nu_value : Nat) (au_value : Nat → Int32) (p1 : Int32) (mc ms : Nat) {Q : Nat × (Nat → Int32) → Prop} (h : wp_AB_ensureCapacityInternal Q mc ms p1 fu_coder nu_value au_value) :
    CTv l y_AB_ensureCapacityInternal (wM y_AB_ensureCapacityInternal c_AB_ensureCapacityInternal 3 none) (rm_AB_ensureCapacityInternal mc ms) mc ms (dC, dI) (tysL cI cC cB) [.ref qu, .int p1] [(qu, .inr (7, [.ref qu_value, .int fu_coder, .int fu_maybeLatin1, .int fu_count])), (qu_value, .inl (cB, nu_value, .inl au_value))] sz Q (fun (v : Nat × (Nat → Int32)) (b : Nat) => [(qu, .inr (7, [.ref b, .int fu_coder, .int fu_maybeLatin1, .int fu_count])), (b, .inl (cB, v.1, .inl v.2))]) := by
  refine CTv.std (by decide) (Nat.le_of_ble_eq_true rfl) ?_
  intro p e s m args below meth c A ls QF C0 hP hD hl hS hsz hnm hret
  obtain ⟨hx, hb, hr, hml, hown, hts, hlocks, hN, hA, hK⟩ := id C0
  have hown : s.vm.findClass R_AB = some m.cls := hown
  have hl : lv_has ls 3 [(0, .ref qu), (1, .int p1)] := hl
  unfold wp_AB_ensureCapacityInternal at h
  refine lv_aload_n hx hb d_AB_ensureCapacityInternal_0 rfl (lv_at hl 0 rfl) ?_
  refine va_get (D := (dC, dI)) (ci := 7) (v := .ref qu_value) (C := R_SB) (T := T_SB) (N := 4) hx hb hts in_SB hown hK hP 0 rfl rfl 0 (by decide) (hts _ w_284) (fun _ h9 => h9) rfl d_AB_ensureCapacityInternal_1 ?_
  refine va_alen hx hb hK hP 1 2 rfl rfl rfl d_AB_ensureCapacityInternal_4 ?_
  refine lv_aload_n hx hb d_AB_ensureCapacityInternal_5 rfl (lv_at hl 0 rfl) ?_
  refine va_get (D := (dC, dI)) (ci := 7) (v := .int fu_coder) (C := R_SB) (T := T_SB) (N := 4) hx hb hts in_SB hown hK hP 0 rfl rfl 1 (by decide) (hts _ w_285) (fun _ h9 => h9) rfl d_AB_ensureCapacityInternal_6 ?_
  refine lv_ishr hx hb d_AB_ensureCapacityInternal_9 ?_
  refine lv_topi (fun x2 ex2 => ?_)
  have h := h x2 ex2
  refine lv_istore_n (lv' := [(2, .int x2), (0, .ref qu), (1, .int p1)]) hx hb d_AB_ensureCapacityInternal_10 rfl hl (by decide) rfl (fun ls hl => ?_)
  refine lv_iload_n hx hb d_AB_ensureCapacityInternal_11 rfl (lv_at hl 2 rfl) ?_
  refine lv_iload_n hx hb d_AB_ensureCapacityInternal_12 rfl (lv_at hl 0 rfl) ?_
  refine lv_isub hx hb d_AB_ensureCapacityInternal_13 ?_
  refine lv_topi (fun x3 ex3 => ?_)
  have h := h x3 ex3
  refine lv_if_le (tgt := 38) hx hb d_AB_ensureCapacityInternal_14 (by decide) (fun c_1 => ?_) (fun c_1 => ?_)
  · have h := h.1 c_1
    refine W.widen (k := mc) (n := ms) (Nat.zero_le _) (Nat.zero_le _) ?_
    exact hret (nu_value, au_value) qu_value _ _ _ _ h hP hD hS d_AB_ensureCapacityInternal_38
  · have h := h.2 c_1
    refine lv_aload_n hx hb d_AB_ensureCapacityInternal_17 rfl (lv_at hl 1 rfl) ?_
    refine lv_aload_n hx hb d_AB_ensureCapacityInternal_18 rfl (lv_at hl 1 rfl) ?_
    refine va_get (D := (dC, dI)) (ci := 7) (v := .ref qu_value) (C := R_SB) (T := T_SB) (N := 4) hx hb hts in_SB hown hK hP 0 rfl rfl 0 (by decide) (hts _ w_284) (fun _ h9 => h9) rfl d_AB_ensureCapacityInternal_19 ?_
    refine lv_aload_n hx hb d_AB_ensureCapacityInternal_22 rfl (lv_at hl 1 rfl) ?_
    refine lv_iload_n hx hb d_AB_ensureCapacityInternal_23 rfl (lv_at hl 2 rfl) ?_
    refine call_U_i (As := [.int p1]) (rest := [.ref qu_value, .ref qu]) C0 hP hD hS [0, 1] [] [0, 1] [] (fun (v : Unit) (b : Unit) => [(qu, .inr (7, [.ref qu_value, .int fu_coder, .int fu_maybeLatin1, .int fu_count])), (qu_value, .inl (cB, nu_value, .inl au_value))]) (ci := 7) rfl rfl (k_AB_newCapacity l dC dI cI cC cB _ qu qu_value fu_coder fu_maybeLatin1 fu_count nu_value au_value p1 h) w_301 w_302 (hts _ w_303) w_304 w_305 w_306 1 rfl (by decide +kernel) rfl rfl ⟨Nat.le_of_ble_eq_true rfl, Nat.le_of_ble_eq_true rfl⟩ rfl rfl (by decide) (by decide) (by decide) (by decide) (fun _ _ => rfl) hl.1 rfl (Nat.le_of_ble_eq_true rfl) d_AB_ensureCapacityInternal_24 ⟨Nat.zero_le _, Nat.zero_le _⟩ (fun r_1 v_1 _ H locs h hP hD hS => ?_)
    refine lv_aload_n hx hb d_AB_ensureCapacityInternal_27 rfl (lv_at hl 1 rfl) ?_
    refine va_get (D := (dC, dI)) (ci := 7) (v := .int fu_coder) (C := R_SB) (T := T_SB) (N := 4) hx hb hts in_SB hown hK hP 0 rfl rfl 1 (by decide) (hts _ w_285) (fun _ h9 => h9) rfl d_AB_ensureCapacityInternal_28 ?_
    refine lv_ishl hx hb d_AB_ensureCapacityInternal_31 ?_
    refine lv_topi (fun x4 ex4 => ?_)
    have h := h x4 ex4
    refine call_S_r (As := [.ref qu_value, .int x4]) (rest := [.ref qu]) C0 hP hD hS [1] [0] [0, 1, 2] [(qu, .inr (7, [.ref qu_value, .int fu_coder, .int fu_maybeLatin1, .int fu_count]))] (fun (v : Nat × (Nat → Int32)) (b : Nat) => [(qu, .inr (7, [.ref qu_value, .int fu_coder, .int fu_maybeLatin1, .int fu_count])), (qu_value, .inl (cB, nu_value, .inl au_value)), (b, .inl (cB, v.1, .inl v.2))]) (k_Ar_copyOf l dC dI cI cC cB _ qu_value nu_value au_value x4 mc ms h) (g_S w_307 w_308 w_19 w_309) 2 rfl (by decide +kernel) rfl rfl ⟨Nat.le_of_ble_eq_true rfl, Nat.le_of_ble_eq_true rfl⟩ rfl rfl (by decide) (by decide) (by decide) (by decide) (fun _ _ => rfl) hl.1 rfl (Nat.le_of_ble_eq_true rfl) d_AB_ensureCapacityInternal_32 ⟨by show 0 + 0 + mc ≤ mc; omega, by show 0 + 0 + ms ≤ ms; omega⟩ (fun v_2 b_2 H locs h hP hD hS => ?_)
    have hP : va_P (dC, dI) cls [(qu, .inr (7, [.ref qu_value, .int fu_coder, .int fu_maybeLatin1, .int fu_count])), (qu_value, .inl (cB, nu_value, .inl au_value)), (b_2, .inl (cB, v_2.1, .inl v_2.2))] H := hP
    refine va_put (D := (dC, dI)) (ci := 7) (v := .ref b_2) (ty := (.array .byte)) (C := R_SB) (T := T_SB) (N := 4) hx hb hts in_SB t_SB t_SB_ok n_SB hown hK hP hD hS 0 rfl rfl 0 (by decide) (hts _ w_284) (fun _ h9 => h9) rfl (by decide +kernel) rfl rfl (Nat.le_of_ble_eq_true rfl) d_AB_ensureCapacityInternal_35 (fun H locs hP hD hS => ?_)
    refine W.widen (k := mc) (n := ms) (by show 0 + 0 + mc ≤ mc; omega) (by show 0 + 0 + ms ≤ ms; omega) ?_
    exact hret v_2 b_2 _ _ _ _ h (hP.sub [0, 2] rfl) (hD.sub [0, 2] (by decide) rfl) hS d_AB_ensureCapacityInternal_38
abbrev W_AB_setLength (cI cC cB : ClassId) (qu : Nat) (qu_value : Nat) (fu_coder : Int32) (fu_maybeLatin1 : Int32) (fu_count : Int32) (nu_value : Nat) (au_value : Nat → Int32) : va_W := [(qu, .inr (7, [.ref qu_value, .int fu_coder, .int fu_maybeLatin1, .int fu_count])), (qu_value, .inl (cB, nu_value, .inl au_value))]
def w_AB_setLength_76 (Q : (Int32 × Int32 × Nat × (Nat → Int32)) → Prop) (mc ms : Nat)  (p1 : Int32) (fu_coder : Int32) (fu_maybeLatin1 : Int32) (fu_count : Int32) (nu_value : Nat) (au_value : Nat → Int32) (kc : Nat) (ks : Nat) : Prop := Q (fu_maybeLatin1, p1, nu_value, au_value)
def wp_AB_setLength (Q : (Int32 × Int32 × Nat × (Nat → Int32)) → Prop) (mc ms : Nat) (p1 : Int32) (fu_coder : Int32) (fu_maybeLatin1 : Int32) (fu_count : Int32) (nu_value : Nat) (au_value : Nat → Int32) : Prop := ((0 ≤ p1 → (∃ mc_5 ms_6 : Nat, 0 + mc_5 ≤ mc ∧ 0 + ms_6 ≤ ms ∧ (wp_AB_ensureCapacityInternal (fun v_2 => ((p1 ≤ fu_count → (((fu_count ≤ p1 → (w_AB_setLength_76 Q mc ms p1 fu_coder fu_maybeLatin1 fu_count v_2.1 v_2.2 (0 + mc_5) (0 + ms_6))) ∧ (¬ fu_count ≤ p1 → (w_AB_setLength_76 Q mc ms p1 fu_coder 1 fu_count v_2.1 v_2.2 (0 + mc_5) (0 + ms_6)))))) ∧ (¬ p1 ≤ fu_count → (False)))) mc_5 ms_6 p1 fu_coder nu_value au_value))) ∧ (¬ 0 ≤ p1 → (False)))
abbrev rm_AB_setLength (mc ms : Nat) : Room := { frames := 4, cells := mc, slots := ms, locals := 95 }
set_option maxHeartbeats 4000000 in
set_option maxRecDepth 100000 in
theorem k_AB_setLength (l : Launch) (dC : Nat → ClassId) (dI : Nat → Nat → Nat) (cI cC cB : ClassId) (sz : Nat) (qu : Nat) (qu_value : Nat) (fu_coder : Int32) (fu_maybeLatin1 : Int32) (fu_count : Int32) (nu_value : Nat) (au_value : Nat → Int32) (p1 : Int32) (mc ms : Nat) {Q : (Int32 × Int32 × Nat × (Nat → Int32)) → Prop} (h : wp_AB_setLength Q mc ms p1 fu_coder fu_maybeLatin1 fu_count nu_value au_value) :
    CTv l y_AB_setLength (wM y_AB_setLength c_AB_setLength 2 none) (rm_AB_setLength mc ms) mc ms (dC, dI) (tysL cI cC cB) [.ref qu, .int p1] (W_AB_setLength cI cC cB qu qu_value fu_coder fu_maybeLatin1 fu_count nu_value au_value) sz Q (fun (v : Int32 × Int32 × Nat × (Nat → Int32)) (b : Nat) => (W_AB_setLength cI cC cB qu b fu_coder v.1 v.2.1 v.2.2.1 v.2.2.2)) := by
  refine CTv.std (by decide) (Nat.le_of_ble_eq_true rfl) ?_
  intro p e s m args below meth c A ls QF C0 hP hD hl hS hsz hnm hret
  obtain ⟨hx, hb, hr, hml, hown, hts, hlocks, hN, hA, hK⟩ := id C0
  have hown : s.vm.findClass R_AB = some m.cls := hown
  have hl : lv_has ls 2 [(0, .ref qu), (1, .int p1)] := hl
  clear hsz hnm
  have blk_76 : ∀  (fu_maybeLatin1 : Int32) (fu_count : Int32) (nu_value : Nat) (au_value : Nat → Int32) (kc : Nat) (ks : Nat) (qu_value : Nat) (H : Heap) (locs : List Loc) (ls : Array Slot), w_AB_setLength_76 Q mc ms  p1 fu_coder fu_maybeLatin1 fu_count nu_value au_value kc ks → kc ≤ mc → ks ≤ ms → va_P (dC, dI) cls (W_AB_setLength cI cC cB qu qu_value fu_coder fu_maybeLatin1 fu_count nu_value au_value) H → va_D A (W_AB_setLength cI cC cB qu qu_value fu_coder fu_maybeLatin1 fu_count nu_value au_value) → va_S A s.heap H locs → lv_has ls 2 [(0, .ref qu), (1, .int p1)] → W p l e (rm_AB_setLength mc ms) s m args below meth c H locs kc ks QF (F0 m 76 ls []) := by
    intro  fu_maybeLatin1 fu_count nu_value au_value kc ks qu_value H locs ls h hkc hks hP hD hS hl
    unfold w_AB_setLength_76 at h
    refine lv_aload_n hx hb d_AB_setLength_76 rfl (lv_at hl 0 rfl) ?_
    refine lv_iload_n hx hb d_AB_setLength_77 rfl (lv_at hl 1 rfl) ?_
    refine va_put (D := (dC, dI)) (ci := 7) (v := .int p1) (ty := .int) (C := R_SB) (T := T_SB) (N := 4) hx hb hts in_SB t_SB t_SB_ok n_SB hown hK hP hD hS 0 rfl rfl 3 (by decide) (hts _ w_311) (fun _ h9 => h9) rfl (by decide +kernel) rfl rfl (Nat.le_of_ble_eq_true rfl) d_AB_setLength_78 (fun H locs hP hD hS => ?_)
    have hP : va_P (dC, dI) cls (W_AB_setLength cI cC cB qu qu_value fu_coder fu_maybeLatin1 p1 nu_value au_value) H := hP
    have hD : va_D A (W_AB_setLength cI cC cB qu qu_value fu_coder fu_maybeLatin1 p1 nu_value au_value) := hD
    refine W.widen (k := mc) (n := ms) hkc hks ?_
    exact hret (fu_maybeLatin1, p1, nu_value, au_value) qu_value _ _ _ _ h hP hD hS d_AB_setLength_81
  unfold wp_AB_setLength at h
  refine lv_iload_n hx hb d_AB_setLength_0 rfl (lv_at hl 1 rfl) ?_
  refine lv_if_ge (tgt := 13) hx hb d_AB_setLength_1 (by decide) (fun c_1 => ?_) (fun c_1 => ?_)
  · have h := h.1 c_1
    refine lv_aload_n hx hb d_AB_setLength_13 rfl (lv_at hl 0 rfl) ?_
    refine lv_iload_n hx hb d_AB_setLength_14 rfl (lv_at hl 1 rfl) ?_
    obtain ⟨mc_5, ms_6, hmc_5, hms_6, h⟩ := h
    refine call_U_v (As := [.int p1]) (rest := []) C0 hP hD hS [0, 1] [] [0, 1] [] (fun (v : Nat × (Nat → Int32)) (b : Nat) => (W_AB_setLength cI cC cB qu b fu_coder fu_maybeLatin1 fu_count v.1 v.2)) (ci := 7) rfl rfl (k_AB_ensureCapacityInternal l dC dI cI cC cB _ qu qu_value fu_coder fu_maybeLatin1 fu_count nu_value au_value p1 mc_5 ms_6 h) w_315 w_316 (hts _ w_314) w_317 w_305 w_313 1 rfl (by decide +kernel) rfl rfl ⟨Nat.le_of_ble_eq_true rfl, Nat.le_of_ble_eq_true rfl⟩ rfl rfl (by decide) (by decide) (by decide) (by decide) (fun _ _ => rfl) hl.1 rfl (Nat.le_of_ble_eq_true rfl) d_AB_setLength_15 ⟨hmc_5, hms_6⟩ (fun v_2 b_4 H locs h hP hD hS => ?_)
    have hP : va_P (dC, dI) cls (W_AB_setLength cI cC cB qu b_4 fu_coder fu_maybeLatin1 fu_count v_2.1 v_2.2) H := hP
    have hD : va_D A (W_AB_setLength cI cC cB qu b_4 fu_coder fu_maybeLatin1 fu_count v_2.1 v_2.2) := hD
    refine lv_aload_n hx hb d_AB_setLength_18 rfl (lv_at hl 0 rfl) ?_
    refine va_get (D := (dC, dI)) (ci := 7) (v := .int fu_count) (C := R_SB) (T := T_SB) (N := 4) hx hb hts in_SB hown hK hP 0 rfl rfl 3 (by decide) (hts _ w_311) (fun _ h9 => h9) rfl d_AB_setLength_19 ?_
    refine lv_iload_n hx hb d_AB_setLength_22 rfl (lv_at hl 1 rfl) ?_
    refine lv_icmp_ge (tgt := 63) hx hb d_AB_setLength_23 (by decide) (fun c_7 => ?_) (fun c_7 => ?_)
    · have h := h.1 c_7
      refine lv_aload_n hx hb d_AB_setLength_63 rfl (lv_at hl 0 rfl) ?_
      refine va_get (D := (dC, dI)) (ci := 7) (v := .int fu_count) (C := R_SB) (T := T_SB) (N := 4) hx hb hts in_SB hown hK hP 0 rfl rfl 3 (by decide) (hts _ w_311) (fun _ h9 => h9) rfl d_AB_setLength_64 ?_
      refine lv_iload_n hx hb d_AB_setLength_67 rfl (lv_at hl 1 rfl) ?_
      refine lv_icmp_le (tgt := 76) hx hb d_AB_setLength_68 (by decide) (fun c_8 => ?_) (fun c_8 => ?_)
      · have h := h.1 c_8
        exact blk_76  _ _ _ _ _ _ _ _ _ _ h hmc_5 hms_6 hP hD hS (lv_sub hl [0, 1] rfl)
      · have h := h.2 c_8
        refine lv_aload_n hx hb d_AB_setLength_71 rfl (lv_at hl 0 rfl) ?_
        refine lv_iconst (v := 1) hx hb d_AB_setLength_72 (by decide) ?_
        refine va_put (D := (dC, dI)) (ci := 7) (v := .int 1) (ty := .boolean) (C := R_SB) (T := T_SB) (N := 4) hx hb hts in_SB t_SB t_SB_ok n_SB hown hK hP hD hS 0 rfl rfl 2 (by decide) (hts _ w_312) (fun _ h9 => h9) rfl (by decide +kernel) rfl rfl (Nat.le_of_ble_eq_true rfl) d_AB_setLength_73 (fun H locs hP hD hS => ?_)
        have hP : va_P (dC, dI) cls (W_AB_setLength cI cC cB qu b_4 fu_coder 1 fu_count v_2.1 v_2.2) H := hP
        have hD : va_D A (W_AB_setLength cI cC cB qu b_4 fu_coder 1 fu_count v_2.1 v_2.2) := hD
        exact blk_76  _ _ _ _ _ _ _ _ _ _ h hmc_5 hms_6 hP hD hS (lv_sub hl [0, 1] rfl)
    · have h := h.2 c_7
      exact h.elim
  · have h := h.2 c_1
    exact h.elim
