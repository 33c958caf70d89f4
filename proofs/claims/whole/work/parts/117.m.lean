abbrev W_Mo_least (cI cC cB : ClassId) (qu : Nat) (qu_bases : Nat) (qu_length : Nat) (qu_links : Nat) (qu_from : Nat) (qu_to : Nat) (qu_sideOf : Nat) (qu_within : Nat) (qu_read : Nat) (qu_cost : Nat) (qu_text : Nat) (qu_segments : Nat) (qu_names : Nat) (qu_nameSize : Nat) (qu_paths : Nat) (qu_titles : Nat) (qu_titleSize : Nat) (qu_steps : Nat) (qu_step : Nat) (qu_walk : Nat) (qu_edits : Nat) (qu_said : Nat) (fu_size : Int32) (fu_places : Int32) (fu_reads : Int32) (fu_there : Int32) (fu_total : Int32) (fu_walked : Int32) (fu_edited : Int32) (fu_written : Int32) (fu_at : Int32) (fu_end : Int32) (fu_began : Int32) (fu_many : Int32) (au_bases : Nat → Int32) (au_length : Nat → Int32) (au_links : Nat → Int32) (au_from : Nat → Int32) (au_to : Nat → Int32) (au_sideOf : Nat → Int32) (au_within : Nat → Int32) (au_read : Nat → Int32) (au_cost : Nat → Int32) : va_W := [(qu, .inr (6, [.int fu_size, .ref qu_text, .ref qu_segments, .ref qu_names, .ref qu_nameSize, .ref qu_bases, .ref qu_length, .ref qu_links, .ref qu_from, .ref qu_to, .ref qu_paths, .ref qu_titles, .ref qu_titleSize, .ref qu_steps, .ref qu_step, .int fu_places, .ref qu_sideOf, .ref qu_within, .int fu_reads, .ref qu_read, .ref qu_cost, .int fu_there, .int fu_total, .int fu_walked, .ref qu_walk, .int fu_edited, .ref qu_edits, .int fu_written, .ref qu_said, .int fu_at, .int fu_end, .int fu_began, .int fu_many])), (qu_bases, .inl (cC, 64, .inl au_bases)), (qu_length, .inl (cI, 16, .inl au_length)), (qu_links, .inl (cI, 2, .inl au_links)), (qu_from, .inl (cI, 24, .inl au_from)), (qu_to, .inl (cI, 24, .inl au_to)), (qu_sideOf, .inl (cI, 64, .inl au_sideOf)), (qu_within, .inl (cI, 64, .inl au_within)), (qu_read, .inl (cC, 12, .inl au_read)), (qu_cost, .inl (cI, 832, .inl au_cost))]
def wp_Mo_least (Q : Int32 → (Nat → Int32) → Prop) (p1 : Int32) (p2 : Int32) (fu_places : Int32) (fu_reads : Int32) (au_bases : Nat → Int32) (au_length : Nat → Int32) (au_links : Nat → Int32) (au_from : Nat → Int32) (au_to : Nat → Int32) (au_sideOf : Nat → Int32) (au_within : Nat → Int32) (au_read : Nat → Int32) (au_cost : Nat → Int32) : Prop := ((p1 < 0 → (Q (-1) au_cost)) ∧ (¬ p1 < 0 → (((fu_reads < p1 → (Q (-1) au_cost)) ∧ (¬ fu_reads < p1 → (wp_Mo_place (fun r_4 v_3 => ((r_4 = 0 → (Q (-1) au_cost)) ∧ (¬ r_4 = 0 → (wp_Mo_costs (fun v_6 => ∀ x_8 : Int32, x_8 = (64 * p1) + p2 → (vp_in x_8 832 ∧ (∀ y_10 : Int32, y_10 = v_6 x_8.toNatClampNeg → (Q y_10 v_6)))) fu_places fu_reads au_bases au_length au_links au_from au_to au_sideOf au_within au_read au_cost)))) p2 fu_places))))))
abbrev rm_Mo_least : Room := { frames := 4, cells := 0, slots := 0, locals := 96 }
set_option maxHeartbeats 4000000 in
set_option maxRecDepth 100000 in
theorem k_Mo_least (l : Launch) (dC : Nat → ClassId) (dI : Nat → Nat → Nat) (cI cC cB : ClassId) (sz : Nat) (qu : Nat) (qu_bases : Nat) (qu_length : Nat) (qu_links : Nat) (qu_from : Nat) (qu_to : Nat) (qu_sideOf : Nat) (qu_within : Nat) (qu_read : Nat) (qu_cost : Nat) (qu_text : Nat) (qu_segments : Nat) (qu_names : Nat) (qu_nameSize : Nat) (qu_paths : Nat) (qu_titles : Nat) (qu_titleSize : Nat) (qu_steps : Nat) (qu_step : Nat) (qu_walk : Nat) (qu_edits : Nat) (qu_said : Nat) (fu_size : Int32) (fu_places : Int32) (fu_reads : Int32) (fu_there : Int32) (fu_total : Int32) (fu_walked : Int32) (fu_edited : Int32) (fu_written : Int32) (fu_at : Int32) (fu_end : Int32) (fu_began : Int32) (fu_many : Int32) (au_bases : Nat → Int32) (au_length : Nat → Int32) (au_links : Nat → Int32) (au_from : Nat → Int32) (au_to : Nat → Int32) (au_sideOf : Nat → Int32) (au_within : Nat → Int32) (au_read : Nat → Int32) (au_cost : Nat → Int32) (p1 : Int32) (p2 : Int32) {Q : Int32 → (Nat → Int32) → Prop} (h : wp_Mo_least Q p1 p2 fu_places fu_reads au_bases au_length au_links au_from au_to au_sideOf au_within au_read au_cost) :
    CTi l y_Mo_least (wM y_Mo_least c_Mo_least 3 (some .int)) rm_Mo_least 0 0 (dC, dI) (tysL cI cC cB) [.ref qu, .int p1, .int p2] (W_Mo_least cI cC cB qu qu_bases qu_length qu_links qu_from qu_to qu_sideOf qu_within qu_read qu_cost qu_text qu_segments qu_names qu_nameSize qu_paths qu_titles qu_titleSize qu_steps qu_step qu_walk qu_edits qu_said fu_size fu_places fu_reads fu_there fu_total fu_walked fu_edited fu_written fu_at fu_end fu_began fu_many au_bases au_length au_links au_from au_to au_sideOf au_within au_read au_cost) sz Q (fun (v : (Nat → Int32)) (b : Unit) => (W_Mo_least cI cC cB qu qu_bases qu_length qu_links qu_from qu_to qu_sideOf qu_within qu_read qu_cost qu_text qu_segments qu_names qu_nameSize qu_paths qu_titles qu_titleSize qu_steps qu_step qu_walk qu_edits qu_said fu_size fu_places fu_reads fu_there fu_total fu_walked fu_edited fu_written fu_at fu_end fu_began fu_many au_bases au_length au_links au_from au_to au_sideOf au_within au_read v)) := by
  refine CTi.std (by decide) (Nat.le_of_ble_eq_true rfl) ?_
  intro p e s m args below meth c A ls QF C0 hP hD hl hS hsz hnm hret
  obtain ⟨hx, hb, hr, hml, hown, hts, hlocks, hN, hA, hK⟩ := id C0
  have hown : s.vm.findClass R_Mo = some m.cls := hown
  have hl : lv_has ls 3 [(0, .ref qu), (1, .int p1), (2, .int p2)] := hl
  clear hsz hnm
  unfold wp_Mo_least at h
  refine lv_iload_n hx hb d_Mo_least_0 rfl (lv_at hl 1 rfl) ?_
  refine lv_if_lt (tgt := 20) hx hb d_Mo_least_1 (by decide) (fun c_1 => ?_) (fun c_1 => ?_)
  · have h := h.1 c_1
    refine lv_iconst (v := (-1)) hx hb d_Mo_least_20 (by decide) ?_
    exact hret au_cost () (-1) _ _ _ _ rfl h hP hD hS d_Mo_least_21
  · have h := h.2 c_1
    refine lv_iload_n hx hb d_Mo_least_4 rfl (lv_at hl 1 rfl) ?_
    refine lv_aload_n hx hb d_Mo_least_5 rfl (lv_at hl 0 rfl) ?_
    refine va_get (D := (dC, dI)) (ci := 6) (v := .int fu_reads) (C := R_Mo) (T := T_Mo) (N := 33) hx hb hts in_Mo hown hK hP 0 rfl rfl 18 (by decide) (hts _ w_503) (fun _ h9 => h9) rfl d_Mo_least_6 ?_
    refine lv_icmp_gt (tgt := 20) hx hb d_Mo_least_9 (by decide) (fun c_2 => ?_) (fun c_2 => ?_)
    · have h := h.1 c_2
      refine lv_iconst (v := (-1)) hx hb d_Mo_least_20 (by decide) ?_
      exact hret au_cost () (-1) _ _ _ _ rfl h hP hD hS d_Mo_least_21
    · have h := h.2 c_2
      refine lv_aload_n hx hb d_Mo_least_12 rfl (lv_at hl 0 rfl) ?_
      refine lv_iload_n hx hb d_Mo_least_13 rfl (lv_at hl 2 rfl) ?_
      refine call_V_i (As := [.int p2]) (rest := []) C0 hP hD hS [0] [1, 2, 3, 4, 5, 6, 7, 8, 9] [9, 0, 1, 2, 3, 4, 5, 6, 7, 8] [(qu_bases, .inl (cC, 64, .inl au_bases)), (qu_length, .inl (cI, 16, .inl au_length)), (qu_links, .inl (cI, 2, .inl au_links)), (qu_from, .inl (cI, 24, .inl au_from)), (qu_to, .inl (cI, 24, .inl au_to)), (qu_sideOf, .inl (cI, 64, .inl au_sideOf)), (qu_within, .inl (cI, 64, .inl au_within)), (qu_read, .inl (cC, 12, .inl au_read)), (qu_cost, .inl (cI, 832, .inl au_cost))] (fun (v : Unit) (b : Unit) => (W_Mo_least cI cC cB qu qu_bases qu_length qu_links qu_from qu_to qu_sideOf qu_within qu_read qu_cost qu_text qu_segments qu_names qu_nameSize qu_paths qu_titles qu_titleSize qu_steps qu_step qu_walk qu_edits qu_said fu_size fu_places fu_reads fu_there fu_total fu_walked fu_edited fu_written fu_at fu_end fu_began fu_many au_bases au_length au_links au_from au_to au_sideOf au_within au_read au_cost)) (ci := 6) rfl rfl (k_Mo_place l dC dI cI cC cB _ qu qu_text qu_segments qu_names qu_nameSize qu_bases qu_length qu_links qu_from qu_to qu_paths qu_titles qu_titleSize qu_steps qu_step qu_sideOf qu_within qu_read qu_cost qu_walk qu_edits qu_said fu_size fu_places fu_reads fu_there fu_total fu_walked fu_edited fu_written fu_at fu_end fu_began fu_many p2 h) (g_V w_492 w_493 w_494 w_418 w_491) 1 rfl (by decide +kernel) rfl rfl ⟨Nat.le_of_ble_eq_true rfl, Nat.le_of_ble_eq_true rfl⟩ rfl rfl (by decide) (by decide) (by decide) (by decide) (fun _ _ => rfl) hl.1 rfl (Nat.le_of_ble_eq_true rfl) d_Mo_least_14 ⟨Nat.le_of_ble_eq_true rfl, Nat.le_of_ble_eq_true rfl⟩ (fun r_4 v_3 _ H locs h hP hD hS => ?_)
      have hP : va_P (dC, dI) cls (W_Mo_least cI cC cB qu qu_bases qu_length qu_links qu_from qu_to qu_sideOf qu_within qu_read qu_cost qu_text qu_segments qu_names qu_nameSize qu_paths qu_titles qu_titleSize qu_steps qu_step qu_walk qu_edits qu_said fu_size fu_places fu_reads fu_there fu_total fu_walked fu_edited fu_written fu_at fu_end fu_began fu_many au_bases au_length au_links au_from au_to au_sideOf au_within au_read au_cost) H := hP
      have hD : va_D A (W_Mo_least cI cC cB qu qu_bases qu_length qu_links qu_from qu_to qu_sideOf qu_within qu_read qu_cost qu_text qu_segments qu_names qu_nameSize qu_paths qu_titles qu_titleSize qu_steps qu_step qu_walk qu_edits qu_said fu_size fu_places fu_reads fu_there fu_total fu_walked fu_edited fu_written fu_at fu_end fu_began fu_many au_bases au_length au_links au_from au_to au_sideOf au_within au_read au_cost) := hD
      refine lv_if_ne (tgt := 22) hx hb d_Mo_least_17 (by decide) (fun c_5 => ?_) (fun c_5 => ?_)
      · have h := h.2 c_5
        refine lv_aload_n hx hb d_Mo_least_22 rfl (lv_at hl 0 rfl) ?_
        refine call_V_v (As := []) (rest := []) C0 hP hD hS [0, 1, 2, 3, 4, 5, 6, 7, 8, 9] [] [0, 1, 2, 3, 4, 5, 6, 7, 8, 9] [] (fun (v : (Nat → Int32)) (b : Unit) => (W_Mo_least cI cC cB qu qu_bases qu_length qu_links qu_from qu_to qu_sideOf qu_within qu_read qu_cost qu_text qu_segments qu_names qu_nameSize qu_paths qu_titles qu_titleSize qu_steps qu_step qu_walk qu_edits qu_said fu_size fu_places fu_reads fu_there fu_total fu_walked fu_edited fu_written fu_at fu_end fu_began fu_many au_bases au_length au_links au_from au_to au_sideOf au_within au_read v)) (ci := 6) rfl rfl (k_Mo_costs l dC dI cI cC cB _ qu qu_bases qu_length qu_links qu_from qu_to qu_sideOf qu_within qu_read qu_cost qu_text qu_segments qu_names qu_nameSize qu_paths qu_titles qu_titleSize qu_steps qu_step qu_walk qu_edits qu_said fu_size fu_places fu_reads fu_there fu_total fu_walked fu_edited fu_written fu_at fu_end fu_began fu_many au_bases au_length au_links au_from au_to au_sideOf au_within au_read au_cost h) (g_V w_515 w_516 w_517 w_418 w_514) 0 rfl (by decide +kernel) rfl rfl ⟨Nat.le_of_ble_eq_true rfl, Nat.le_of_ble_eq_true rfl⟩ rfl rfl (by decide) (by decide) (by decide) (by decide) (fun _ _ => rfl) hl.1 rfl (Nat.le_of_ble_eq_true rfl) d_Mo_least_23 ⟨Nat.le_of_ble_eq_true rfl, Nat.le_of_ble_eq_true rfl⟩ (fun v_6 _ H locs h hP hD hS => ?_)
        have hP : va_P (dC, dI) cls (W_Mo_least cI cC cB qu qu_bases qu_length qu_links qu_from qu_to qu_sideOf qu_within qu_read qu_cost qu_text qu_segments qu_names qu_nameSize qu_paths qu_titles qu_titleSize qu_steps qu_step qu_walk qu_edits qu_said fu_size fu_places fu_reads fu_there fu_total fu_walked fu_edited fu_written fu_at fu_end fu_began fu_many au_bases au_length au_links au_from au_to au_sideOf au_within au_read v_6) H := hP
        have hD : va_D A (W_Mo_least cI cC cB qu qu_bases qu_length qu_links qu_from qu_to qu_sideOf qu_within qu_read qu_cost qu_text qu_segments qu_names qu_nameSize qu_paths qu_titles qu_titleSize qu_steps qu_step qu_walk qu_edits qu_said fu_size fu_places fu_reads fu_there fu_total fu_walked fu_edited fu_written fu_at fu_end fu_began fu_many au_bases au_length au_links au_from au_to au_sideOf au_within au_read v_6) := hD
        refine lv_aload_n hx hb d_Mo_least_26 rfl (lv_at hl 0 rfl) ?_
        refine va_get (D := (dC, dI)) (ci := 6) (v := .ref qu_cost) (C := R_Mo) (T := T_Mo) (N := 33) hx hb hts in_Mo hown hK hP 0 rfl rfl 20 (by decide) (hts _ w_505) (fun _ h9 => h9) rfl d_Mo_least_27 ?_
        refine lv_bipush (v := 64) hx hb d_Mo_least_30 (by decide) ?_
        refine lv_iload_n hx hb d_Mo_least_32 rfl (lv_at hl 1 rfl) ?_
        refine lv_imul hx hb d_Mo_least_33 ?_
        refine lv_iload_n hx hb d_Mo_least_34 rfl (lv_at hl 2 rfl) ?_
        refine lv_iadd hx hb d_Mo_least_35 ?_
        refine lv_topi (fun x_8 ex_8 => ?_)
        have h := h x_8 ex_8
        have hi_9 := h.1
        have h := h.2
        refine va_iald hx hb hK hP 9 0 rfl rfl hi_9 d_Mo_least_36 ?_
        refine lv_topi (fun y_10 ey_10 => ?_)
        have h := h y_10 ey_10
        exact hret v_6 () y_10 _ _ _ _ rfl h hP hD hS d_Mo_least_37
      · have h := h.1 c_5
        refine lv_iconst (v := (-1)) hx hb d_Mo_least_20 (by decide) ?_
        exact hret au_cost () (-1) _ _ _ _ rfl h hP hD hS d_Mo_least_21
abbrev W_Mo_before (cI cC cB : ClassId) (qu : Nat) (qu_length : Nat) (qu_links : Nat) (qu_from : Nat) (qu_to : Nat) (qu_sideOf : Nat) (qu_within : Nat) (qu_cost : Nat) (qu_text : Nat) (qu_segments : Nat) (qu_names : Nat) (qu_nameSize : Nat) (qu_bases : Nat) (qu_paths : Nat) (qu_titles : Nat) (qu_titleSize : Nat) (qu_steps : Nat) (qu_step : Nat) (qu_read : Nat) (qu_walk : Nat) (qu_edits : Nat) (qu_said : Nat) (fu_size : Int32) (fu_places : Int32) (fu_reads : Int32) (fu_there : Int32) (fu_total : Int32) (fu_walked : Int32) (fu_edited : Int32) (fu_written : Int32) (fu_at : Int32) (fu_end : Int32) (fu_began : Int32) (fu_many : Int32) (au_length : Nat → Int32) (au_links : Nat → Int32) (au_from : Nat → Int32) (au_to : Nat → Int32) (au_sideOf : Nat → Int32) (au_within : Nat → Int32) (au_cost : Nat → Int32) : va_W := [(qu, .inr (6, [.int fu_size, .ref qu_text, .ref qu_segments, .ref qu_names, .ref qu_nameSize, .ref qu_bases, .ref qu_length, .ref qu_links, .ref qu_from, .ref qu_to, .ref qu_paths, .ref qu_titles, .ref qu_titleSize, .ref qu_steps, .ref qu_step, .int fu_places, .ref qu_sideOf, .ref qu_within, .int fu_reads, .ref qu_read, .ref qu_cost, .int fu_there, .int fu_total, .int fu_walked, .ref qu_walk, .int fu_edited, .ref qu_edits, .int fu_written, .ref qu_said, .int fu_at, .int fu_end, .int fu_began, .int fu_many])), (qu_length, .inl (cI, 16, .inl au_length)), (qu_links, .inl (cI, 2, .inl au_links)), (qu_from, .inl (cI, 24, .inl au_from)), (qu_to, .inl (cI, 24, .inl au_to)), (qu_sideOf, .inl (cI, 64, .inl au_sideOf)), (qu_within, .inl (cI, 64, .inl au_within)), (qu_cost, .inl (cI, 832, .inl au_cost))]
def w_Mo_before_55 (Q : Int32 → Unit → Prop) (K_3 : Int32 → Prop) (p1 : Int32) (p2 : Int32) (p3 : Int32) (p4 : Int32) (fu_places : Int32) (au_length : Nat → Int32) (au_links : Nat → Int32) (au_from : Nat → Int32) (au_to : Nat → Int32) (au_sideOf : Nat → Int32) (au_within : Nat → Int32) (au_cost : Nat → Int32) (x5 : Int32) : Prop := ∀ x5_1 : Int32, x5_1 = x5 + 1 → (K_3 x5_1)
def w_Mo_before_3B (Q : Int32 → Unit → Prop)  (K_3 : Int32 → Prop) (p1 : Int32) (p2 : Int32) (p3 : Int32) (p4 : Int32) (fu_places : Int32) (au_length : Nat → Int32) (au_links : Nat → Int32) (au_from : Nat → Int32) (au_to : Nat → Int32) (au_sideOf : Nat → Int32) (au_within : Nat → Int32) (au_cost : Nat → Int32) (x5 : Int32) : Prop := ((fu_places ≤ x5 → (Q (-1) ())) ∧ (¬ fu_places ≤ x5 → (wp_Mo_after (fun r_4 v_3 => ((r_4 = 0 → (w_Mo_before_55 Q K_3 p1 p2 p3 p4 fu_places au_length au_links au_from au_to au_sideOf au_within au_cost x5)) ∧ (¬ r_4 = 0 → (∀ x_6 : Int32, x_6 = (64 * p1) + x5 → (vp_in x_6 832 ∧ (∀ x_8 : Int32, x_8 = (au_cost x_6.toNatClampNeg) + p2 → (∀ x_9 : Int32, x_9 = (64 * p3) + p4 → (vp_in x_9 832 ∧ (∀ y_11 : Int32, y_11 = au_cost x_9.toNatClampNeg → (((x_8 = y_11 → (Q x5 ())) ∧ (¬ x_8 = y_11 → (w_Mo_before_55 Q K_3 p1 p2 p3 p4 fu_places au_length au_links au_from au_to au_sideOf au_within au_cost x5))))))))))))) x5 p4 au_length au_links au_from au_to au_sideOf au_within)))
def w_Mo_before_3 (Q : Int32 → Unit → Prop)  (p1 : Int32) (p2 : Int32) (p3 : Int32) (p4 : Int32) (fu_places : Int32) (au_length : Nat → Int32) (au_links : Nat → Int32) (au_from : Nat → Int32) (au_to : Nat → Int32) (au_sideOf : Nat → Int32) (au_within : Nat → Int32) (au_cost : Nat → Int32) : Nat → Int32 → Prop
  | 0 => fun _ => False
  | n + 1 => fun x5 => w_Mo_before_3B Q  (w_Mo_before_3 Q  p1 p2 p3 p4 fu_places au_length au_links au_from au_to au_sideOf au_within au_cost n) p1 p2 p3 p4 fu_places au_length au_links au_from au_to au_sideOf au_within au_cost x5
def wp_Mo_before (Q : Int32 → Unit → Prop) (p1 : Int32) (p2 : Int32) (p3 : Int32) (p4 : Int32) (fu_places : Int32) (au_length : Nat → Int32) (au_links : Nat → Int32) (au_from : Nat → Int32) (au_to : Nat → Int32) (au_sideOf : Nat → Int32) (au_within : Nat → Int32) (au_cost : Nat → Int32) : Prop := ∃ fu_3 : Nat, w_Mo_before_3 Q p1 p2 p3 p4 fu_places au_length au_links au_from au_to au_sideOf au_within au_cost fu_3 0
abbrev rm_Mo_before : Room := { frames := 2, cells := 0, slots := 0, locals := 47 }
set_option maxHeartbeats 4000000 in
set_option maxRecDepth 100000 in
theorem k_Mo_before (l : Launch) (dC : Nat → ClassId) (dI : Nat → Nat → Nat) (cI cC cB : ClassId) (sz : Nat) (qu : Nat) (qu_length : Nat) (qu_links : Nat) (qu_from : Nat) (qu_to : Nat) (qu_sideOf : Nat) (qu_within : Nat) (qu_cost : Nat) (qu_text : Nat) (qu_segments : Nat) (qu_names : Nat) (qu_nameSize : Nat) (qu_bases : Nat) (qu_paths : Nat) (qu_titles : Nat) (qu_titleSize : Nat) (qu_steps : Nat) (qu_step : Nat) (qu_read : Nat) (qu_walk : Nat) (qu_edits : Nat) (qu_said : Nat) (fu_size : Int32) (fu_places : Int32) (fu_reads : Int32) (fu_there : Int32) (fu_total : Int32) (fu_walked : Int32) (fu_edited : Int32) (fu_written : Int32) (fu_at : Int32) (fu_end : Int32) (fu_began : Int32) (fu_many : Int32) (au_length : Nat → Int32) (au_links : Nat → Int32) (au_from : Nat → Int32) (au_to : Nat → Int32) (au_sideOf : Nat → Int32) (au_within : Nat → Int32) (au_cost : Nat → Int32) (p1 : Int32) (p2 : Int32) (p3 : Int32) (p4 : Int32) {Q : Int32 → Unit → Prop} (h : wp_Mo_before Q p1 p2 p3 p4 fu_places au_length au_links au_from au_to au_sideOf au_within au_cost) :
    CTi l y_Mo_before (wM y_Mo_before c_Mo_before 6 (some .int)) rm_Mo_before 0 0 (dC, dI) (tysL cI cC cB) [.ref qu, .int p1, .int p2, .int p3, .int p4] (W_Mo_before cI cC cB qu qu_length qu_links qu_from qu_to qu_sideOf qu_within qu_cost qu_text qu_segments qu_names qu_nameSize qu_bases qu_paths qu_titles qu_titleSize qu_steps qu_step qu_read qu_walk qu_edits qu_said fu_size fu_places fu_reads fu_there fu_total fu_walked fu_edited fu_written fu_at fu_end fu_began fu_many au_length au_links au_from au_to au_sideOf au_within au_cost) sz Q (fun (v : Unit) (b : Unit) => (W_Mo_before cI cC cB qu qu_length qu_links qu_from qu_to qu_sideOf qu_within qu_cost qu_text qu_segments qu_names qu_nameSize qu_bases qu_paths qu_titles qu_titleSize qu_steps qu_step qu_read qu_walk qu_edits qu_said fu_size fu_places fu_reads fu_there fu_total fu_walked fu_edited fu_written fu_at fu_end fu_began fu_many au_length au_links au_from au_to au_sideOf au_within au_cost)) := by
  refine CTi.std (by decide) (Nat.le_of_ble_eq_true rfl) ?_
  intro p e s m args below meth c A ls QF C0 hP hD hl hS hsz hnm hret
  obtain ⟨hx, hb, hr, hml, hown, hts, hlocks, hN, hA, hK⟩ := id C0
  have hown : s.vm.findClass R_Mo = some m.cls := hown
  have hl : lv_has ls 6 [(0, .ref qu), (1, .int p1), (2, .int p2), (3, .int p3), (4, .int p4)] := hl
  clear hsz hnm
  have blk_55 : ∀ (K_3 : Int32 → Prop) (hK_3 : ∀ (x5 : Int32)  (H : Heap) (locs : List Loc) (ls : Array Slot), K_3 x5 → va_P (dC, dI) cls (W_Mo_before cI cC cB qu qu_length qu_links qu_from qu_to qu_sideOf qu_within qu_cost qu_text qu_segments qu_names qu_nameSize qu_bases qu_paths qu_titles qu_titleSize qu_steps qu_step qu_read qu_walk qu_edits qu_said fu_size fu_places fu_reads fu_there fu_total fu_walked fu_edited fu_written fu_at fu_end fu_began fu_many au_length au_links au_from au_to au_sideOf au_within au_cost) H → va_D A (W_Mo_before cI cC cB qu qu_length qu_links qu_from qu_to qu_sideOf qu_within qu_cost qu_text qu_segments qu_names qu_nameSize qu_bases qu_paths qu_titles qu_titleSize qu_steps qu_step qu_read qu_walk qu_edits qu_said fu_size fu_places fu_reads fu_there fu_total fu_walked fu_edited fu_written fu_at fu_end fu_began fu_many au_length au_links au_from au_to au_sideOf au_within au_cost) → va_S A s.heap H locs → lv_has ls 6 [(0, .ref qu), (1, .int p1), (2, .int p2), (3, .int p3), (4, .int p4), (5, .int x5)] → W p l e rm_Mo_before s m args below meth c H locs 0 0 QF (F0 m 3 ls [])) (x5 : Int32)  (H : Heap) (locs : List Loc) (ls : Array Slot), w_Mo_before_55 Q K_3 p1 p2 p3 p4 fu_places au_length au_links au_from au_to au_sideOf au_within au_cost x5 → va_P (dC, dI) cls (W_Mo_before cI cC cB qu qu_length qu_links qu_from qu_to qu_sideOf qu_within qu_cost qu_text qu_segments qu_names qu_nameSize qu_bases qu_paths qu_titles qu_titleSize qu_steps qu_step qu_read qu_walk qu_edits qu_said fu_size fu_places fu_reads fu_there fu_total fu_walked fu_edited fu_written fu_at fu_end fu_began fu_many au_length au_links au_from au_to au_sideOf au_within au_cost) H → va_D A (W_Mo_before cI cC cB qu qu_length qu_links qu_from qu_to qu_sideOf qu_within qu_cost qu_text qu_segments qu_names qu_nameSize qu_bases qu_paths qu_titles qu_titleSize qu_steps qu_step qu_read qu_walk qu_edits qu_said fu_size fu_places fu_reads fu_there fu_total fu_walked fu_edited fu_written fu_at fu_end fu_began fu_many au_length au_links au_from au_to au_sideOf au_within au_cost) → va_S A s.heap H locs → lv_has ls 6 [(0, .ref qu), (1, .int p1), (2, .int p2), (3, .int p3), (4, .int p4), (5, .int x5)] → W p l e rm_Mo_before s m args below meth c H locs 0 0 QF (F0 m 55 ls []) := by
    intro K_3 hK_3 x5  H locs ls h hP hD hS hl
    unfold w_Mo_before_55 at h
    obtain ⟨x5_1, ex5_1⟩ : ∃ y : Int32, y = x5 + 1 := ⟨_, rfl⟩
    have h := h x5_1 ex5_1
    refine lv_iinc (v := x5_1) (lv' := [(5, .int x5_1), (0, .ref qu), (1, .int p1), (2, .int p2), (3, .int p3), (4, .int p4)]) hx hb d_Mo_before_55 hl (k := 5) rfl (by rw [ex5_1]; rfl) (by decide) rfl (fun ls hl => ?_)
    refine lv_goto (tgt := 3) hx hb d_Mo_before_58 (by decide) ?_
    exact hK_3 _ _ _ _ h hP hD hS (lv_sub hl [1, 2, 3, 4, 5, 0] rfl)
  have blk_3 : ∀  (n : Nat) (x5 : Int32)  (H : Heap) (locs : List Loc) (ls : Array Slot), w_Mo_before_3 Q  p1 p2 p3 p4 fu_places au_length au_links au_from au_to au_sideOf au_within au_cost n x5 → va_P (dC, dI) cls (W_Mo_before cI cC cB qu qu_length qu_links qu_from qu_to qu_sideOf qu_within qu_cost qu_text qu_segments qu_names qu_nameSize qu_bases qu_paths qu_titles qu_titleSize qu_steps qu_step qu_read qu_walk qu_edits qu_said fu_size fu_places fu_reads fu_there fu_total fu_walked fu_edited fu_written fu_at fu_end fu_began fu_many au_length au_links au_from au_to au_sideOf au_within au_cost) H → va_D A (W_Mo_before cI cC cB qu qu_length qu_links qu_from qu_to qu_sideOf qu_within qu_cost qu_text qu_segments qu_names qu_nameSize qu_bases qu_paths qu_titles qu_titleSize qu_steps qu_step qu_read qu_walk qu_edits qu_said fu_size fu_places fu_reads fu_there fu_total fu_walked fu_edited fu_written fu_at fu_end fu_began fu_many au_length au_links au_from au_to au_sideOf au_within au_cost) → va_S A s.heap H locs → lv_has ls 6 [(0, .ref qu), (1, .int p1), (2, .int p2), (3, .int p3), (4, .int p4), (5, .int x5)] → W p l e rm_Mo_before s m args below meth c H locs 0 0 QF (F0 m 3 ls []) := by
    intro  n
    induction n with
    | zero => intro x5  H locs ls h; exact (show False from h).elim
    | succ n ih =>
      intro x5  H locs ls h hP hD hS hl
      have h : w_Mo_before_3B Q  (w_Mo_before_3 Q  p1 p2 p3 p4 fu_places au_length au_links au_from au_to au_sideOf au_within au_cost n) p1 p2 p3 p4 fu_places au_length au_links au_from au_to au_sideOf au_within au_cost x5 := h
      generalize w_Mo_before_3 Q  p1 p2 p3 p4 fu_places au_length au_links au_from au_to au_sideOf au_within au_cost n = K_3 at h ih
      unfold w_Mo_before_3B at h
      refine lv_iload hx hb d_Mo_before_3 (lv_at hl 5 rfl) ?_
      refine lv_aload_n hx hb d_Mo_before_5 rfl (lv_at hl 0 rfl) ?_
      refine va_get (D := (dC, dI)) (ci := 6) (v := .int fu_places) (C := R_Mo) (T := T_Mo) (N := 33) hx hb hts in_Mo hown hK hP 0 rfl rfl 15 (by decide) (hts _ w_480) (fun _ h9 => h9) rfl d_Mo_before_6 ?_
      refine lv_icmp_ge (tgt := 61) hx hb d_Mo_before_9 (by decide) (fun c_2 => ?_) (fun c_2 => ?_)
      · have h := h.1 c_2
        refine lv_iconst (v := (-1)) hx hb d_Mo_before_61 (by decide) ?_
        exact hret () () (-1) _ _ _ _ rfl h hP hD hS d_Mo_before_62
      · have h := h.2 c_2
        refine lv_aload_n hx hb d_Mo_before_12 rfl (lv_at hl 0 rfl) ?_
        refine lv_iload hx hb d_Mo_before_13 (lv_at hl 5 rfl) ?_
        refine lv_iload hx hb d_Mo_before_15 (lv_at hl 4 rfl) ?_
        refine call_V_i (As := [.int x5, .int p4]) (rest := []) C0 hP hD hS [0, 1, 2, 3, 4, 5, 6] [7] [1, 2, 3, 4, 5, 6, 7, 0] [(qu_cost, .inl (cI, 832, .inl au_cost))] (fun (v : Unit) (b : Unit) => (W_Mo_before cI cC cB qu qu_length qu_links qu_from qu_to qu_sideOf qu_within qu_cost qu_text qu_segments qu_names qu_nameSize qu_bases qu_paths qu_titles qu_titleSize qu_steps qu_step qu_read qu_walk qu_edits qu_said fu_size fu_places fu_reads fu_there fu_total fu_walked fu_edited fu_written fu_at fu_end fu_began fu_many au_length au_links au_from au_to au_sideOf au_within au_cost)) (ci := 6) rfl rfl (k_Mo_after l dC dI cI cC cB _ qu qu_length qu_links qu_from qu_to qu_sideOf qu_within qu_text qu_segments qu_names qu_nameSize qu_bases qu_paths qu_titles qu_titleSize qu_steps qu_step qu_read qu_cost qu_walk qu_edits qu_said fu_size fu_places fu_reads fu_there fu_total fu_walked fu_edited fu_written fu_at fu_end fu_began fu_many au_length au_links au_from au_to au_sideOf au_within x5 p4 h) (g_V w_500 w_501 w_502 w_418 w_499) 2 rfl (by decide +kernel) rfl rfl ⟨Nat.le_of_ble_eq_true rfl, Nat.le_of_ble_eq_true rfl⟩ rfl rfl (by decide) (by decide) (by decide) (by decide) (fun _ _ => rfl) hl.1 rfl (Nat.le_of_ble_eq_true rfl) d_Mo_before_17 ⟨Nat.le_of_ble_eq_true rfl, Nat.le_of_ble_eq_true rfl⟩ (fun r_4 v_3 _ H locs h hP hD hS => ?_)
        have hP : va_P (dC, dI) cls (W_Mo_before cI cC cB qu qu_length qu_links qu_from qu_to qu_sideOf qu_within qu_cost qu_text qu_segments qu_names qu_nameSize qu_bases qu_paths qu_titles qu_titleSize qu_steps qu_step qu_read qu_walk qu_edits qu_said fu_size fu_places fu_reads fu_there fu_total fu_walked fu_edited fu_written fu_at fu_end fu_began fu_many au_length au_links au_from au_to au_sideOf au_within au_cost) H := hP
        have hD : va_D A (W_Mo_before cI cC cB qu qu_length qu_links qu_from qu_to qu_sideOf qu_within qu_cost qu_text qu_segments qu_names qu_nameSize qu_bases qu_paths qu_titles qu_titleSize qu_steps qu_step qu_read qu_walk qu_edits qu_said fu_size fu_places fu_reads fu_there fu_total fu_walked fu_edited fu_written fu_at fu_end fu_began fu_many au_length au_links au_from au_to au_sideOf au_within au_cost) := hD
        refine lv_if_eq (tgt := 55) hx hb d_Mo_before_20 (by decide) (fun c_5 => ?_) (fun c_5 => ?_)
        · have h := h.1 c_5
          exact blk_55 _ ih _ _ _ _ h hP hD hS (lv_sub hl [0, 1, 2, 3, 4, 5] rfl)
        · have h := h.2 c_5
          refine lv_aload_n hx hb d_Mo_before_23 rfl (lv_at hl 0 rfl) ?_
          refine va_get (D := (dC, dI)) (ci := 6) (v := .ref qu_cost) (C := R_Mo) (T := T_Mo) (N := 33) hx hb hts in_Mo hown hK hP 0 rfl rfl 20 (by decide) (hts _ w_505) (fun _ h9 => h9) rfl d_Mo_before_24 ?_
          refine lv_bipush (v := 64) hx hb d_Mo_before_27 (by decide) ?_
          refine lv_iload_n hx hb d_Mo_before_29 rfl (lv_at hl 1 rfl) ?_
          refine lv_imul hx hb d_Mo_before_30 ?_
          refine lv_iload hx hb d_Mo_before_31 (lv_at hl 5 rfl) ?_
          refine lv_iadd hx hb d_Mo_before_33 ?_
          refine lv_topi (fun x_6 ex_6 => ?_)
          have h := h x_6 ex_6
          have hi_7 := h.1
          have h := h.2
          refine va_iald hx hb hK hP 7 0 rfl rfl hi_7 d_Mo_before_34 ?_
          refine lv_iload_n hx hb d_Mo_before_35 rfl (lv_at hl 2 rfl) ?_
          refine lv_iadd hx hb d_Mo_before_36 ?_
          refine lv_topi (fun x_8 ex_8 => ?_)
          have h := h x_8 ex_8
          refine lv_aload_n hx hb d_Mo_before_37 rfl (lv_at hl 0 rfl) ?_
          refine va_get (D := (dC, dI)) (ci := 6) (v := .ref qu_cost) (C := R_Mo) (T := T_Mo) (N := 33) hx hb hts in_Mo hown hK hP 0 rfl rfl 20 (by decide) (hts _ w_505) (fun _ h9 => h9) rfl d_Mo_before_38 ?_
          refine lv_bipush (v := 64) hx hb d_Mo_before_41 (by decide) ?_
          refine lv_iload_n hx hb d_Mo_before_43 rfl (lv_at hl 3 rfl) ?_
          refine lv_imul hx hb d_Mo_before_44 ?_
          refine lv_iload hx hb d_Mo_before_45 (lv_at hl 4 rfl) ?_
          refine lv_iadd hx hb d_Mo_before_47 ?_
          refine lv_topi (fun x_9 ex_9 => ?_)
          have h := h x_9 ex_9
          have hi_10 := h.1
          have h := h.2
          refine va_iald hx hb hK hP 7 0 rfl rfl hi_10 d_Mo_before_48 ?_
          refine lv_topi (fun y_11 ey_11 => ?_)
          have h := h y_11 ey_11
          refine lv_icmp_ne (tgt := 55) hx hb d_Mo_before_49 (by decide) (fun c_12 => ?_) (fun c_12 => ?_)
          · have h := h.2 c_12
            exact blk_55 _ ih _ _ _ _ h hP hD hS (lv_sub hl [0, 1, 2, 3, 4, 5] rfl)
          · have h := h.1 c_12
            refine lv_iload hx hb d_Mo_before_52 (lv_at hl 5 rfl) ?_
            exact hret () () x5 _ _ _ _ rfl h hP hD hS d_Mo_before_54
  unfold wp_Mo_before at h
  refine lv_iconst (v := 0) hx hb d_Mo_before_0 (by decide) ?_
  refine lv_istore (lv' := [(5, .int 0), (0, .ref qu), (1, .int p1), (2, .int p2), (3, .int p3), (4, .int p4)]) hx hb d_Mo_before_1 hl (by decide) rfl (fun ls hl => ?_)
  obtain ⟨fu_3, h⟩ := h
  exact blk_3  _ _ _ _ _ h hP hD hS (lv_sub hl [1, 2, 3, 4, 5, 0] rfl)
abbrev W_Mo_note (cI cC cB : ClassId) (qu : Nat) (qu_edits : Nat) (qu_text : Nat) (qu_segments : Nat) (qu_names : Nat) (qu_nameSize : Nat) (qu_bases : Nat) (qu_length : Nat) (qu_links : Nat) (qu_from : Nat) (qu_to : Nat) (qu_paths : Nat) (qu_titles : Nat) (qu_titleSize : Nat) (qu_steps : Nat) (qu_step : Nat) (qu_sideOf : Nat) (qu_within : Nat) (qu_read : Nat) (qu_cost : Nat) (qu_walk : Nat) (qu_said : Nat) (fu_size : Int32) (fu_places : Int32) (fu_reads : Int32) (fu_there : Int32) (fu_total : Int32) (fu_walked : Int32) (fu_edited : Int32) (fu_written : Int32) (fu_at : Int32) (fu_end : Int32) (fu_began : Int32) (fu_many : Int32) (au_edits : Nat → Int32) : va_W := [(qu, .inr (6, [.int fu_size, .ref qu_text, .ref qu_segments, .ref qu_names, .ref qu_nameSize, .ref qu_bases, .ref qu_length, .ref qu_links, .ref qu_from, .ref qu_to, .ref qu_paths, .ref qu_titles, .ref qu_titleSize, .ref qu_steps, .ref qu_step, .int fu_places, .ref qu_sideOf, .ref qu_within, .int fu_reads, .ref qu_read, .ref qu_cost, .int fu_there, .int fu_total, .int fu_walked, .ref qu_walk, .int fu_edited, .ref qu_edits, .int fu_written, .ref qu_said, .int fu_at, .int fu_end, .int fu_began, .int fu_many])), (qu_edits, .inl (cC, 64, .inl au_edits))]
def wp_Mo_note (Q : (Int32 × (Nat → Int32)) → Prop) (p1 : Int32) (fu_edited : Int32) (au_edits : Nat → Int32) : Prop := vp_in fu_edited 64 ∧ (∀ au_edits_2 : Nat → Int32, au_edits_2 = upd au_edits fu_edited.toNatClampNeg (vp_nar .char p1) → (∀ x_3 : Int32, x_3 = fu_edited + 1 → (Q (x_3, au_edits_2))))
abbrev rm_Mo_note : Room := { frames := 0, cells := 0, slots := 0, locals := 0 }
set_option maxHeartbeats 4000000 in
set_option maxRecDepth 100000 in
theorem k_Mo_note (l : Launch) (dC : Nat → ClassId) (dI : Nat → Nat → Nat) (cI cC cB : ClassId) (sz : Nat) (qu : Nat) (qu_edits : Nat) (qu_text : Nat) (qu_segments : Nat) (qu_names : Nat) (qu_nameSize : Nat) (qu_bases : Nat) (qu_length : Nat) (qu_links : Nat) (qu_from : Nat) (qu_to : Nat) (qu_paths : Nat) (qu_titles : Nat) (qu_titleSize : Nat) (qu_steps : Nat) (qu_step : Nat) (qu_sideOf : Nat) (qu_within : Nat) (qu_read : Nat) (qu_cost : Nat) (qu_walk : Nat) (qu_said : Nat) (fu_size : Int32) (fu_places : Int32) (fu_reads : Int32) (fu_there : Int32) (fu_total : Int32) (fu_walked : Int32) (fu_edited : Int32) (fu_written : Int32) (fu_at : Int32) (fu_end : Int32) (fu_began : Int32) (fu_many : Int32) (au_edits : Nat → Int32) (p1 : Int32) {Q : (Int32 × (Nat → Int32)) → Prop} (h : wp_Mo_note Q p1 fu_edited au_edits) :
    CTv l y_Mo_note (wM y_Mo_note c_Mo_note 2 none) rm_Mo_note 0 0 (dC, dI) (tysL cI cC cB) [.ref qu, .int p1] (W_Mo_note cI cC cB qu qu_edits qu_text qu_segments qu_names qu_nameSize qu_bases qu_length qu_links qu_from qu_to qu_paths qu_titles qu_titleSize qu_steps qu_step qu_sideOf qu_within qu_read qu_cost qu_walk qu_said fu_size fu_places fu_reads fu_there fu_total fu_walked fu_edited fu_written fu_at fu_end fu_began fu_many au_edits) sz Q (fun (v : Int32 × (Nat → Int32)) (b : Unit) => (W_Mo_note cI cC cB qu qu_edits qu_text qu_segments qu_names qu_nameSize qu_bases qu_length qu_links qu_from qu_to qu_paths qu_titles qu_titleSize qu_steps qu_step qu_sideOf qu_within qu_read qu_cost qu_walk qu_said fu_size fu_places fu_reads fu_there fu_total fu_walked v.1 fu_written fu_at fu_end fu_began fu_many v.2)) := by
  refine CTv.std (by decide) (Nat.le_of_ble_eq_true rfl) ?_
  intro p e s m args below meth c A ls QF C0 hP hD hl hS hsz hnm hret
  obtain ⟨hx, hb, hr, hml, hown, hts, hlocks, hN, hA, hK⟩ := id C0
  have hown : s.vm.findClass R_Mo = some m.cls := hown
  have hl : lv_has ls 2 [(0, .ref qu), (1, .int p1)] := hl
  clear hsz hnm
  unfold wp_Mo_note at h
  refine lv_aload_n hx hb d_Mo_note_0 rfl (lv_at hl 0 rfl) ?_
  refine va_get (D := (dC, dI)) (ci := 6) (v := .ref qu_edits) (C := R_Mo) (T := T_Mo) (N := 33) hx hb hts in_Mo hown hK hP 0 rfl rfl 26 (by decide) (hts _ w_519) (fun _ h9 => h9) rfl d_Mo_note_1 ?_
  refine lv_aload_n hx hb d_Mo_note_4 rfl (lv_at hl 0 rfl) ?_
  refine va_get (D := (dC, dI)) (ci := 6) (v := .int fu_edited) (C := R_Mo) (T := T_Mo) (N := 33) hx hb hts in_Mo hown hK hP 0 rfl rfl 25 (by decide) (hts _ w_520) (fun _ h9 => h9) rfl d_Mo_note_5 ?_
  refine lv_iload_n hx hb d_Mo_note_8 rfl (lv_at hl 1 rfl) ?_
  have hi_1 := h.1
  have h := h.2
  refine va_cast hx hb hK hP hD hS 1 1 rfl rfl hi_1 d_Mo_note_9 (fun H locs hP hD hS => ?_)
  obtain ⟨au_edits_2, eau_edits_2⟩ : ∃ z : Nat → Int32, z = upd au_edits fu_edited.toNatClampNeg (vp_nar .char p1) := ⟨_, rfl⟩
  have h := h au_edits_2 eau_edits_2
  have hP : va_P (dC, dI) cls (W_Mo_note cI cC cB qu qu_edits qu_text qu_segments qu_names qu_nameSize qu_bases qu_length qu_links qu_from qu_to qu_paths qu_titles qu_titleSize qu_steps qu_step qu_sideOf qu_within qu_read qu_cost qu_walk qu_said fu_size fu_places fu_reads fu_there fu_total fu_walked fu_edited fu_written fu_at fu_end fu_began fu_many au_edits_2) H := by rw [eau_edits_2]; exact hP
  have hD : va_D A (W_Mo_note cI cC cB qu qu_edits qu_text qu_segments qu_names qu_nameSize qu_bases qu_length qu_links qu_from qu_to qu_paths qu_titles qu_titleSize qu_steps qu_step qu_sideOf qu_within qu_read qu_cost qu_walk qu_said fu_size fu_places fu_reads fu_there fu_total fu_walked fu_edited fu_written fu_at fu_end fu_began fu_many au_edits_2) := by rw [eau_edits_2]; exact hD
  refine lv_aload_n hx hb d_Mo_note_10 rfl (lv_at hl 0 rfl) ?_
  refine lv_dup hx hb d_Mo_note_11 rfl ?_
  refine va_get (D := (dC, dI)) (ci := 6) (v := .int fu_edited) (C := R_Mo) (T := T_Mo) (N := 33) hx hb hts in_Mo hown hK hP 0 rfl rfl 25 (by decide) (hts _ w_520) (fun _ h9 => h9) rfl d_Mo_note_12 ?_
  refine lv_iconst (v := 1) hx hb d_Mo_note_15 (by decide) ?_
  refine lv_iadd hx hb d_Mo_note_16 ?_
  refine lv_topi (fun x_3 ex_3 => ?_)
  have h := h x_3 ex_3
  refine va_put (D := (dC, dI)) (ci := 6) (v := .int x_3) (ty := .int) (C := R_Mo) (T := T_Mo) (N := 33) hx hb hts in_Mo t_Mo t_Mo_ok n_Mo hown hK hP hD hS 0 rfl rfl 25 (by decide) (hts _ w_520) (fun _ h9 => h9) rfl (by decide +kernel) rfl rfl (Nat.le_of_ble_eq_true rfl) d_Mo_note_17 (fun H locs hP hD hS => ?_)
  have hP : va_P (dC, dI) cls (W_Mo_note cI cC cB qu qu_edits qu_text qu_segments qu_names qu_nameSize qu_bases qu_length qu_links qu_from qu_to qu_paths qu_titles qu_titleSize qu_steps qu_step qu_sideOf qu_within qu_read qu_cost qu_walk qu_said fu_size fu_places fu_reads fu_there fu_total fu_walked x_3 fu_written fu_at fu_end fu_began fu_many au_edits_2) H := hP
  have hD : va_D A (W_Mo_note cI cC cB qu qu_edits qu_text qu_segments qu_names qu_nameSize qu_bases qu_length qu_links qu_from qu_to qu_paths qu_titles qu_titleSize qu_steps qu_step qu_sideOf qu_within qu_read qu_cost qu_walk qu_said fu_size fu_places fu_reads fu_there fu_total fu_walked x_3 fu_written fu_at fu_end fu_began fu_many au_edits_2) := hD
  exact hret (x_3, au_edits_2) () _ _ _ _ h hP hD hS d_Mo_note_20
abbrev W_Mo_visit (cI cC cB : ClassId) (qu : Nat) (qu_walk : Nat) (qu_text : Nat) (qu_segments : Nat) (qu_names : Nat) (qu_nameSize : Nat) (qu_bases : Nat) (qu_length : Nat) (qu_links : Nat) (qu_from : Nat) (qu_to : Nat) (qu_paths : Nat) (qu_titles : Nat) (qu_titleSize : Nat) (qu_steps : Nat) (qu_step : Nat) (qu_sideOf : Nat) (qu_within : Nat) (qu_read : Nat) (qu_cost : Nat) (qu_edits : Nat) (qu_said : Nat) (fu_size : Int32) (fu_places : Int32) (fu_reads : Int32) (fu_there : Int32) (fu_total : Int32) (fu_walked : Int32) (fu_edited : Int32) (fu_written : Int32) (fu_at : Int32) (fu_end : Int32) (fu_began : Int32) (fu_many : Int32) (au_walk : Nat → Int32) : va_W := [(qu, .inr (6, [.int fu_size, .ref qu_text, .ref qu_segments, .ref qu_names, .ref qu_nameSize, .ref qu_bases, .ref qu_length, .ref qu_links, .ref qu_from, .ref qu_to, .ref qu_paths, .ref qu_titles, .ref qu_titleSize, .ref qu_steps, .ref qu_step, .int fu_places, .ref qu_sideOf, .ref qu_within, .int fu_reads, .ref qu_read, .ref qu_cost, .int fu_there, .int fu_total, .int fu_walked, .ref qu_walk, .int fu_edited, .ref qu_edits, .int fu_written, .ref qu_said, .int fu_at, .int fu_end, .int fu_began, .int fu_many])), (qu_walk, .inl (cI, 64, .inl au_walk))]
def wp_Mo_visit (Q : (Int32 × (Nat → Int32)) → Prop) (p1 : Int32) (fu_walked : Int32) (au_walk : Nat → Int32) : Prop := vp_in fu_walked 64 ∧ (∀ au_walk_2 : Nat → Int32, au_walk_2 = upd au_walk fu_walked.toNatClampNeg p1 → (∀ x_3 : Int32, x_3 = fu_walked + 1 → (Q (x_3, au_walk_2))))
abbrev rm_Mo_visit : Room := { frames := 0, cells := 0, slots := 0, locals := 0 }
set_option maxHeartbeats 4000000 in
set_option maxRecDepth 100000 in
theorem k_Mo_visit (l : Launch) (dC : Nat → ClassId) (dI : Nat → Nat → Nat) (cI cC cB : ClassId) (sz : Nat) (qu : Nat) (qu_walk : Nat) (qu_text : Nat) (qu_segments : Nat) (qu_names : Nat) (qu_nameSize : Nat) (qu_bases : Nat) (qu_length : Nat) (qu_links : Nat) (qu_from : Nat) (qu_to : Nat) (qu_paths : Nat) (qu_titles : Nat) (qu_titleSize : Nat) (qu_steps : Nat) (qu_step : Nat) (qu_sideOf : Nat) (qu_within : Nat) (qu_read : Nat) (qu_cost : Nat) (qu_edits : Nat) (qu_said : Nat) (fu_size : Int32) (fu_places : Int32) (fu_reads : Int32) (fu_there : Int32) (fu_total : Int32) (fu_walked : Int32) (fu_edited : Int32) (fu_written : Int32) (fu_at : Int32) (fu_end : Int32) (fu_began : Int32) (fu_many : Int32) (au_walk : Nat → Int32) (p1 : Int32) {Q : (Int32 × (Nat → Int32)) → Prop} (h : wp_Mo_visit Q p1 fu_walked au_walk) :
    CTv l y_Mo_visit (wM y_Mo_visit c_Mo_visit 2 none) rm_Mo_visit 0 0 (dC, dI) (tysL cI cC cB) [.ref qu, .int p1] (W_Mo_visit cI cC cB qu qu_walk qu_text qu_segments qu_names qu_nameSize qu_bases qu_length qu_links qu_from qu_to qu_paths qu_titles qu_titleSize qu_steps qu_step qu_sideOf qu_within qu_read qu_cost qu_edits qu_said fu_size fu_places fu_reads fu_there fu_total fu_walked fu_edited fu_written fu_at fu_end fu_began fu_many au_walk) sz Q (fun (v : Int32 × (Nat → Int32)) (b : Unit) => (W_Mo_visit cI cC cB qu qu_walk qu_text qu_segments qu_names qu_nameSize qu_bases qu_length qu_links qu_from qu_to qu_paths qu_titles qu_titleSize qu_steps qu_step qu_sideOf qu_within qu_read qu_cost qu_edits qu_said fu_size fu_places fu_reads fu_there fu_total v.1 fu_edited fu_written fu_at fu_end fu_began fu_many v.2)) := by
  refine CTv.std (by decide) (Nat.le_of_ble_eq_true rfl) ?_
  intro p e s m args below meth c A ls QF C0 hP hD hl hS hsz hnm hret
  obtain ⟨hx, hb, hr, hml, hown, hts, hlocks, hN, hA, hK⟩ := id C0
  have hown : s.vm.findClass R_Mo = some m.cls := hown
  have hl : lv_has ls 2 [(0, .ref qu), (1, .int p1)] := hl
  clear hsz hnm
  unfold wp_Mo_visit at h
  refine lv_aload_n hx hb d_Mo_visit_0 rfl (lv_at hl 0 rfl) ?_
  refine va_get (D := (dC, dI)) (ci := 6) (v := .ref qu_walk) (C := R_Mo) (T := T_Mo) (N := 33) hx hb hts in_Mo hown hK hP 0 rfl rfl 24 (by decide) (hts _ w_525) (fun _ h9 => h9) rfl d_Mo_visit_1 ?_
  refine lv_aload_n hx hb d_Mo_visit_4 rfl (lv_at hl 0 rfl) ?_
  refine va_get (D := (dC, dI)) (ci := 6) (v := .int fu_walked) (C := R_Mo) (T := T_Mo) (N := 33) hx hb hts in_Mo hown hK hP 0 rfl rfl 23 (by decide) (hts _ w_526) (fun _ h9 => h9) rfl d_Mo_visit_5 ?_
  refine lv_iload_n hx hb d_Mo_visit_8 rfl (lv_at hl 1 rfl) ?_
  have hi_1 := h.1
  have h := h.2
  refine va_iast hx hb hK hP hD hS 1 0 rfl rfl hi_1 d_Mo_visit_9 (fun H locs hP hD hS => ?_)
  obtain ⟨au_walk_2, eau_walk_2⟩ : ∃ z : Nat → Int32, z = upd au_walk fu_walked.toNatClampNeg p1 := ⟨_, rfl⟩
  have h := h au_walk_2 eau_walk_2
  have hP : va_P (dC, dI) cls (W_Mo_visit cI cC cB qu qu_walk qu_text qu_segments qu_names qu_nameSize qu_bases qu_length qu_links qu_from qu_to qu_paths qu_titles qu_titleSize qu_steps qu_step qu_sideOf qu_within qu_read qu_cost qu_edits qu_said fu_size fu_places fu_reads fu_there fu_total fu_walked fu_edited fu_written fu_at fu_end fu_began fu_many au_walk_2) H := by rw [eau_walk_2]; exact hP
  have hD : va_D A (W_Mo_visit cI cC cB qu qu_walk qu_text qu_segments qu_names qu_nameSize qu_bases qu_length qu_links qu_from qu_to qu_paths qu_titles qu_titleSize qu_steps qu_step qu_sideOf qu_within qu_read qu_cost qu_edits qu_said fu_size fu_places fu_reads fu_there fu_total fu_walked fu_edited fu_written fu_at fu_end fu_began fu_many au_walk_2) := by rw [eau_walk_2]; exact hD
  refine lv_aload_n hx hb d_Mo_visit_10 rfl (lv_at hl 0 rfl) ?_
  refine lv_dup hx hb d_Mo_visit_11 rfl ?_
  refine va_get (D := (dC, dI)) (ci := 6) (v := .int fu_walked) (C := R_Mo) (T := T_Mo) (N := 33) hx hb hts in_Mo hown hK hP 0 rfl rfl 23 (by decide) (hts _ w_526) (fun _ h9 => h9) rfl d_Mo_visit_12 ?_
  refine lv_iconst (v := 1) hx hb d_Mo_visit_15 (by decide) ?_
  refine lv_iadd hx hb d_Mo_visit_16 ?_
  refine lv_topi (fun x_3 ex_3 => ?_)
  have h := h x_3 ex_3
  refine va_put (D := (dC, dI)) (ci := 6) (v := .int x_3) (ty := .int) (C := R_Mo) (T := T_Mo) (N := 33) hx hb hts in_Mo t_Mo t_Mo_ok n_Mo hown hK hP hD hS 0 rfl rfl 23 (by decide) (hts _ w_526) (fun _ h9 => h9) rfl (by decide +kernel) rfl rfl (Nat.le_of_ble_eq_true rfl) d_Mo_visit_17 (fun H locs hP hD hS => ?_)
  have hP : va_P (dC, dI) cls (W_Mo_visit cI cC cB qu qu_walk qu_text qu_segments qu_names qu_nameSize qu_bases qu_length qu_links qu_from qu_to qu_paths qu_titles qu_titleSize qu_steps qu_step qu_sideOf qu_within qu_read qu_cost qu_edits qu_said fu_size fu_places fu_reads fu_there fu_total x_3 fu_edited fu_written fu_at fu_end fu_began fu_many au_walk_2) H := hP
  have hD : va_D A (W_Mo_visit cI cC cB qu qu_walk qu_text qu_segments qu_names qu_nameSize qu_bases qu_length qu_links qu_from qu_to qu_paths qu_titles qu_titleSize qu_steps qu_step qu_sideOf qu_within qu_read qu_cost qu_edits qu_said fu_size fu_places fu_reads fu_there fu_total x_3 fu_edited fu_written fu_at fu_end fu_began fu_many au_walk_2) := hD
  exact hret (x_3, au_walk_2) () _ _ _ _ h hP hD hS d_Mo_visit_20
