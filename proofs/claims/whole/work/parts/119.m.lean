abbrev W_Mo_walk (cI cC cB : ClassId) (qu : Nat) (qu_walk : Nat) (qu_text : Nat) (qu_segments : Nat) (qu_names : Nat) (qu_nameSize : Nat) (qu_bases : Nat) (qu_length : Nat) (qu_links : Nat) (qu_from : Nat) (qu_to : Nat) (qu_paths : Nat) (qu_titles : Nat) (qu_titleSize : Nat) (qu_steps : Nat) (qu_step : Nat) (qu_sideOf : Nat) (qu_within : Nat) (qu_read : Nat) (qu_cost : Nat) (qu_edits : Nat) (qu_said : Nat) (fu_size : Int32) (fu_places : Int32) (fu_reads : Int32) (fu_there : Int32) (fu_total : Int32) (fu_walked : Int32) (fu_edited : Int32) (fu_written : Int32) (fu_at : Int32) (fu_end : Int32) (fu_began : Int32) (fu_many : Int32) (au_walk : Nat → Int32) : va_W := [(qu, .inr (6, [.int fu_size, .ref qu_text, .ref qu_segments, .ref qu_names, .ref qu_nameSize, .ref qu_bases, .ref qu_length, .ref qu_links, .ref qu_from, .ref qu_to, .ref qu_paths, .ref qu_titles, .ref qu_titleSize, .ref qu_steps, .ref qu_step, .int fu_places, .ref qu_sideOf, .ref qu_within, .int fu_reads, .ref qu_read, .ref qu_cost, .int fu_there, .int fu_total, .int fu_walked, .ref qu_walk, .int fu_edited, .ref qu_edits, .int fu_written, .ref qu_said, .int fu_at, .int fu_end, .int fu_began, .int fu_many])), (qu_walk, .inl (cI, 64, .inl au_walk))]
def wp_Mo_walk (Q : Int32 → Unit → Prop) (p1 : Int32) (fu_there : Int32) (fu_walked : Int32) (au_walk : Nat → Int32) : Prop := ((fu_there = 0 → (Q (-1) ())) ∧ (¬ fu_there = 0 → (((p1 < 0 → (Q (-1) ())) ∧ (¬ p1 < 0 → (((fu_walked ≤ p1 → (Q (-1) ())) ∧ (¬ fu_walked ≤ p1 → (∀ x_4 : Int32, x_4 = (fu_walked - 1) - p1 → (vp_in x_4 64 ∧ (∀ y_6 : Int32, y_6 = au_walk x_4.toNatClampNeg → (Q y_6 ()))))))))))))
abbrev rm_Mo_walk : Room := { frames := 0, cells := 0, slots := 0, locals := 0 }
set_option maxHeartbeats 4000000 in
set_option maxRecDepth 100000 in
theorem k_Mo_walk (l : Launch) (dC : Nat → ClassId) (dI : Nat → Nat → Nat) (cI cC cB : ClassId) (sz : Nat) (qu : Nat) (qu_walk : Nat) (qu_text : Nat) (qu_segments : Nat) (qu_names : Nat) (qu_nameSize : Nat) (qu_bases : Nat) (qu_length : Nat) (qu_links : Nat) (qu_from : Nat) (qu_to : Nat) (qu_paths : Nat) (qu_titles : Nat) (qu_titleSize : Nat) (qu_steps : Nat) (qu_step : Nat) (qu_sideOf : Nat) (qu_within : Nat) (qu_read : Nat) (qu_cost : Nat) (qu_edits : Nat) (qu_said : Nat) (fu_size : Int32) (fu_places : Int32) (fu_reads : Int32) (fu_there : Int32) (fu_total : Int32) (fu_walked : Int32) (fu_edited : Int32) (fu_written : Int32) (fu_at : Int32) (fu_end : Int32) (fu_began : Int32) (fu_many : Int32) (au_walk : Nat → Int32) (p1 : Int32) {Q : Int32 → Unit → Prop} (h : wp_Mo_walk Q p1 fu_there fu_walked au_walk) :
    CTi l y_Mo_walk (wM y_Mo_walk c_Mo_walk 2 (some .int)) rm_Mo_walk 0 0 (dC, dI) (tysL cI cC cB) [.ref qu, .int p1] (W_Mo_walk cI cC cB qu qu_walk qu_text qu_segments qu_names qu_nameSize qu_bases qu_length qu_links qu_from qu_to qu_paths qu_titles qu_titleSize qu_steps qu_step qu_sideOf qu_within qu_read qu_cost qu_edits qu_said fu_size fu_places fu_reads fu_there fu_total fu_walked fu_edited fu_written fu_at fu_end fu_began fu_many au_walk) sz Q (fun (v : Unit) (b : Unit) => (W_Mo_walk cI cC cB qu qu_walk qu_text qu_segments qu_names qu_nameSize qu_bases qu_length qu_links qu_from qu_to qu_paths qu_titles qu_titleSize qu_steps qu_step qu_sideOf qu_within qu_read qu_cost qu_edits qu_said fu_size fu_places fu_reads fu_there fu_total fu_walked fu_edited fu_written fu_at fu_end fu_began fu_many au_walk)) := by
  refine CTi.std (by decide) (Nat.le_of_ble_eq_true rfl) ?_
  intro p e s m args below meth c A ls QF C0 hP hD hl hS hsz hnm hret
  obtain ⟨hx, hb, hr, hml, hown, hts, hlocks, hN, hA, hK⟩ := id C0
  have hown : s.vm.findClass R_Mo = some m.cls := hown
  have hl : lv_has ls 2 [(0, .ref qu), (1, .int p1)] := hl
  clear hsz hnm
  unfold wp_Mo_walk at h
  refine lv_aload_n hx hb d_Mo_walk_0 rfl (lv_at hl 0 rfl) ?_
  refine va_get (D := (dC, dI)) (ci := 6) (v := .int fu_there) (C := R_Mo) (T := T_Mo) (N := 33) hx hb hts in_Mo hown hK hP 0 rfl rfl 21 (by decide) (hts _ w_482) (fun _ h9 => h9) rfl d_Mo_walk_1 ?_
  refine lv_if_eq (tgt := 35) hx hb d_Mo_walk_4 (by decide) (fun c_1 => ?_) (fun c_1 => ?_)
  · have h := h.1 c_1
    refine lv_iconst (v := (-1)) hx hb d_Mo_walk_35 (by decide) ?_
    exact hret () () (-1) _ _ _ _ rfl h hP hD hS d_Mo_walk_36
  · have h := h.2 c_1
    refine lv_iload_n hx hb d_Mo_walk_7 rfl (lv_at hl 1 rfl) ?_
    refine lv_if_lt (tgt := 35) hx hb d_Mo_walk_8 (by decide) (fun c_2 => ?_) (fun c_2 => ?_)
    · have h := h.1 c_2
      refine lv_iconst (v := (-1)) hx hb d_Mo_walk_35 (by decide) ?_
      exact hret () () (-1) _ _ _ _ rfl h hP hD hS d_Mo_walk_36
    · have h := h.2 c_2
      refine lv_iload_n hx hb d_Mo_walk_11 rfl (lv_at hl 1 rfl) ?_
      refine lv_aload_n hx hb d_Mo_walk_12 rfl (lv_at hl 0 rfl) ?_
      refine va_get (D := (dC, dI)) (ci := 6) (v := .int fu_walked) (C := R_Mo) (T := T_Mo) (N := 33) hx hb hts in_Mo hown hK hP 0 rfl rfl 23 (by decide) (hts _ w_526) (fun _ h9 => h9) rfl d_Mo_walk_13 ?_
      refine lv_icmp_ge (tgt := 35) hx hb d_Mo_walk_16 (by decide) (fun c_3 => ?_) (fun c_3 => ?_)
      · have h := h.1 c_3
        refine lv_iconst (v := (-1)) hx hb d_Mo_walk_35 (by decide) ?_
        exact hret () () (-1) _ _ _ _ rfl h hP hD hS d_Mo_walk_36
      · have h := h.2 c_3
        refine lv_aload_n hx hb d_Mo_walk_19 rfl (lv_at hl 0 rfl) ?_
        refine va_get (D := (dC, dI)) (ci := 6) (v := .ref qu_walk) (C := R_Mo) (T := T_Mo) (N := 33) hx hb hts in_Mo hown hK hP 0 rfl rfl 24 (by decide) (hts _ w_525) (fun _ h9 => h9) rfl d_Mo_walk_20 ?_
        refine lv_aload_n hx hb d_Mo_walk_23 rfl (lv_at hl 0 rfl) ?_
        refine va_get (D := (dC, dI)) (ci := 6) (v := .int fu_walked) (C := R_Mo) (T := T_Mo) (N := 33) hx hb hts in_Mo hown hK hP 0 rfl rfl 23 (by decide) (hts _ w_526) (fun _ h9 => h9) rfl d_Mo_walk_24 ?_
        refine lv_iconst (v := 1) hx hb d_Mo_walk_27 (by decide) ?_
        refine lv_isub hx hb d_Mo_walk_28 ?_
        refine lv_iload_n hx hb d_Mo_walk_29 rfl (lv_at hl 1 rfl) ?_
        refine lv_isub hx hb d_Mo_walk_30 ?_
        refine lv_topi (fun x_4 ex_4 => ?_)
        have h := h x_4 ex_4
        have hi_5 := h.1
        have h := h.2
        refine va_iald hx hb hK hP 1 0 rfl rfl hi_5 d_Mo_walk_31 ?_
        refine lv_topi (fun y_6 ey_6 => ?_)
        have h := h y_6 ey_6
        refine lv_goto (tgt := 36) hx hb d_Mo_walk_32 (by decide) ?_
        exact hret () () y_6 _ _ _ _ rfl h hP hD hS d_Mo_walk_36
abbrev W_Mo_edit (cI cC cB : ClassId) (qu : Nat) (qu_edits : Nat) (qu_text : Nat) (qu_segments : Nat) (qu_names : Nat) (qu_nameSize : Nat) (qu_bases : Nat) (qu_length : Nat) (qu_links : Nat) (qu_from : Nat) (qu_to : Nat) (qu_paths : Nat) (qu_titles : Nat) (qu_titleSize : Nat) (qu_steps : Nat) (qu_step : Nat) (qu_sideOf : Nat) (qu_within : Nat) (qu_read : Nat) (qu_cost : Nat) (qu_walk : Nat) (qu_said : Nat) (fu_size : Int32) (fu_places : Int32) (fu_reads : Int32) (fu_there : Int32) (fu_total : Int32) (fu_walked : Int32) (fu_edited : Int32) (fu_written : Int32) (fu_at : Int32) (fu_end : Int32) (fu_began : Int32) (fu_many : Int32) (au_edits : Nat → Int32) : va_W := [(qu, .inr (6, [.int fu_size, .ref qu_text, .ref qu_segments, .ref qu_names, .ref qu_nameSize, .ref qu_bases, .ref qu_length, .ref qu_links, .ref qu_from, .ref qu_to, .ref qu_paths, .ref qu_titles, .ref qu_titleSize, .ref qu_steps, .ref qu_step, .int fu_places, .ref qu_sideOf, .ref qu_within, .int fu_reads, .ref qu_read, .ref qu_cost, .int fu_there, .int fu_total, .int fu_walked, .ref qu_walk, .int fu_edited, .ref qu_edits, .int fu_written, .ref qu_said, .int fu_at, .int fu_end, .int fu_began, .int fu_many])), (qu_edits, .inl (cC, 64, .inl au_edits))]
def wp_Mo_edit (Q : Int32 → Unit → Prop) (p1 : Int32) (fu_there : Int32) (fu_edited : Int32) (au_edits : Nat → Int32) : Prop := ((fu_there = 0 → (Q (-1) ())) ∧ (¬ fu_there = 0 → (((p1 < 0 → (Q (-1) ())) ∧ (¬ p1 < 0 → (((fu_edited ≤ p1 → (Q (-1) ())) ∧ (¬ fu_edited ≤ p1 → (∀ x_4 : Int32, x_4 = (fu_edited - 1) - p1 → (vp_in x_4 64 ∧ (∀ y_6 : Int32, y_6 = au_edits x_4.toNatClampNeg → (Q y_6 ()))))))))))))
abbrev rm_Mo_edit : Room := { frames := 0, cells := 0, slots := 0, locals := 0 }
set_option maxHeartbeats 4000000 in
set_option maxRecDepth 100000 in
theorem k_Mo_edit (l : Launch) (dC : Nat → ClassId) (dI : Nat → Nat → Nat) (cI cC cB : ClassId) (sz : Nat) (qu : Nat) (qu_edits : Nat) (qu_text : Nat) (qu_segments : Nat) (qu_names : Nat) (qu_nameSize : Nat) (qu_bases : Nat) (qu_length : Nat) (qu_links : Nat) (qu_from : Nat) (qu_to : Nat) (qu_paths : Nat) (qu_titles : Nat) (qu_titleSize : Nat) (qu_steps : Nat) (qu_step : Nat) (qu_sideOf : Nat) (qu_within : Nat) (qu_read : Nat) (qu_cost : Nat) (qu_walk : Nat) (qu_said : Nat) (fu_size : Int32) (fu_places : Int32) (fu_reads : Int32) (fu_there : Int32) (fu_total : Int32) (fu_walked : Int32) (fu_edited : Int32) (fu_written : Int32) (fu_at : Int32) (fu_end : Int32) (fu_began : Int32) (fu_many : Int32) (au_edits : Nat → Int32) (p1 : Int32) {Q : Int32 → Unit → Prop} (h : wp_Mo_edit Q p1 fu_there fu_edited au_edits) :
    CTi l y_Mo_edit (wM y_Mo_edit c_Mo_edit 2 (some .int)) rm_Mo_edit 0 0 (dC, dI) (tysL cI cC cB) [.ref qu, .int p1] (W_Mo_edit cI cC cB qu qu_edits qu_text qu_segments qu_names qu_nameSize qu_bases qu_length qu_links qu_from qu_to qu_paths qu_titles qu_titleSize qu_steps qu_step qu_sideOf qu_within qu_read qu_cost qu_walk qu_said fu_size fu_places fu_reads fu_there fu_total fu_walked fu_edited fu_written fu_at fu_end fu_began fu_many au_edits) sz Q (fun (v : Unit) (b : Unit) => (W_Mo_edit cI cC cB qu qu_edits qu_text qu_segments qu_names qu_nameSize qu_bases qu_length qu_links qu_from qu_to qu_paths qu_titles qu_titleSize qu_steps qu_step qu_sideOf qu_within qu_read qu_cost qu_walk qu_said fu_size fu_places fu_reads fu_there fu_total fu_walked fu_edited fu_written fu_at fu_end fu_began fu_many au_edits)) := by
  refine CTi.std (by decide) (Nat.le_of_ble_eq_true rfl) ?_
  intro p e s m args below meth c A ls QF C0 hP hD hl hS hsz hnm hret
  obtain ⟨hx, hb, hr, hml, hown, hts, hlocks, hN, hA, hK⟩ := id C0
  have hown : s.vm.findClass R_Mo = some m.cls := hown
  have hl : lv_has ls 2 [(0, .ref qu), (1, .int p1)] := hl
  clear hsz hnm
  unfold wp_Mo_edit at h
  refine lv_aload_n hx hb d_Mo_edit_0 rfl (lv_at hl 0 rfl) ?_
  refine va_get (D := (dC, dI)) (ci := 6) (v := .int fu_there) (C := R_Mo) (T := T_Mo) (N := 33) hx hb hts in_Mo hown hK hP 0 rfl rfl 21 (by decide) (hts _ w_482) (fun _ h9 => h9) rfl d_Mo_edit_1 ?_
  refine lv_if_eq (tgt := 35) hx hb d_Mo_edit_4 (by decide) (fun c_1 => ?_) (fun c_1 => ?_)
  · have h := h.1 c_1
    refine lv_iconst (v := (-1)) hx hb d_Mo_edit_35 (by decide) ?_
    exact hret () () (-1) _ _ _ _ rfl h hP hD hS d_Mo_edit_36
  · have h := h.2 c_1
    refine lv_iload_n hx hb d_Mo_edit_7 rfl (lv_at hl 1 rfl) ?_
    refine lv_if_lt (tgt := 35) hx hb d_Mo_edit_8 (by decide) (fun c_2 => ?_) (fun c_2 => ?_)
    · have h := h.1 c_2
      refine lv_iconst (v := (-1)) hx hb d_Mo_edit_35 (by decide) ?_
      exact hret () () (-1) _ _ _ _ rfl h hP hD hS d_Mo_edit_36
    · have h := h.2 c_2
      refine lv_iload_n hx hb d_Mo_edit_11 rfl (lv_at hl 1 rfl) ?_
      refine lv_aload_n hx hb d_Mo_edit_12 rfl (lv_at hl 0 rfl) ?_
      refine va_get (D := (dC, dI)) (ci := 6) (v := .int fu_edited) (C := R_Mo) (T := T_Mo) (N := 33) hx hb hts in_Mo hown hK hP 0 rfl rfl 25 (by decide) (hts _ w_520) (fun _ h9 => h9) rfl d_Mo_edit_13 ?_
      refine lv_icmp_ge (tgt := 35) hx hb d_Mo_edit_16 (by decide) (fun c_3 => ?_) (fun c_3 => ?_)
      · have h := h.1 c_3
        refine lv_iconst (v := (-1)) hx hb d_Mo_edit_35 (by decide) ?_
        exact hret () () (-1) _ _ _ _ rfl h hP hD hS d_Mo_edit_36
      · have h := h.2 c_3
        refine lv_aload_n hx hb d_Mo_edit_19 rfl (lv_at hl 0 rfl) ?_
        refine va_get (D := (dC, dI)) (ci := 6) (v := .ref qu_edits) (C := R_Mo) (T := T_Mo) (N := 33) hx hb hts in_Mo hown hK hP 0 rfl rfl 26 (by decide) (hts _ w_519) (fun _ h9 => h9) rfl d_Mo_edit_20 ?_
        refine lv_aload_n hx hb d_Mo_edit_23 rfl (lv_at hl 0 rfl) ?_
        refine va_get (D := (dC, dI)) (ci := 6) (v := .int fu_edited) (C := R_Mo) (T := T_Mo) (N := 33) hx hb hts in_Mo hown hK hP 0 rfl rfl 25 (by decide) (hts _ w_520) (fun _ h9 => h9) rfl d_Mo_edit_24 ?_
        refine lv_iconst (v := 1) hx hb d_Mo_edit_27 (by decide) ?_
        refine lv_isub hx hb d_Mo_edit_28 ?_
        refine lv_iload_n hx hb d_Mo_edit_29 rfl (lv_at hl 1 rfl) ?_
        refine lv_isub hx hb d_Mo_edit_30 ?_
        refine lv_topi (fun x_4 ex_4 => ?_)
        have h := h x_4 ex_4
        have hi_5 := h.1
        have h := h.2
        refine va_cald hx hb hK hP 1 1 rfl rfl hi_5 d_Mo_edit_31 ?_
        refine lv_topi (fun y_6 ey_6 => ?_)
        have h := h y_6 ey_6
        refine lv_goto (tgt := 36) hx hb d_Mo_edit_32 (by decide) ?_
        exact hret () () y_6 _ _ _ _ rfl h hP hD hS d_Mo_edit_36
abbrev W_Mo_leaves (cI cC cB : ClassId) (qu : Nat) (qu_length : Nat) (qu_sideOf : Nat) (qu_within : Nat) (qu_walk : Nat) (qu_text : Nat) (qu_segments : Nat) (qu_names : Nat) (qu_nameSize : Nat) (qu_bases : Nat) (qu_links : Nat) (qu_from : Nat) (qu_to : Nat) (qu_paths : Nat) (qu_titles : Nat) (qu_titleSize : Nat) (qu_steps : Nat) (qu_step : Nat) (qu_read : Nat) (qu_cost : Nat) (qu_edits : Nat) (qu_said : Nat) (fu_size : Int32) (fu_places : Int32) (fu_reads : Int32) (fu_there : Int32) (fu_total : Int32) (fu_walked : Int32) (fu_edited : Int32) (fu_written : Int32) (fu_at : Int32) (fu_end : Int32) (fu_began : Int32) (fu_many : Int32) (au_length : Nat → Int32) (au_sideOf : Nat → Int32) (au_within : Nat → Int32) (au_walk : Nat → Int32) : va_W := [(qu, .inr (6, [.int fu_size, .ref qu_text, .ref qu_segments, .ref qu_names, .ref qu_nameSize, .ref qu_bases, .ref qu_length, .ref qu_links, .ref qu_from, .ref qu_to, .ref qu_paths, .ref qu_titles, .ref qu_titleSize, .ref qu_steps, .ref qu_step, .int fu_places, .ref qu_sideOf, .ref qu_within, .int fu_reads, .ref qu_read, .ref qu_cost, .int fu_there, .int fu_total, .int fu_walked, .ref qu_walk, .int fu_edited, .ref qu_edits, .int fu_written, .ref qu_said, .int fu_at, .int fu_end, .int fu_began, .int fu_many])), (qu_length, .inl (cI, 16, .inl au_length)), (qu_sideOf, .inl (cI, 64, .inl au_sideOf)), (qu_within, .inl (cI, 64, .inl au_within)), (qu_walk, .inl (cI, 64, .inl au_walk))]
def wp_Mo_leaves (Q : Int32 → Unit → Prop) (p1 : Int32) (fu_there : Int32) (fu_walked : Int32) (au_length : Nat → Int32) (au_sideOf : Nat → Int32) (au_within : Nat → Int32) (au_walk : Nat → Int32) : Prop := wp_Mo_walk (fun r_2 v_1 => wp_Mo_isLast (fun r_4 v_3 => (narrow .boolean (.int r_4) = .int r_4 ∧ Q r_4 ())) r_2 au_length au_sideOf au_within) p1 fu_there fu_walked au_walk
abbrev rm_Mo_leaves : Room := { frames := 1, cells := 0, slots := 0, locals := 21 }
set_option maxHeartbeats 4000000 in
set_option maxRecDepth 100000 in
theorem k_Mo_leaves (l : Launch) (dC : Nat → ClassId) (dI : Nat → Nat → Nat) (cI cC cB : ClassId) (sz : Nat) (qu : Nat) (qu_length : Nat) (qu_sideOf : Nat) (qu_within : Nat) (qu_walk : Nat) (qu_text : Nat) (qu_segments : Nat) (qu_names : Nat) (qu_nameSize : Nat) (qu_bases : Nat) (qu_links : Nat) (qu_from : Nat) (qu_to : Nat) (qu_paths : Nat) (qu_titles : Nat) (qu_titleSize : Nat) (qu_steps : Nat) (qu_step : Nat) (qu_read : Nat) (qu_cost : Nat) (qu_edits : Nat) (qu_said : Nat) (fu_size : Int32) (fu_places : Int32) (fu_reads : Int32) (fu_there : Int32) (fu_total : Int32) (fu_walked : Int32) (fu_edited : Int32) (fu_written : Int32) (fu_at : Int32) (fu_end : Int32) (fu_began : Int32) (fu_many : Int32) (au_length : Nat → Int32) (au_sideOf : Nat → Int32) (au_within : Nat → Int32) (au_walk : Nat → Int32) (p1 : Int32) {Q : Int32 → Unit → Prop} (h : wp_Mo_leaves Q p1 fu_there fu_walked au_length au_sideOf au_within au_walk) :
    CTi l y_Mo_leaves (wM y_Mo_leaves c_Mo_leaves 2 (some .boolean)) rm_Mo_leaves 0 0 (dC, dI) (tysL cI cC cB) [.ref qu, .int p1] (W_Mo_leaves cI cC cB qu qu_length qu_sideOf qu_within qu_walk qu_text qu_segments qu_names qu_nameSize qu_bases qu_links qu_from qu_to qu_paths qu_titles qu_titleSize qu_steps qu_step qu_read qu_cost qu_edits qu_said fu_size fu_places fu_reads fu_there fu_total fu_walked fu_edited fu_written fu_at fu_end fu_began fu_many au_length au_sideOf au_within au_walk) sz Q (fun (v : Unit) (b : Unit) => (W_Mo_leaves cI cC cB qu qu_length qu_sideOf qu_within qu_walk qu_text qu_segments qu_names qu_nameSize qu_bases qu_links qu_from qu_to qu_paths qu_titles qu_titleSize qu_steps qu_step qu_read qu_cost qu_edits qu_said fu_size fu_places fu_reads fu_there fu_total fu_walked fu_edited fu_written fu_at fu_end fu_began fu_many au_length au_sideOf au_within au_walk)) := by
  refine CTi.std (by decide) (Nat.le_of_ble_eq_true rfl) ?_
  intro p e s m args below meth c A ls QF C0 hP hD hl hS hsz hnm hret
  obtain ⟨hx, hb, hr, hml, hown, hts, hlocks, hN, hA, hK⟩ := id C0
  have hown : s.vm.findClass R_Mo = some m.cls := hown
  have hl : lv_has ls 2 [(0, .ref qu), (1, .int p1)] := hl
  clear hsz hnm
  unfold wp_Mo_leaves at h
  refine lv_aload_n hx hb d_Mo_leaves_0 rfl (lv_at hl 0 rfl) ?_
  refine lv_aload_n hx hb d_Mo_leaves_1 rfl (lv_at hl 0 rfl) ?_
  refine lv_iload_n hx hb d_Mo_leaves_2 rfl (lv_at hl 1 rfl) ?_
  refine call_V_i (As := [.int p1]) (rest := [.ref qu]) C0 hP hD hS [0, 4] [1, 2, 3] [3, 0, 1, 2, 4] [(qu_length, .inl (cI, 16, .inl au_length)), (qu_sideOf, .inl (cI, 64, .inl au_sideOf)), (qu_within, .inl (cI, 64, .inl au_within))] (fun (v : Unit) (b : Unit) => (W_Mo_leaves cI cC cB qu qu_length qu_sideOf qu_within qu_walk qu_text qu_segments qu_names qu_nameSize qu_bases qu_links qu_from qu_to qu_paths qu_titles qu_titleSize qu_steps qu_step qu_read qu_cost qu_edits qu_said fu_size fu_places fu_reads fu_there fu_total fu_walked fu_edited fu_written fu_at fu_end fu_began fu_many au_length au_sideOf au_within au_walk)) (ci := 6) rfl rfl (k_Mo_walk l dC dI cI cC cB _ qu qu_walk qu_text qu_segments qu_names qu_nameSize qu_bases qu_length qu_links qu_from qu_to qu_paths qu_titles qu_titleSize qu_steps qu_step qu_sideOf qu_within qu_read qu_cost qu_edits qu_said fu_size fu_places fu_reads fu_there fu_total fu_walked fu_edited fu_written fu_at fu_end fu_began fu_many au_walk p1 h) (g_V w_536 w_537 w_538 w_418 w_535) 1 rfl (by decide +kernel) rfl rfl ⟨Nat.le_of_ble_eq_true rfl, Nat.le_of_ble_eq_true rfl⟩ rfl rfl (by decide) (by decide) (by decide) (by decide) (fun _ _ => rfl) hl.1 rfl (Nat.le_of_ble_eq_true rfl) d_Mo_leaves_3 ⟨Nat.le_of_ble_eq_true rfl, Nat.le_of_ble_eq_true rfl⟩ (fun r_2 v_1 _ H locs h hP hD hS => ?_)
  have hP : va_P (dC, dI) cls (W_Mo_leaves cI cC cB qu qu_length qu_sideOf qu_within qu_walk qu_text qu_segments qu_names qu_nameSize qu_bases qu_links qu_from qu_to qu_paths qu_titles qu_titleSize qu_steps qu_step qu_read qu_cost qu_edits qu_said fu_size fu_places fu_reads fu_there fu_total fu_walked fu_edited fu_written fu_at fu_end fu_began fu_many au_length au_sideOf au_within au_walk) H := hP
  have hD : va_D A (W_Mo_leaves cI cC cB qu qu_length qu_sideOf qu_within qu_walk qu_text qu_segments qu_names qu_nameSize qu_bases qu_links qu_from qu_to qu_paths qu_titles qu_titleSize qu_steps qu_step qu_read qu_cost qu_edits qu_said fu_size fu_places fu_reads fu_there fu_total fu_walked fu_edited fu_written fu_at fu_end fu_began fu_many au_length au_sideOf au_within au_walk) := hD
  refine call_V_i (As := [.int r_2]) (rest := []) C0 hP hD hS [0, 1, 2, 3] [4] [1, 2, 3, 4, 0] [(qu_walk, .inl (cI, 64, .inl au_walk))] (fun (v : Unit) (b : Unit) => (W_Mo_leaves cI cC cB qu qu_length qu_sideOf qu_within qu_walk qu_text qu_segments qu_names qu_nameSize qu_bases qu_links qu_from qu_to qu_paths qu_titles qu_titleSize qu_steps qu_step qu_read qu_cost qu_edits qu_said fu_size fu_places fu_reads fu_there fu_total fu_walked fu_edited fu_written fu_at fu_end fu_began fu_many au_length au_sideOf au_within au_walk)) (ci := 6) rfl rfl (k_Mo_isLast l dC dI cI cC cB _ qu qu_length qu_sideOf qu_within qu_text qu_segments qu_names qu_nameSize qu_bases qu_links qu_from qu_to qu_paths qu_titles qu_titleSize qu_steps qu_step qu_read qu_cost qu_walk qu_edits qu_said fu_size fu_places fu_reads fu_there fu_total fu_walked fu_edited fu_written fu_at fu_end fu_began fu_many au_length au_sideOf au_within r_2 h) (g_V w_496 w_497 w_498 w_418 w_495) 1 rfl (by decide +kernel) rfl rfl ⟨Nat.le_of_ble_eq_true rfl, Nat.le_of_ble_eq_true rfl⟩ rfl rfl (by decide) (by decide) (by decide) (by decide) (fun _ _ => rfl) hl.1 rfl (Nat.le_of_ble_eq_true rfl) d_Mo_leaves_6 ⟨Nat.le_of_ble_eq_true rfl, Nat.le_of_ble_eq_true rfl⟩ (fun r_4 v_3 _ H locs h hP hD hS => ?_)
  have hP : va_P (dC, dI) cls (W_Mo_leaves cI cC cB qu qu_length qu_sideOf qu_within qu_walk qu_text qu_segments qu_names qu_nameSize qu_bases qu_links qu_from qu_to qu_paths qu_titles qu_titleSize qu_steps qu_step qu_read qu_cost qu_edits qu_said fu_size fu_places fu_reads fu_there fu_total fu_walked fu_edited fu_written fu_at fu_end fu_began fu_many au_length au_sideOf au_within au_walk) H := hP
  have hD : va_D A (W_Mo_leaves cI cC cB qu qu_length qu_sideOf qu_within qu_walk qu_text qu_segments qu_names qu_nameSize qu_bases qu_links qu_from qu_to qu_paths qu_titles qu_titleSize qu_steps qu_step qu_read qu_cost qu_edits qu_said fu_size fu_places fu_reads fu_there fu_total fu_walked fu_edited fu_written fu_at fu_end fu_began fu_many au_length au_sideOf au_within au_walk) := hD
  exact hret () () r_4 _ _ _ _ h.1 h.2 hP hD hS d_Mo_leaves_9
abbrev W_Mo_sides (cI cC cB : ClassId) (qu : Nat) (qu_length : Nat) (qu_sideOf : Nat) (qu_within : Nat) (qu_walk : Nat) (qu_text : Nat) (qu_segments : Nat) (qu_names : Nat) (qu_nameSize : Nat) (qu_bases : Nat) (qu_links : Nat) (qu_from : Nat) (qu_to : Nat) (qu_paths : Nat) (qu_titles : Nat) (qu_titleSize : Nat) (qu_steps : Nat) (qu_step : Nat) (qu_read : Nat) (qu_cost : Nat) (qu_edits : Nat) (qu_said : Nat) (fu_size : Int32) (fu_places : Int32) (fu_reads : Int32) (fu_there : Int32) (fu_total : Int32) (fu_walked : Int32) (fu_edited : Int32) (fu_written : Int32) (fu_at : Int32) (fu_end : Int32) (fu_began : Int32) (fu_many : Int32) (au_length : Nat → Int32) (au_sideOf : Nat → Int32) (au_within : Nat → Int32) (au_walk : Nat → Int32) : va_W := [(qu, .inr (6, [.int fu_size, .ref qu_text, .ref qu_segments, .ref qu_names, .ref qu_nameSize, .ref qu_bases, .ref qu_length, .ref qu_links, .ref qu_from, .ref qu_to, .ref qu_paths, .ref qu_titles, .ref qu_titleSize, .ref qu_steps, .ref qu_step, .int fu_places, .ref qu_sideOf, .ref qu_within, .int fu_reads, .ref qu_read, .ref qu_cost, .int fu_there, .int fu_total, .int fu_walked, .ref qu_walk, .int fu_edited, .ref qu_edits, .int fu_written, .ref qu_said, .int fu_at, .int fu_end, .int fu_began, .int fu_many])), (qu_length, .inl (cI, 16, .inl au_length)), (qu_sideOf, .inl (cI, 64, .inl au_sideOf)), (qu_within, .inl (cI, 64, .inl au_within)), (qu_walk, .inl (cI, 64, .inl au_walk))]
def w_Mo_sides_28 (Q : Int32 → Unit → Prop) (K_4 : Int32 → Int32 → Prop) (fu_there : Int32) (fu_walked : Int32) (au_length : Nat → Int32) (au_sideOf : Nat → Int32) (au_within : Nat → Int32) (au_walk : Nat → Int32) (x2 : Int32) (s0 : Int32) (s1 : Int32) : Prop := ∀ x_1 : Int32, x_1 = s0 + s1 → (∀ x2_2 : Int32, x2_2 = x2 + 1 → (K_4 x_1 x2_2))
def w_Mo_sides_4B (Q : Int32 → Unit → Prop)  (K_4 : Int32 → Int32 → Prop) (fu_there : Int32) (fu_walked : Int32) (au_length : Nat → Int32) (au_sideOf : Nat → Int32) (au_within : Nat → Int32) (au_walk : Nat → Int32) (x1 : Int32) (x2 : Int32) : Prop := ∀ x_3 : Int32, x_3 = x2 + 1 → (((fu_walked ≤ x_3 → (Q x1 ())) ∧ (¬ fu_walked ≤ x_3 → (wp_Mo_leaves (fun r_6 v_5 => ((r_6 = 0 → (w_Mo_sides_28 Q K_4 fu_there fu_walked au_length au_sideOf au_within au_walk x2 x1 0)) ∧ (¬ r_6 = 0 → (w_Mo_sides_28 Q K_4 fu_there fu_walked au_length au_sideOf au_within au_walk x2 x1 1)))) x2 fu_there fu_walked au_length au_sideOf au_within au_walk))))
def w_Mo_sides_4 (Q : Int32 → Unit → Prop)  (fu_there : Int32) (fu_walked : Int32) (au_length : Nat → Int32) (au_sideOf : Nat → Int32) (au_within : Nat → Int32) (au_walk : Nat → Int32) : Nat → Int32 → Int32 → Prop
  | 0 => fun _ _ => False
  | n + 1 => fun x1 x2 => w_Mo_sides_4B Q  (w_Mo_sides_4 Q  fu_there fu_walked au_length au_sideOf au_within au_walk n) fu_there fu_walked au_length au_sideOf au_within au_walk x1 x2
def wp_Mo_sides (Q : Int32 → Unit → Prop)  (fu_there : Int32) (fu_walked : Int32) (au_length : Nat → Int32) (au_sideOf : Nat → Int32) (au_within : Nat → Int32) (au_walk : Nat → Int32) : Prop := ∃ fu_4 : Nat, w_Mo_sides_4 Q fu_there fu_walked au_length au_sideOf au_within au_walk fu_4 1 0
abbrev rm_Mo_sides : Room := { frames := 2, cells := 0, slots := 0, locals := 42 }
set_option maxHeartbeats 4000000 in
set_option maxRecDepth 100000 in
theorem k_Mo_sides (l : Launch) (dC : Nat → ClassId) (dI : Nat → Nat → Nat) (cI cC cB : ClassId) (sz : Nat) (qu : Nat) (qu_length : Nat) (qu_sideOf : Nat) (qu_within : Nat) (qu_walk : Nat) (qu_text : Nat) (qu_segments : Nat) (qu_names : Nat) (qu_nameSize : Nat) (qu_bases : Nat) (qu_links : Nat) (qu_from : Nat) (qu_to : Nat) (qu_paths : Nat) (qu_titles : Nat) (qu_titleSize : Nat) (qu_steps : Nat) (qu_step : Nat) (qu_read : Nat) (qu_cost : Nat) (qu_edits : Nat) (qu_said : Nat) (fu_size : Int32) (fu_places : Int32) (fu_reads : Int32) (fu_there : Int32) (fu_total : Int32) (fu_walked : Int32) (fu_edited : Int32) (fu_written : Int32) (fu_at : Int32) (fu_end : Int32) (fu_began : Int32) (fu_many : Int32) (au_length : Nat → Int32) (au_sideOf : Nat → Int32) (au_within : Nat → Int32) (au_walk : Nat → Int32)  {Q : Int32 → Unit → Prop} (h : wp_Mo_sides Q  fu_there fu_walked au_length au_sideOf au_within au_walk) :
    CTi l y_Mo_sides (wM y_Mo_sides c_Mo_sides 3 (some .int)) rm_Mo_sides 0 0 (dC, dI) (tysL cI cC cB) [.ref qu] (W_Mo_sides cI cC cB qu qu_length qu_sideOf qu_within qu_walk qu_text qu_segments qu_names qu_nameSize qu_bases qu_links qu_from qu_to qu_paths qu_titles qu_titleSize qu_steps qu_step qu_read qu_cost qu_edits qu_said fu_size fu_places fu_reads fu_there fu_total fu_walked fu_edited fu_written fu_at fu_end fu_began fu_many au_length au_sideOf au_within au_walk) sz Q (fun (v : Unit) (b : Unit) => (W_Mo_sides cI cC cB qu qu_length qu_sideOf qu_within qu_walk qu_text qu_segments qu_names qu_nameSize qu_bases qu_links qu_from qu_to qu_paths qu_titles qu_titleSize qu_steps qu_step qu_read qu_cost qu_edits qu_said fu_size fu_places fu_reads fu_there fu_total fu_walked fu_edited fu_written fu_at fu_end fu_began fu_many au_length au_sideOf au_within au_walk)) := by
  refine CTi.std (by decide) (Nat.le_of_ble_eq_true rfl) ?_
  intro p e s m args below meth c A ls QF C0 hP hD hl hS hsz hnm hret
  obtain ⟨hx, hb, hr, hml, hown, hts, hlocks, hN, hA, hK⟩ := id C0
  have hown : s.vm.findClass R_Mo = some m.cls := hown
  have hl : lv_has ls 3 [(0, .ref qu)] := hl
  clear hsz hnm
  have blk_28 : ∀ (K_4 : Int32 → Int32 → Prop) (hK_4 : ∀ (x1 : Int32) (x2 : Int32)  (H : Heap) (locs : List Loc) (ls : Array Slot), K_4 x1 x2 → va_P (dC, dI) cls (W_Mo_sides cI cC cB qu qu_length qu_sideOf qu_within qu_walk qu_text qu_segments qu_names qu_nameSize qu_bases qu_links qu_from qu_to qu_paths qu_titles qu_titleSize qu_steps qu_step qu_read qu_cost qu_edits qu_said fu_size fu_places fu_reads fu_there fu_total fu_walked fu_edited fu_written fu_at fu_end fu_began fu_many au_length au_sideOf au_within au_walk) H → va_D A (W_Mo_sides cI cC cB qu qu_length qu_sideOf qu_within qu_walk qu_text qu_segments qu_names qu_nameSize qu_bases qu_links qu_from qu_to qu_paths qu_titles qu_titleSize qu_steps qu_step qu_read qu_cost qu_edits qu_said fu_size fu_places fu_reads fu_there fu_total fu_walked fu_edited fu_written fu_at fu_end fu_began fu_many au_length au_sideOf au_within au_walk) → va_S A s.heap H locs → lv_has ls 3 [(0, .ref qu), (1, .int x1), (2, .int x2)] → W p l e rm_Mo_sides s m args below meth c H locs 0 0 QF (F0 m 4 ls [])) (x2 : Int32) (s0 : Int32) (s1 : Int32)  (H : Heap) (locs : List Loc) (ls : Array Slot), w_Mo_sides_28 Q K_4 fu_there fu_walked au_length au_sideOf au_within au_walk x2 s0 s1 → va_P (dC, dI) cls (W_Mo_sides cI cC cB qu qu_length qu_sideOf qu_within qu_walk qu_text qu_segments qu_names qu_nameSize qu_bases qu_links qu_from qu_to qu_paths qu_titles qu_titleSize qu_steps qu_step qu_read qu_cost qu_edits qu_said fu_size fu_places fu_reads fu_there fu_total fu_walked fu_edited fu_written fu_at fu_end fu_began fu_many au_length au_sideOf au_within au_walk) H → va_D A (W_Mo_sides cI cC cB qu qu_length qu_sideOf qu_within qu_walk qu_text qu_segments qu_names qu_nameSize qu_bases qu_links qu_from qu_to qu_paths qu_titles qu_titleSize qu_steps qu_step qu_read qu_cost qu_edits qu_said fu_size fu_places fu_reads fu_there fu_total fu_walked fu_edited fu_written fu_at fu_end fu_began fu_many au_length au_sideOf au_within au_walk) → va_S A s.heap H locs → lv_has ls 3 [(0, .ref qu), (2, .int x2)] → W p l e rm_Mo_sides s m args below meth c H locs 0 0 QF (F0 m 28 ls [.int s1, .int s0]) := by
    intro K_4 hK_4 x2 s0 s1  H locs ls h hP hD hS hl
    unfold w_Mo_sides_28 at h
    refine lv_iadd hx hb d_Mo_sides_28 ?_
    refine lv_topi (fun x_1 ex_1 => ?_)
    have h := h x_1 ex_1
    refine lv_istore_n (lv' := [(1, .int x_1), (0, .ref qu), (2, .int x2)]) hx hb d_Mo_sides_29 rfl hl (by decide) rfl (fun ls hl => ?_)
    obtain ⟨x2_2, ex2_2⟩ : ∃ y : Int32, y = x2 + 1 := ⟨_, rfl⟩
    have h := h x2_2 ex2_2
    refine lv_iinc (v := x2_2) (lv' := [(2, .int x2_2), (1, .int x_1), (0, .ref qu)]) hx hb d_Mo_sides_30 hl (k := 2) rfl (by rw [ex2_2]; rfl) (by decide) rfl (fun ls hl => ?_)
    refine lv_goto (tgt := 4) hx hb d_Mo_sides_33 (by decide) ?_
    exact hK_4 _ _ _ _ _ h hP hD hS (lv_sub hl [2, 1, 0] rfl)
  have blk_4 : ∀  (n : Nat) (x1 : Int32) (x2 : Int32)  (H : Heap) (locs : List Loc) (ls : Array Slot), w_Mo_sides_4 Q  fu_there fu_walked au_length au_sideOf au_within au_walk n x1 x2 → va_P (dC, dI) cls (W_Mo_sides cI cC cB qu qu_length qu_sideOf qu_within qu_walk qu_text qu_segments qu_names qu_nameSize qu_bases qu_links qu_from qu_to qu_paths qu_titles qu_titleSize qu_steps qu_step qu_read qu_cost qu_edits qu_said fu_size fu_places fu_reads fu_there fu_total fu_walked fu_edited fu_written fu_at fu_end fu_began fu_many au_length au_sideOf au_within au_walk) H → va_D A (W_Mo_sides cI cC cB qu qu_length qu_sideOf qu_within qu_walk qu_text qu_segments qu_names qu_nameSize qu_bases qu_links qu_from qu_to qu_paths qu_titles qu_titleSize qu_steps qu_step qu_read qu_cost qu_edits qu_said fu_size fu_places fu_reads fu_there fu_total fu_walked fu_edited fu_written fu_at fu_end fu_began fu_many au_length au_sideOf au_within au_walk) → va_S A s.heap H locs → lv_has ls 3 [(0, .ref qu), (1, .int x1), (2, .int x2)] → W p l e rm_Mo_sides s m args below meth c H locs 0 0 QF (F0 m 4 ls []) := by
    intro  n
    induction n with
    | zero => intro x1 x2  H locs ls h; exact (show False from h).elim
    | succ n ih =>
      intro x1 x2  H locs ls h hP hD hS hl
      have h : w_Mo_sides_4B Q  (w_Mo_sides_4 Q  fu_there fu_walked au_length au_sideOf au_within au_walk n) fu_there fu_walked au_length au_sideOf au_within au_walk x1 x2 := h
      generalize w_Mo_sides_4 Q  fu_there fu_walked au_length au_sideOf au_within au_walk n = K_4 at h ih
      unfold w_Mo_sides_4B at h
      refine lv_iload_n hx hb d_Mo_sides_4 rfl (lv_at hl 2 rfl) ?_
      refine lv_iconst (v := 1) hx hb d_Mo_sides_5 (by decide) ?_
      refine lv_iadd hx hb d_Mo_sides_6 ?_
      refine lv_topi (fun x_3 ex_3 => ?_)
      have h := h x_3 ex_3
      refine lv_aload_n hx hb d_Mo_sides_7 rfl (lv_at hl 0 rfl) ?_
      refine va_get (D := (dC, dI)) (ci := 6) (v := .int fu_walked) (C := R_Mo) (T := T_Mo) (N := 33) hx hb hts in_Mo hown hK hP 0 rfl rfl 23 (by decide) (hts _ w_526) (fun _ h9 => h9) rfl d_Mo_sides_8 ?_
      refine lv_icmp_ge (tgt := 36) hx hb d_Mo_sides_11 (by decide) (fun c_4 => ?_) (fun c_4 => ?_)
      · have h := h.1 c_4
        refine lv_iload_n hx hb d_Mo_sides_36 rfl (lv_at hl 1 rfl) ?_
        exact hret () () x1 _ _ _ _ rfl h hP hD hS d_Mo_sides_37
      · have h := h.2 c_4
        refine lv_iload_n hx hb d_Mo_sides_14 rfl (lv_at hl 1 rfl) ?_
        refine lv_aload_n hx hb d_Mo_sides_15 rfl (lv_at hl 0 rfl) ?_
        refine lv_iload_n hx hb d_Mo_sides_16 rfl (lv_at hl 2 rfl) ?_
        refine call_V_i (As := [.int x2]) (rest := [.int x1]) C0 hP hD hS [0, 1, 2, 3, 4] [] [0, 1, 2, 3, 4] [] (fun (v : Unit) (b : Unit) => (W_Mo_sides cI cC cB qu qu_length qu_sideOf qu_within qu_walk qu_text qu_segments qu_names qu_nameSize qu_bases qu_links qu_from qu_to qu_paths qu_titles qu_titleSize qu_steps qu_step qu_read qu_cost qu_edits qu_said fu_size fu_places fu_reads fu_there fu_total fu_walked fu_edited fu_written fu_at fu_end fu_began fu_many au_length au_sideOf au_within au_walk)) (ci := 6) rfl rfl (k_Mo_leaves l dC dI cI cC cB _ qu qu_length qu_sideOf qu_within qu_walk qu_text qu_segments qu_names qu_nameSize qu_bases qu_links qu_from qu_to qu_paths qu_titles qu_titleSize qu_steps qu_step qu_read qu_cost qu_edits qu_said fu_size fu_places fu_reads fu_there fu_total fu_walked fu_edited fu_written fu_at fu_end fu_began fu_many au_length au_sideOf au_within au_walk x2 h) (g_V w_540 w_541 w_542 w_418 w_539) 1 rfl (by decide +kernel) rfl rfl ⟨Nat.le_of_ble_eq_true rfl, Nat.le_of_ble_eq_true rfl⟩ rfl rfl (by decide) (by decide) (by decide) (by decide) (fun _ _ => rfl) hl.1 rfl (Nat.le_of_ble_eq_true rfl) d_Mo_sides_17 ⟨Nat.le_of_ble_eq_true rfl, Nat.le_of_ble_eq_true rfl⟩ (fun r_6 v_5 _ H locs h hP hD hS => ?_)
        have hP : va_P (dC, dI) cls (W_Mo_sides cI cC cB qu qu_length qu_sideOf qu_within qu_walk qu_text qu_segments qu_names qu_nameSize qu_bases qu_links qu_from qu_to qu_paths qu_titles qu_titleSize qu_steps qu_step qu_read qu_cost qu_edits qu_said fu_size fu_places fu_reads fu_there fu_total fu_walked fu_edited fu_written fu_at fu_end fu_began fu_many au_length au_sideOf au_within au_walk) H := hP
        have hD : va_D A (W_Mo_sides cI cC cB qu qu_length qu_sideOf qu_within qu_walk qu_text qu_segments qu_names qu_nameSize qu_bases qu_links qu_from qu_to qu_paths qu_titles qu_titleSize qu_steps qu_step qu_read qu_cost qu_edits qu_said fu_size fu_places fu_reads fu_there fu_total fu_walked fu_edited fu_written fu_at fu_end fu_began fu_many au_length au_sideOf au_within au_walk) := hD
        refine lv_if_eq (tgt := 27) hx hb d_Mo_sides_20 (by decide) (fun c_7 => ?_) (fun c_7 => ?_)
        · have h := h.1 c_7
          refine lv_iconst (v := 0) hx hb d_Mo_sides_27 (by decide) ?_
          exact blk_28 _ ih _ _ _ _ _ _ h hP hD hS (lv_sub hl [0, 2] rfl)
        · have h := h.2 c_7
          refine lv_iconst (v := 1) hx hb d_Mo_sides_23 (by decide) ?_
          refine lv_goto (tgt := 28) hx hb d_Mo_sides_24 (by decide) ?_
          exact blk_28 _ ih _ _ _ _ _ _ h hP hD hS (lv_sub hl [0, 2] rfl)
  unfold wp_Mo_sides at h
  refine lv_iconst (v := 1) hx hb d_Mo_sides_0 (by decide) ?_
  refine lv_istore_n (lv' := [(1, .int 1), (0, .ref qu)]) hx hb d_Mo_sides_1 rfl hl (by decide) rfl (fun ls hl => ?_)
  refine lv_iconst (v := 0) hx hb d_Mo_sides_2 (by decide) ?_
  refine lv_istore_n (lv' := [(2, .int 0), (1, .int 1), (0, .ref qu)]) hx hb d_Mo_sides_3 rfl hl (by decide) rfl (fun ls hl => ?_)
  obtain ⟨fu_4, h⟩ := h
  exact blk_4  _ _ _ _ _ _ h hP hD hS (lv_sub hl [2, 1, 0] rfl)
abbrev W_Mo_side (cI cC cB : ClassId) (qu : Nat) (qu_length : Nat) (qu_sideOf : Nat) (qu_within : Nat) (qu_walk : Nat) (qu_text : Nat) (qu_segments : Nat) (qu_names : Nat) (qu_nameSize : Nat) (qu_bases : Nat) (qu_links : Nat) (qu_from : Nat) (qu_to : Nat) (qu_paths : Nat) (qu_titles : Nat) (qu_titleSize : Nat) (qu_steps : Nat) (qu_step : Nat) (qu_read : Nat) (qu_cost : Nat) (qu_edits : Nat) (qu_said : Nat) (fu_size : Int32) (fu_places : Int32) (fu_reads : Int32) (fu_there : Int32) (fu_total : Int32) (fu_walked : Int32) (fu_edited : Int32) (fu_written : Int32) (fu_at : Int32) (fu_end : Int32) (fu_began : Int32) (fu_many : Int32) (au_length : Nat → Int32) (au_sideOf : Nat → Int32) (au_within : Nat → Int32) (au_walk : Nat → Int32) : va_W := [(qu, .inr (6, [.int fu_size, .ref qu_text, .ref qu_segments, .ref qu_names, .ref qu_nameSize, .ref qu_bases, .ref qu_length, .ref qu_links, .ref qu_from, .ref qu_to, .ref qu_paths, .ref qu_titles, .ref qu_titleSize, .ref qu_steps, .ref qu_step, .int fu_places, .ref qu_sideOf, .ref qu_within, .int fu_reads, .ref qu_read, .ref qu_cost, .int fu_there, .int fu_total, .int fu_walked, .ref qu_walk, .int fu_edited, .ref qu_edits, .int fu_written, .ref qu_said, .int fu_at, .int fu_end, .int fu_began, .int fu_many])), (qu_length, .inl (cI, 16, .inl au_length)), (qu_sideOf, .inl (cI, 64, .inl au_sideOf)), (qu_within, .inl (cI, 64, .inl au_within)), (qu_walk, .inl (cI, 64, .inl au_walk))]
def w_Mo_side_22 (Q : Int32 → Unit → Prop) (K_4 : Int32 → Int32 → Prop) (fu_there : Int32) (fu_walked : Int32) (au_length : Nat → Int32) (au_sideOf : Nat → Int32) (au_within : Nat → Int32) (au_walk : Nat → Int32) (x3 : Int32) (s0 : Int32) (s1 : Int32) : Prop := ∀ x_1 : Int32, x_1 = s0 - s1 → (∀ x3_2 : Int32, x3_2 = x3 + 1 → (K_4 x_1 x3_2))
def w_Mo_side_4B (Q : Int32 → Unit → Prop)  (K_4 : Int32 → Int32 → Prop) (fu_there : Int32) (fu_walked : Int32) (au_length : Nat → Int32) (au_sideOf : Nat → Int32) (au_within : Nat → Int32) (au_walk : Nat → Int32) (x2 : Int32) (x3 : Int32) : Prop := ((x2 ≤ 0 → (wp_Mo_walk (fun r_5 v_4 => vp_in r_5 64 ∧ (∀ y_7 : Int32, y_7 = au_sideOf r_5.toNatClampNeg → (Q y_7 ()))) x3 fu_there fu_walked au_walk)) ∧ (¬ x2 ≤ 0 → (wp_Mo_leaves (fun r_9 v_8 => ((r_9 = 0 → (w_Mo_side_22 Q K_4 fu_there fu_walked au_length au_sideOf au_within au_walk x3 x2 0)) ∧ (¬ r_9 = 0 → (w_Mo_side_22 Q K_4 fu_there fu_walked au_length au_sideOf au_within au_walk x3 x2 1)))) x3 fu_there fu_walked au_length au_sideOf au_within au_walk)))
def w_Mo_side_4 (Q : Int32 → Unit → Prop)  (fu_there : Int32) (fu_walked : Int32) (au_length : Nat → Int32) (au_sideOf : Nat → Int32) (au_within : Nat → Int32) (au_walk : Nat → Int32) : Nat → Int32 → Int32 → Prop
  | 0 => fun _ _ => False
  | n + 1 => fun x2 x3 => w_Mo_side_4B Q  (w_Mo_side_4 Q  fu_there fu_walked au_length au_sideOf au_within au_walk n) fu_there fu_walked au_length au_sideOf au_within au_walk x2 x3
def wp_Mo_side (Q : Int32 → Unit → Prop) (p1 : Int32) (fu_there : Int32) (fu_walked : Int32) (au_length : Nat → Int32) (au_sideOf : Nat → Int32) (au_within : Nat → Int32) (au_walk : Nat → Int32) : Prop := ∃ fu_4 : Nat, w_Mo_side_4 Q fu_there fu_walked au_length au_sideOf au_within au_walk fu_4 p1 0
abbrev rm_Mo_side : Room := { frames := 2, cells := 0, slots := 0, locals := 42 }
set_option maxHeartbeats 4000000 in
set_option maxRecDepth 100000 in
theorem k_Mo_side (l : Launch) (dC : Nat → ClassId) (dI : Nat → Nat → Nat) (cI cC cB : ClassId) (sz : Nat) (qu : Nat) (qu_length : Nat) (qu_sideOf : Nat) (qu_within : Nat) (qu_walk : Nat) (qu_text : Nat) (qu_segments : Nat) (qu_names : Nat) (qu_nameSize : Nat) (qu_bases : Nat) (qu_links : Nat) (qu_from : Nat) (qu_to : Nat) (qu_paths : Nat) (qu_titles : Nat) (qu_titleSize : Nat) (qu_steps : Nat) (qu_step : Nat) (qu_read : Nat) (qu_cost : Nat) (qu_edits : Nat) (qu_said : Nat) (fu_size : Int32) (fu_places : Int32) (fu_reads : Int32) (fu_there : Int32) (fu_total : Int32) (fu_walked : Int32) (fu_edited : Int32) (fu_written : Int32) (fu_at : Int32) (fu_end : Int32) (fu_began : Int32) (fu_many : Int32) (au_length : Nat → Int32) (au_sideOf : Nat → Int32) (au_within : Nat → Int32) (au_walk : Nat → Int32) (p1 : Int32) {Q : Int32 → Unit → Prop} (h : wp_Mo_side Q p1 fu_there fu_walked au_length au_sideOf au_within au_walk) :
    CTi l y_Mo_side (wM y_Mo_side c_Mo_side 4 (some .int)) rm_Mo_side 0 0 (dC, dI) (tysL cI cC cB) [.ref qu, .int p1] (W_Mo_side cI cC cB qu qu_length qu_sideOf qu_within qu_walk qu_text qu_segments qu_names qu_nameSize qu_bases qu_links qu_from qu_to qu_paths qu_titles qu_titleSize qu_steps qu_step qu_read qu_cost qu_edits qu_said fu_size fu_places fu_reads fu_there fu_total fu_walked fu_edited fu_written fu_at fu_end fu_began fu_many au_length au_sideOf au_within au_walk) sz Q (fun (v : Unit) (b : Unit) => (W_Mo_side cI cC cB qu qu_length qu_sideOf qu_within qu_walk qu_text qu_segments qu_names qu_nameSize qu_bases qu_links qu_from qu_to qu_paths qu_titles qu_titleSize qu_steps qu_step qu_read qu_cost qu_edits qu_said fu_size fu_places fu_reads fu_there fu_total fu_walked fu_edited fu_written fu_at fu_end fu_began fu_many au_length au_sideOf au_within au_walk)) := by
  refine CTi.std (by decide) (Nat.le_of_ble_eq_true rfl) ?_
  intro p e s m args below meth c A ls QF C0 hP hD hl hS hsz hnm hret
  obtain ⟨hx, hb, hr, hml, hown, hts, hlocks, hN, hA, hK⟩ := id C0
  have hown : s.vm.findClass R_Mo = some m.cls := hown
  have hl : lv_has ls 4 [(0, .ref qu), (1, .int p1)] := hl
  clear hsz hnm
  have blk_22 : ∀ (K_4 : Int32 → Int32 → Prop) (hK_4 : ∀ (x2 : Int32) (x3 : Int32)  (H : Heap) (locs : List Loc) (ls : Array Slot), K_4 x2 x3 → va_P (dC, dI) cls (W_Mo_side cI cC cB qu qu_length qu_sideOf qu_within qu_walk qu_text qu_segments qu_names qu_nameSize qu_bases qu_links qu_from qu_to qu_paths qu_titles qu_titleSize qu_steps qu_step qu_read qu_cost qu_edits qu_said fu_size fu_places fu_reads fu_there fu_total fu_walked fu_edited fu_written fu_at fu_end fu_began fu_many au_length au_sideOf au_within au_walk) H → va_D A (W_Mo_side cI cC cB qu qu_length qu_sideOf qu_within qu_walk qu_text qu_segments qu_names qu_nameSize qu_bases qu_links qu_from qu_to qu_paths qu_titles qu_titleSize qu_steps qu_step qu_read qu_cost qu_edits qu_said fu_size fu_places fu_reads fu_there fu_total fu_walked fu_edited fu_written fu_at fu_end fu_began fu_many au_length au_sideOf au_within au_walk) → va_S A s.heap H locs → lv_has ls 4 [(0, .ref qu), (2, .int x2), (3, .int x3)] → W p l e rm_Mo_side s m args below meth c H locs 0 0 QF (F0 m 4 ls [])) (x3 : Int32) (s0 : Int32) (s1 : Int32)  (H : Heap) (locs : List Loc) (ls : Array Slot), w_Mo_side_22 Q K_4 fu_there fu_walked au_length au_sideOf au_within au_walk x3 s0 s1 → va_P (dC, dI) cls (W_Mo_side cI cC cB qu qu_length qu_sideOf qu_within qu_walk qu_text qu_segments qu_names qu_nameSize qu_bases qu_links qu_from qu_to qu_paths qu_titles qu_titleSize qu_steps qu_step qu_read qu_cost qu_edits qu_said fu_size fu_places fu_reads fu_there fu_total fu_walked fu_edited fu_written fu_at fu_end fu_began fu_many au_length au_sideOf au_within au_walk) H → va_D A (W_Mo_side cI cC cB qu qu_length qu_sideOf qu_within qu_walk qu_text qu_segments qu_names qu_nameSize qu_bases qu_links qu_from qu_to qu_paths qu_titles qu_titleSize qu_steps qu_step qu_read qu_cost qu_edits qu_said fu_size fu_places fu_reads fu_there fu_total fu_walked fu_edited fu_written fu_at fu_end fu_began fu_many au_length au_sideOf au_within au_walk) → va_S A s.heap H locs → lv_has ls 4 [(0, .ref qu), (3, .int x3)] → W p l e rm_Mo_side s m args below meth c H locs 0 0 QF (F0 m 22 ls [.int s1, .int s0]) := by
    intro K_4 hK_4 x3 s0 s1  H locs ls h hP hD hS hl
    unfold w_Mo_side_22 at h
    refine lv_isub hx hb d_Mo_side_22 ?_
    refine lv_topi (fun x_1 ex_1 => ?_)
    have h := h x_1 ex_1
    refine lv_istore_n (lv' := [(2, .int x_1), (0, .ref qu), (3, .int x3)]) hx hb d_Mo_side_23 rfl hl (by decide) rfl (fun ls hl => ?_)
    obtain ⟨x3_2, ex3_2⟩ : ∃ y : Int32, y = x3 + 1 := ⟨_, rfl⟩
    have h := h x3_2 ex3_2
    refine lv_iinc (v := x3_2) (lv' := [(3, .int x3_2), (2, .int x_1), (0, .ref qu)]) hx hb d_Mo_side_24 hl (k := 2) rfl (by rw [ex3_2]; rfl) (by decide) rfl (fun ls hl => ?_)
    refine lv_goto (tgt := 4) hx hb d_Mo_side_27 (by decide) ?_
    exact hK_4 _ _ _ _ _ h hP hD hS (lv_sub hl [2, 1, 0] rfl)
  have blk_4 : ∀  (n : Nat) (x2 : Int32) (x3 : Int32)  (H : Heap) (locs : List Loc) (ls : Array Slot), w_Mo_side_4 Q  fu_there fu_walked au_length au_sideOf au_within au_walk n x2 x3 → va_P (dC, dI) cls (W_Mo_side cI cC cB qu qu_length qu_sideOf qu_within qu_walk qu_text qu_segments qu_names qu_nameSize qu_bases qu_links qu_from qu_to qu_paths qu_titles qu_titleSize qu_steps qu_step qu_read qu_cost qu_edits qu_said fu_size fu_places fu_reads fu_there fu_total fu_walked fu_edited fu_written fu_at fu_end fu_began fu_many au_length au_sideOf au_within au_walk) H → va_D A (W_Mo_side cI cC cB qu qu_length qu_sideOf qu_within qu_walk qu_text qu_segments qu_names qu_nameSize qu_bases qu_links qu_from qu_to qu_paths qu_titles qu_titleSize qu_steps qu_step qu_read qu_cost qu_edits qu_said fu_size fu_places fu_reads fu_there fu_total fu_walked fu_edited fu_written fu_at fu_end fu_began fu_many au_length au_sideOf au_within au_walk) → va_S A s.heap H locs → lv_has ls 4 [(0, .ref qu), (2, .int x2), (3, .int x3)] → W p l e rm_Mo_side s m args below meth c H locs 0 0 QF (F0 m 4 ls []) := by
    intro  n
    induction n with
    | zero => intro x2 x3  H locs ls h; exact (show False from h).elim
    | succ n ih =>
      intro x2 x3  H locs ls h hP hD hS hl
      have h : w_Mo_side_4B Q  (w_Mo_side_4 Q  fu_there fu_walked au_length au_sideOf au_within au_walk n) fu_there fu_walked au_length au_sideOf au_within au_walk x2 x3 := h
      generalize w_Mo_side_4 Q  fu_there fu_walked au_length au_sideOf au_within au_walk n = K_4 at h ih
      unfold w_Mo_side_4B at h
      refine lv_iload_n hx hb d_Mo_side_4 rfl (lv_at hl 1 rfl) ?_
      refine lv_if_le (tgt := 30) hx hb d_Mo_side_5 (by decide) (fun c_3 => ?_) (fun c_3 => ?_)
      · have h := h.1 c_3
        refine lv_aload_n hx hb d_Mo_side_30 rfl (lv_at hl 0 rfl) ?_
        refine va_get (D := (dC, dI)) (ci := 6) (v := .ref qu_sideOf) (C := R_Mo) (T := T_Mo) (N := 33) hx hb hts in_Mo hown hK hP 0 rfl rfl 16 (by decide) (hts _ w_479) (fun _ h9 => h9) rfl d_Mo_side_31 ?_
        refine lv_aload_n hx hb d_Mo_side_34 rfl (lv_at hl 0 rfl) ?_
        refine lv_iload_n hx hb d_Mo_side_35 rfl (lv_at hl 2 rfl) ?_
        refine call_V_i (As := [.int x3]) (rest := [.ref qu_sideOf]) C0 hP hD hS [0, 4] [1, 2, 3] [3, 0, 1, 2, 4] [(qu_length, .inl (cI, 16, .inl au_length)), (qu_sideOf, .inl (cI, 64, .inl au_sideOf)), (qu_within, .inl (cI, 64, .inl au_within))] (fun (v : Unit) (b : Unit) => (W_Mo_side cI cC cB qu qu_length qu_sideOf qu_within qu_walk qu_text qu_segments qu_names qu_nameSize qu_bases qu_links qu_from qu_to qu_paths qu_titles qu_titleSize qu_steps qu_step qu_read qu_cost qu_edits qu_said fu_size fu_places fu_reads fu_there fu_total fu_walked fu_edited fu_written fu_at fu_end fu_began fu_many au_length au_sideOf au_within au_walk)) (ci := 6) rfl rfl (k_Mo_walk l dC dI cI cC cB _ qu qu_walk qu_text qu_segments qu_names qu_nameSize qu_bases qu_length qu_links qu_from qu_to qu_paths qu_titles qu_titleSize qu_steps qu_step qu_sideOf qu_within qu_read qu_cost qu_edits qu_said fu_size fu_places fu_reads fu_there fu_total fu_walked fu_edited fu_written fu_at fu_end fu_began fu_many au_walk x3 h) (g_V w_536 w_537 w_538 w_418 w_535) 1 rfl (by decide +kernel) rfl rfl ⟨Nat.le_of_ble_eq_true rfl, Nat.le_of_ble_eq_true rfl⟩ rfl rfl (by decide) (by decide) (by decide) (by decide) (fun _ _ => rfl) hl.1 rfl (Nat.le_of_ble_eq_true rfl) d_Mo_side_36 ⟨Nat.le_of_ble_eq_true rfl, Nat.le_of_ble_eq_true rfl⟩ (fun r_5 v_4 _ H locs h hP hD hS => ?_)
        have hP : va_P (dC, dI) cls (W_Mo_side cI cC cB qu qu_length qu_sideOf qu_within qu_walk qu_text qu_segments qu_names qu_nameSize qu_bases qu_links qu_from qu_to qu_paths qu_titles qu_titleSize qu_steps qu_step qu_read qu_cost qu_edits qu_said fu_size fu_places fu_reads fu_there fu_total fu_walked fu_edited fu_written fu_at fu_end fu_began fu_many au_length au_sideOf au_within au_walk) H := hP
        have hD : va_D A (W_Mo_side cI cC cB qu qu_length qu_sideOf qu_within qu_walk qu_text qu_segments qu_names qu_nameSize qu_bases qu_links qu_from qu_to qu_paths qu_titles qu_titleSize qu_steps qu_step qu_read qu_cost qu_edits qu_said fu_size fu_places fu_reads fu_there fu_total fu_walked fu_edited fu_written fu_at fu_end fu_began fu_many au_length au_sideOf au_within au_walk) := hD
        have hi_6 := h.1
        have h := h.2
        refine va_iald hx hb hK hP 2 0 rfl rfl hi_6 d_Mo_side_39 ?_
        refine lv_topi (fun y_7 ey_7 => ?_)
        have h := h y_7 ey_7
        exact hret () () y_7 _ _ _ _ rfl h hP hD hS d_Mo_side_40
      · have h := h.2 c_3
        refine lv_iload_n hx hb d_Mo_side_8 rfl (lv_at hl 1 rfl) ?_
        refine lv_aload_n hx hb d_Mo_side_9 rfl (lv_at hl 0 rfl) ?_
        refine lv_iload_n hx hb d_Mo_side_10 rfl (lv_at hl 2 rfl) ?_
        refine call_V_i (As := [.int x3]) (rest := [.int x2]) C0 hP hD hS [0, 1, 2, 3, 4] [] [0, 1, 2, 3, 4] [] (fun (v : Unit) (b : Unit) => (W_Mo_side cI cC cB qu qu_length qu_sideOf qu_within qu_walk qu_text qu_segments qu_names qu_nameSize qu_bases qu_links qu_from qu_to qu_paths qu_titles qu_titleSize qu_steps qu_step qu_read qu_cost qu_edits qu_said fu_size fu_places fu_reads fu_there fu_total fu_walked fu_edited fu_written fu_at fu_end fu_began fu_many au_length au_sideOf au_within au_walk)) (ci := 6) rfl rfl (k_Mo_leaves l dC dI cI cC cB _ qu qu_length qu_sideOf qu_within qu_walk qu_text qu_segments qu_names qu_nameSize qu_bases qu_links qu_from qu_to qu_paths qu_titles qu_titleSize qu_steps qu_step qu_read qu_cost qu_edits qu_said fu_size fu_places fu_reads fu_there fu_total fu_walked fu_edited fu_written fu_at fu_end fu_began fu_many au_length au_sideOf au_within au_walk x3 h) (g_V w_540 w_541 w_542 w_418 w_539) 1 rfl (by decide +kernel) rfl rfl ⟨Nat.le_of_ble_eq_true rfl, Nat.le_of_ble_eq_true rfl⟩ rfl rfl (by decide) (by decide) (by decide) (by decide) (fun _ _ => rfl) hl.1 rfl (Nat.le_of_ble_eq_true rfl) d_Mo_side_11 ⟨Nat.le_of_ble_eq_true rfl, Nat.le_of_ble_eq_true rfl⟩ (fun r_9 v_8 _ H locs h hP hD hS => ?_)
        have hP : va_P (dC, dI) cls (W_Mo_side cI cC cB qu qu_length qu_sideOf qu_within qu_walk qu_text qu_segments qu_names qu_nameSize qu_bases qu_links qu_from qu_to qu_paths qu_titles qu_titleSize qu_steps qu_step qu_read qu_cost qu_edits qu_said fu_size fu_places fu_reads fu_there fu_total fu_walked fu_edited fu_written fu_at fu_end fu_began fu_many au_length au_sideOf au_within au_walk) H := hP
        have hD : va_D A (W_Mo_side cI cC cB qu qu_length qu_sideOf qu_within qu_walk qu_text qu_segments qu_names qu_nameSize qu_bases qu_links qu_from qu_to qu_paths qu_titles qu_titleSize qu_steps qu_step qu_read qu_cost qu_edits qu_said fu_size fu_places fu_reads fu_there fu_total fu_walked fu_edited fu_written fu_at fu_end fu_began fu_many au_length au_sideOf au_within au_walk) := hD
        refine lv_if_eq (tgt := 21) hx hb d_Mo_side_14 (by decide) (fun c_10 => ?_) (fun c_10 => ?_)
        · have h := h.1 c_10
          refine lv_iconst (v := 0) hx hb d_Mo_side_21 (by decide) ?_
          exact blk_22 _ ih _ _ _ _ _ _ h hP hD hS (lv_sub hl [0, 2] rfl)
        · have h := h.2 c_10
          refine lv_iconst (v := 1) hx hb d_Mo_side_17 (by decide) ?_
          refine lv_goto (tgt := 22) hx hb d_Mo_side_18 (by decide) ?_
          exact blk_22 _ ih _ _ _ _ _ _ h hP hD hS (lv_sub hl [0, 2] rfl)
  unfold wp_Mo_side at h
  refine lv_iload_n hx hb d_Mo_side_0 rfl (lv_at hl 1 rfl) ?_
  refine lv_istore_n (lv' := [(2, .int p1), (0, .ref qu), (1, .int p1)]) hx hb d_Mo_side_1 rfl hl (by decide) rfl (fun ls hl => ?_)
  refine lv_iconst (v := 0) hx hb d_Mo_side_2 (by decide) ?_
  refine lv_istore_n (lv' := [(3, .int 0), (2, .int p1), (0, .ref qu), (1, .int p1)]) hx hb d_Mo_side_3 rfl hl (by decide) rfl (fun ls hl => ?_)
  obtain ⟨fu_4, h⟩ := h
  exact blk_4  _ _ _ _ _ _ h hP hD hS (lv_sub hl [2, 1, 0] rfl)
