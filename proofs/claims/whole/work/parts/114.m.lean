abbrev W_Mo_change (cI cC cB : ClassId) (qu : Nat) (qu_bases : Nat) (qu_length : Nat) (qu_sideOf : Nat) (qu_within : Nat) (qu_read : Nat) (qu_text : Nat) (qu_segments : Nat) (qu_names : Nat) (qu_nameSize : Nat) (qu_links : Nat) (qu_from : Nat) (qu_to : Nat) (qu_paths : Nat) (qu_titles : Nat) (qu_titleSize : Nat) (qu_steps : Nat) (qu_step : Nat) (qu_cost : Nat) (qu_walk : Nat) (qu_edits : Nat) (qu_said : Nat) (fu_size : Int32) (fu_places : Int32) (fu_reads : Int32) (fu_there : Int32) (fu_total : Int32) (fu_walked : Int32) (fu_edited : Int32) (fu_written : Int32) (fu_at : Int32) (fu_end : Int32) (fu_began : Int32) (fu_many : Int32) (au_bases : Nat → Int32) (au_length : Nat → Int32) (au_sideOf : Nat → Int32) (au_within : Nat → Int32) (au_read : Nat → Int32) : va_W := [(qu, .inr (6, [.int fu_size, .ref qu_text, .ref qu_segments, .ref qu_names, .ref qu_nameSize, .ref qu_bases, .ref qu_length, .ref qu_links, .ref qu_from, .ref qu_to, .ref qu_paths, .ref qu_titles, .ref qu_titleSize, .ref qu_steps, .ref qu_step, .int fu_places, .ref qu_sideOf, .ref qu_within, .int fu_reads, .ref qu_read, .ref qu_cost, .int fu_there, .int fu_total, .int fu_walked, .ref qu_walk, .int fu_edited, .ref qu_edits, .int fu_written, .ref qu_said, .int fu_at, .int fu_end, .int fu_began, .int fu_many])), (qu_bases, .inl (cC, 64, .inl au_bases)), (qu_length, .inl (cI, 16, .inl au_length)), (qu_sideOf, .inl (cI, 64, .inl au_sideOf)), (qu_within, .inl (cI, 64, .inl au_within)), (qu_read, .inl (cC, 12, .inl au_read))]
def wp_Mo_change (Q : Int32 → Unit → Prop) (p1 : Int32) (p2 : Int32) (au_bases : Nat → Int32) (au_length : Nat → Int32) (au_sideOf : Nat → Int32) (au_within : Nat → Int32) (au_read : Nat → Int32) : Prop := ∀ x_1 : Int32, x_1 = p1 - 1 → (vp_in x_1 12 ∧ (∀ y_3 : Int32, y_3 = au_read x_1.toNatClampNeg → (wp_Mo_baseOf (fun r_5 v_4 => ((y_3 = r_5 → (Q 0 ())) ∧ (¬ y_3 = r_5 → (Q 1 ())))) p2 au_bases au_length au_sideOf au_within)))
abbrev rm_Mo_change : Room := { frames := 1, cells := 0, slots := 0, locals := 23 }
set_option maxHeartbeats 4000000 in
set_option maxRecDepth 100000 in
theorem k_Mo_change (l : Launch) (dC : Nat → ClassId) (dI : Nat → Nat → Nat) (cI cC cB : ClassId) (sz : Nat) (qu : Nat) (qu_bases : Nat) (qu_length : Nat) (qu_sideOf : Nat) (qu_within : Nat) (qu_read : Nat) (qu_text : Nat) (qu_segments : Nat) (qu_names : Nat) (qu_nameSize : Nat) (qu_links : Nat) (qu_from : Nat) (qu_to : Nat) (qu_paths : Nat) (qu_titles : Nat) (qu_titleSize : Nat) (qu_steps : Nat) (qu_step : Nat) (qu_cost : Nat) (qu_walk : Nat) (qu_edits : Nat) (qu_said : Nat) (fu_size : Int32) (fu_places : Int32) (fu_reads : Int32) (fu_there : Int32) (fu_total : Int32) (fu_walked : Int32) (fu_edited : Int32) (fu_written : Int32) (fu_at : Int32) (fu_end : Int32) (fu_began : Int32) (fu_many : Int32) (au_bases : Nat → Int32) (au_length : Nat → Int32) (au_sideOf : Nat → Int32) (au_within : Nat → Int32) (au_read : Nat → Int32) (p1 : Int32) (p2 : Int32) {Q : Int32 → Unit → Prop} (h : wp_Mo_change Q p1 p2 au_bases au_length au_sideOf au_within au_read) :
    CTi l y_Mo_change (wM y_Mo_change c_Mo_change 3 (some .int)) rm_Mo_change 0 0 (dC, dI) (tysL cI cC cB) [.ref qu, .int p1, .int p2] (W_Mo_change cI cC cB qu qu_bases qu_length qu_sideOf qu_within qu_read qu_text qu_segments qu_names qu_nameSize qu_links qu_from qu_to qu_paths qu_titles qu_titleSize qu_steps qu_step qu_cost qu_walk qu_edits qu_said fu_size fu_places fu_reads fu_there fu_total fu_walked fu_edited fu_written fu_at fu_end fu_began fu_many au_bases au_length au_sideOf au_within au_read) sz Q (fun (v : Unit) (b : Unit) => (W_Mo_change cI cC cB qu qu_bases qu_length qu_sideOf qu_within qu_read qu_text qu_segments qu_names qu_nameSize qu_links qu_from qu_to qu_paths qu_titles qu_titleSize qu_steps qu_step qu_cost qu_walk qu_edits qu_said fu_size fu_places fu_reads fu_there fu_total fu_walked fu_edited fu_written fu_at fu_end fu_began fu_many au_bases au_length au_sideOf au_within au_read)) := by
  refine CTi.std (by decide) (Nat.le_of_ble_eq_true rfl) ?_
  intro p e s m args below meth c A ls QF C0 hP hD hl hS hsz hnm hret
  obtain ⟨hx, hb, hr, hml, hown, hts, hlocks, hN, hA, hK⟩ := id C0
  have hown : s.vm.findClass R_Mo = some m.cls := hown
  have hl : lv_has ls 3 [(0, .ref qu), (1, .int p1), (2, .int p2)] := hl
  clear hsz hnm
  unfold wp_Mo_change at h
  refine lv_aload_n hx hb d_Mo_change_0 rfl (lv_at hl 0 rfl) ?_
  refine va_get (D := (dC, dI)) (ci := 6) (v := .ref qu_read) (C := R_Mo) (T := T_Mo) (N := 33) hx hb hts in_Mo hown hK hP 0 rfl rfl 19 (by decide) (hts _ w_504) (fun _ h9 => h9) rfl d_Mo_change_1 ?_
  refine lv_iload_n hx hb d_Mo_change_4 rfl (lv_at hl 1 rfl) ?_
  refine lv_iconst (v := 1) hx hb d_Mo_change_5 (by decide) ?_
  refine lv_isub hx hb d_Mo_change_6 ?_
  refine lv_topi (fun x_1 ex_1 => ?_)
  have h := h x_1 ex_1
  have hi_2 := h.1
  have h := h.2
  refine va_cald hx hb hK hP 5 1 rfl rfl hi_2 d_Mo_change_7 ?_
  refine lv_topi (fun y_3 ey_3 => ?_)
  have h := h y_3 ey_3
  refine lv_aload_n hx hb d_Mo_change_8 rfl (lv_at hl 0 rfl) ?_
  refine lv_iload_n hx hb d_Mo_change_9 rfl (lv_at hl 2 rfl) ?_
  refine call_V_i (As := [.int p2]) (rest := [.int y_3]) C0 hP hD hS [0, 1, 2, 3, 4] [5] [1, 2, 3, 4, 5, 0] [(qu_read, .inl (cC, 12, .inl au_read))] (fun (v : Unit) (b : Unit) => (W_Mo_change cI cC cB qu qu_bases qu_length qu_sideOf qu_within qu_read qu_text qu_segments qu_names qu_nameSize qu_links qu_from qu_to qu_paths qu_titles qu_titleSize qu_steps qu_step qu_cost qu_walk qu_edits qu_said fu_size fu_places fu_reads fu_there fu_total fu_walked fu_edited fu_written fu_at fu_end fu_began fu_many au_bases au_length au_sideOf au_within au_read)) (ci := 6) rfl rfl (k_Mo_baseOf l dC dI cI cC cB _ qu qu_bases qu_length qu_sideOf qu_within qu_text qu_segments qu_names qu_nameSize qu_links qu_from qu_to qu_paths qu_titles qu_titleSize qu_steps qu_step qu_read qu_cost qu_walk qu_edits qu_said fu_size fu_places fu_reads fu_there fu_total fu_walked fu_edited fu_written fu_at fu_end fu_began fu_many au_bases au_length au_sideOf au_within p2 h) (g_V w_488 w_489 w_490 w_418 w_487) 1 rfl (by decide +kernel) rfl rfl ⟨Nat.le_of_ble_eq_true rfl, Nat.le_of_ble_eq_true rfl⟩ rfl rfl (by decide) (by decide) (by decide) (by decide) (fun _ _ => rfl) hl.1 rfl (Nat.le_of_ble_eq_true rfl) d_Mo_change_10 ⟨Nat.le_of_ble_eq_true rfl, Nat.le_of_ble_eq_true rfl⟩ (fun r_5 v_4 _ H locs h hP hD hS => ?_)
  have hP : va_P (dC, dI) cls (W_Mo_change cI cC cB qu qu_bases qu_length qu_sideOf qu_within qu_read qu_text qu_segments qu_names qu_nameSize qu_links qu_from qu_to qu_paths qu_titles qu_titleSize qu_steps qu_step qu_cost qu_walk qu_edits qu_said fu_size fu_places fu_reads fu_there fu_total fu_walked fu_edited fu_written fu_at fu_end fu_began fu_many au_bases au_length au_sideOf au_within au_read) H := hP
  have hD : va_D A (W_Mo_change cI cC cB qu qu_bases qu_length qu_sideOf qu_within qu_read qu_text qu_segments qu_names qu_nameSize qu_links qu_from qu_to qu_paths qu_titles qu_titleSize qu_steps qu_step qu_cost qu_walk qu_edits qu_said fu_size fu_places fu_reads fu_there fu_total fu_walked fu_edited fu_written fu_at fu_end fu_began fu_many au_bases au_length au_sideOf au_within au_read) := hD
  refine lv_icmp_ne (tgt := 20) hx hb d_Mo_change_13 (by decide) (fun c_6 => ?_) (fun c_6 => ?_)
  · have h := h.2 c_6
    refine lv_iconst (v := 1) hx hb d_Mo_change_20 (by decide) ?_
    exact hret () () 1 _ _ _ _ rfl h hP hD hS d_Mo_change_21
  · have h := h.1 c_6
    refine lv_iconst (v := 0) hx hb d_Mo_change_16 (by decide) ?_
    refine lv_goto (tgt := 21) hx hb d_Mo_change_17 (by decide) ?_
    exact hret () () 0 _ _ _ _ rfl h hP hD hS d_Mo_change_21
