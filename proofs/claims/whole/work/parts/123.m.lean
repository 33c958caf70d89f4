abbrev W_Mo_letter (cI cC cB : ClassId) (qu : Nat) (qu_said : Nat) (qu_text : Nat) (qu_segments : Nat) (qu_names : Nat) (qu_nameSize : Nat) (qu_bases : Nat) (qu_length : Nat) (qu_links : Nat) (qu_from : Nat) (qu_to : Nat) (qu_paths : Nat) (qu_titles : Nat) (qu_titleSize : Nat) (qu_steps : Nat) (qu_step : Nat) (qu_sideOf : Nat) (qu_within : Nat) (qu_read : Nat) (qu_cost : Nat) (qu_walk : Nat) (qu_edits : Nat) (fu_size : Int32) (fu_places : Int32) (fu_reads : Int32) (fu_there : Int32) (fu_total : Int32) (fu_walked : Int32) (fu_edited : Int32) (fu_written : Int32) (fu_at : Int32) (fu_end : Int32) (fu_began : Int32) (fu_many : Int32) (au_said : Nat → Int32) : va_W := [(qu, .inr (6, [.int fu_size, .ref qu_text, .ref qu_segments, .ref qu_names, .ref qu_nameSize, .ref qu_bases, .ref qu_length, .ref qu_links, .ref qu_from, .ref qu_to, .ref qu_paths, .ref qu_titles, .ref qu_titleSize, .ref qu_steps, .ref qu_step, .int fu_places, .ref qu_sideOf, .ref qu_within, .int fu_reads, .ref qu_read, .ref qu_cost, .int fu_there, .int fu_total, .int fu_walked, .ref qu_walk, .int fu_edited, .ref qu_edits, .int fu_written, .ref qu_said, .int fu_at, .int fu_end, .int fu_began, .int fu_many])), (qu_said, .inl (cC, 300, .inl au_said))]
def wp_Mo_letter (Q : Int32 → Unit → Prop) (p1 : Int32) (fu_written : Int32) (au_said : Nat → Int32) : Prop := ((p1 < 0 → (Q (-1) ())) ∧ (¬ p1 < 0 → (((fu_written ≤ p1 → (Q (-1) ())) ∧ (¬ fu_written ≤ p1 → (vp_in p1 300 ∧ (∀ y_4 : Int32, y_4 = au_said p1.toNatClampNeg → (Q y_4 ()))))))))
abbrev rm_Mo_letter : Room := { frames := 0, cells := 0, slots := 0, locals := 0 }
set_option maxHeartbeats 4000000 in
set_option maxRecDepth 100000 in
theorem k_Mo_letter (l : Launch) (dC : Nat → ClassId) (dI : Nat → Nat → Nat) (cI cC cB : ClassId) (sz : Nat) (qu : Nat) (qu_said : Nat) (qu_text : Nat) (qu_segments : Nat) (qu_names : Nat) (qu_nameSize : Nat) (qu_bases : Nat) (qu_length : Nat) (qu_links : Nat) (qu_from : Nat) (qu_to : Nat) (qu_paths : Nat) (qu_titles : Nat) (qu_titleSize : Nat) (qu_steps : Nat) (qu_step : Nat) (qu_sideOf : Nat) (qu_within : Nat) (qu_read : Nat) (qu_cost : Nat) (qu_walk : Nat) (qu_edits : Nat) (fu_size : Int32) (fu_places : Int32) (fu_reads : Int32) (fu_there : Int32) (fu_total : Int32) (fu_walked : Int32) (fu_edited : Int32) (fu_written : Int32) (fu_at : Int32) (fu_end : Int32) (fu_began : Int32) (fu_many : Int32) (au_said : Nat → Int32) (p1 : Int32) {Q : Int32 → Unit → Prop} (h : wp_Mo_letter Q p1 fu_written au_said) :
    CTi l y_Mo_letter (wM y_Mo_letter c_Mo_letter 2 (some .int)) rm_Mo_letter 0 0 (dC, dI) (tysL cI cC cB) [.ref qu, .int p1] (W_Mo_letter cI cC cB qu qu_said qu_text qu_segments qu_names qu_nameSize qu_bases qu_length qu_links qu_from qu_to qu_paths qu_titles qu_titleSize qu_steps qu_step qu_sideOf qu_within qu_read qu_cost qu_walk qu_edits fu_size fu_places fu_reads fu_there fu_total fu_walked fu_edited fu_written fu_at fu_end fu_began fu_many au_said) sz Q (fun (v : Unit) (b : Unit) => (W_Mo_letter cI cC cB qu qu_said qu_text qu_segments qu_names qu_nameSize qu_bases qu_length qu_links qu_from qu_to qu_paths qu_titles qu_titleSize qu_steps qu_step qu_sideOf qu_within qu_read qu_cost qu_walk qu_edits fu_size fu_places fu_reads fu_there fu_total fu_walked fu_edited fu_written fu_at fu_end fu_began fu_many au_said)) := by
  refine CTi.std (by decide) (Nat.le_of_ble_eq_true rfl) ?_
  intro p e s m args below meth c A ls QF C0 hP hD hl hS hsz hnm hret
  obtain ⟨hx, hb, hr, hml, hown, hts, hlocks, hN, hA, hK⟩ := id C0
  have hown : s.vm.findClass R_Mo = some m.cls := hown
  have hl : lv_has ls 2 [(0, .ref qu), (1, .int p1)] := hl
  clear hsz hnm
  unfold wp_Mo_letter at h
  refine lv_iload_n hx hb d_Mo_letter_0 rfl (lv_at hl 1 rfl) ?_
  refine lv_if_lt (tgt := 21) hx hb d_Mo_letter_1 (by decide) (fun c_1 => ?_) (fun c_1 => ?_)
  · have h := h.1 c_1
    refine lv_iconst (v := (-1)) hx hb d_Mo_letter_21 (by decide) ?_
    exact hret () () (-1) _ _ _ _ rfl h hP hD hS d_Mo_letter_22
  · have h := h.2 c_1
    refine lv_iload_n hx hb d_Mo_letter_4 rfl (lv_at hl 1 rfl) ?_
    refine lv_aload_n hx hb d_Mo_letter_5 rfl (lv_at hl 0 rfl) ?_
    refine va_get (D := (dC, dI)) (ci := 6) (v := .int fu_written) (C := R_Mo) (T := T_Mo) (N := 33) hx hb hts in_Mo hown hK hP 0 rfl rfl 27 (by decide) (hts _ w_552) (fun _ h9 => h9) rfl d_Mo_letter_6 ?_
    refine lv_icmp_ge (tgt := 21) hx hb d_Mo_letter_9 (by decide) (fun c_2 => ?_) (fun c_2 => ?_)
    · have h := h.1 c_2
      refine lv_iconst (v := (-1)) hx hb d_Mo_letter_21 (by decide) ?_
      exact hret () () (-1) _ _ _ _ rfl h hP hD hS d_Mo_letter_22
    · have h := h.2 c_2
      refine lv_aload_n hx hb d_Mo_letter_12 rfl (lv_at hl 0 rfl) ?_
      refine va_get (D := (dC, dI)) (ci := 6) (v := .ref qu_said) (C := R_Mo) (T := T_Mo) (N := 33) hx hb hts in_Mo hown hK hP 0 rfl rfl 28 (by decide) (hts _ w_551) (fun _ h9 => h9) rfl d_Mo_letter_13 ?_
      refine lv_iload_n hx hb d_Mo_letter_16 rfl (lv_at hl 1 rfl) ?_
      have hi_3 := h.1
      have h := h.2
      refine va_cald hx hb hK hP 1 1 rfl rfl hi_3 d_Mo_letter_17 ?_
      refine lv_topi (fun y_4 ey_4 => ?_)
      have h := h y_4 ey_4
      refine lv_goto (tgt := 22) hx hb d_Mo_letter_18 (by decide) ?_
      exact hret () () y_4 _ _ _ _ rfl h hP hD hS d_Mo_letter_22
