abbrev W_Mo_line (cI cC cB : ClassId) (qu : Nat) (qu_text : Nat) (qu_segments : Nat) (qu_names : Nat) (qu_nameSize : Nat) (qu_bases : Nat) (qu_length : Nat) (qu_links : Nat) (qu_from : Nat) (qu_to : Nat) (qu_paths : Nat) (qu_titles : Nat) (qu_titleSize : Nat) (qu_steps : Nat) (qu_step : Nat) (qu_sideOf : Nat) (qu_within : Nat) (qu_read : Nat) (qu_cost : Nat) (qu_walk : Nat) (qu_edits : Nat) (qu_said : Nat) (fu_size : Int32) (fu_places : Int32) (fu_reads : Int32) (fu_there : Int32) (fu_total : Int32) (fu_walked : Int32) (fu_edited : Int32) (fu_written : Int32) (fu_at : Int32) (fu_end : Int32) (fu_began : Int32) (fu_many : Int32) (au_text : Nat → Int32) (au_segments : Nat → Int32) (au_names : Nat → Int32) (au_nameSize : Nat → Int32) (au_bases : Nat → Int32) (au_length : Nat → Int32) (au_links : Nat → Int32) (au_from : Nat → Int32) (au_to : Nat → Int32) (au_paths : Nat → Int32) (au_titles : Nat → Int32) (au_titleSize : Nat → Int32) (au_steps : Nat → Int32) (au_step : Nat → Int32) : va_W := [(qu, .inr (6, [.int fu_size, .ref qu_text, .ref qu_segments, .ref qu_names, .ref qu_nameSize, .ref qu_bases, .ref qu_length, .ref qu_links, .ref qu_from, .ref qu_to, .ref qu_paths, .ref qu_titles, .ref qu_titleSize, .ref qu_steps, .ref qu_step, .int fu_places, .ref qu_sideOf, .ref qu_within, .int fu_reads, .ref qu_read, .ref qu_cost, .int fu_there, .int fu_total, .int fu_walked, .ref qu_walk, .int fu_edited, .ref qu_edits, .int fu_written, .ref qu_said, .int fu_at, .int fu_end, .int fu_began, .int fu_many])), (qu_text, .inl (cC, 400, .inl au_text)), (qu_segments, .inl (cI, 2, .inl au_segments)), (qu_names, .inl (cC, 48, .inl au_names)), (qu_nameSize, .inl (cI, 16, .inl au_nameSize)), (qu_bases, .inl (cC, 64, .inl au_bases)), (qu_length, .inl (cI, 16, .inl au_length)), (qu_links, .inl (cI, 2, .inl au_links)), (qu_from, .inl (cI, 24, .inl au_from)), (qu_to, .inl (cI, 24, .inl au_to)), (qu_paths, .inl (cI, 2, .inl au_paths)), (qu_titles, .inl (cC, 24, .inl au_titles)), (qu_titleSize, .inl (cI, 8, .inl au_titleSize)), (qu_steps, .inl (cI, 8, .inl au_steps)), (qu_step, .inl (cI, 64, .inl au_step))]
def w_Mo_line_68 (Q : Int32 → (Int32 × Int32 × Int32 × (Nat → Int32) × (Nat → Int32) × (Nat → Int32) × (Nat → Int32) × (Nat → Int32) × (Nat → Int32) × (Nat → Int32) × (Nat → Int32) × (Nat → Int32) × (Nat → Int32) × (Nat → Int32) × (Nat → Int32) × (Nat → Int32)) → Prop)  (fu_end : Int32) (au_text : Nat → Int32) (fu_at : Int32) (fu_began : Int32) (fu_many : Int32) (au_segments : Nat → Int32) (au_names : Nat → Int32) (au_nameSize : Nat → Int32) (au_bases : Nat → Int32) (au_length : Nat → Int32) (au_links : Nat → Int32) (au_from : Nat → Int32) (au_to : Nat → Int32) (au_paths : Nat → Int32) (au_titles : Nat → Int32) (au_titleSize : Nat → Int32) (au_steps : Nat → Int32) (au_step : Nat → Int32) : Prop := Q 1 (fu_at, fu_began, fu_many, au_segments, au_names, au_nameSize, au_bases, au_length, au_links, au_from, au_to, au_paths, au_titles, au_titleSize, au_steps, au_step)
def w_Mo_line_55 (Q : Int32 → (Int32 × Int32 × Int32 × (Nat → Int32) × (Nat → Int32) × (Nat → Int32) × (Nat → Int32) × (Nat → Int32) × (Nat → Int32) × (Nat → Int32) × (Nat → Int32) × (Nat → Int32) × (Nat → Int32) × (Nat → Int32) × (Nat → Int32) × (Nat → Int32)) → Prop)  (fu_end : Int32) (au_text : Nat → Int32) (x1 : Int32) (fu_at : Int32) (fu_began : Int32) (fu_many : Int32) (au_segments : Nat → Int32) (au_names : Nat → Int32) (au_nameSize : Nat → Int32) (au_bases : Nat → Int32) (au_length : Nat → Int32) (au_links : Nat → Int32) (au_from : Nat → Int32) (au_to : Nat → Int32) (au_paths : Nat → Int32) (au_titles : Nat → Int32) (au_titleSize : Nat → Int32) (au_steps : Nat → Int32) (au_step : Nat → Int32) : Prop := ((x1 = 80 → (wp_Mo_pathLine (fun r_3 v_2 => ((r_3 = 0 → (Q 0 (v_2.1, v_2.2.1, v_2.2.2.1, au_segments, au_names, au_nameSize, au_bases, au_length, au_links, au_from, au_to, v_2.2.2.2.1, v_2.2.2.2.2.1, v_2.2.2.2.2.2.1, v_2.2.2.2.2.2.2.1, v_2.2.2.2.2.2.2.2))) ∧ (¬ r_3 = 0 → (w_Mo_line_68 Q fu_end au_text v_2.1 v_2.2.1 v_2.2.2.1 au_segments au_names au_nameSize au_bases au_length au_links au_from au_to v_2.2.2.2.1 v_2.2.2.2.2.1 v_2.2.2.2.2.2.1 v_2.2.2.2.2.2.2.1 v_2.2.2.2.2.2.2.2)))) fu_at fu_end fu_began fu_many au_text au_segments au_names au_nameSize au_links au_from au_to au_paths au_titles au_titleSize au_steps au_step)) ∧ (¬ x1 = 80 → (Q 0 (fu_at, fu_began, fu_many, au_segments, au_names, au_nameSize, au_bases, au_length, au_links, au_from, au_to, au_paths, au_titles, au_titleSize, au_steps, au_step))))
def w_Mo_line_42 (Q : Int32 → (Int32 × Int32 × Int32 × (Nat → Int32) × (Nat → Int32) × (Nat → Int32) × (Nat → Int32) × (Nat → Int32) × (Nat → Int32) × (Nat → Int32) × (Nat → Int32) × (Nat → Int32) × (Nat → Int32) × (Nat → Int32) × (Nat → Int32) × (Nat → Int32)) → Prop)  (fu_end : Int32) (au_text : Nat → Int32) (x1 : Int32) (fu_at : Int32) (fu_began : Int32) (fu_many : Int32) (au_segments : Nat → Int32) (au_names : Nat → Int32) (au_nameSize : Nat → Int32) (au_bases : Nat → Int32) (au_length : Nat → Int32) (au_links : Nat → Int32) (au_from : Nat → Int32) (au_to : Nat → Int32) (au_paths : Nat → Int32) (au_titles : Nat → Int32) (au_titleSize : Nat → Int32) (au_steps : Nat → Int32) (au_step : Nat → Int32) : Prop := ((x1 = 76 → (wp_Mo_linkLine (fun r_7 v_6 => ((r_7 = 0 → (w_Mo_line_55 Q fu_end au_text x1 v_6.1 v_6.2.1 v_6.2.2.1 au_segments au_names au_nameSize au_bases au_length v_6.2.2.2.1 v_6.2.2.2.2.1 v_6.2.2.2.2.2 au_paths au_titles au_titleSize au_steps au_step)) ∧ (¬ r_7 = 0 → (w_Mo_line_68 Q fu_end au_text v_6.1 v_6.2.1 v_6.2.2.1 au_segments au_names au_nameSize au_bases au_length v_6.2.2.2.1 v_6.2.2.2.2.1 v_6.2.2.2.2.2 au_paths au_titles au_titleSize au_steps au_step)))) fu_at fu_end fu_began fu_many au_text au_segments au_names au_nameSize au_links au_from au_to)) ∧ (¬ x1 = 76 → (w_Mo_line_55 Q fu_end au_text x1 fu_at fu_began fu_many au_segments au_names au_nameSize au_bases au_length au_links au_from au_to au_paths au_titles au_titleSize au_steps au_step)))
def wp_Mo_line (Q : Int32 → (Int32 × Int32 × Int32 × (Nat → Int32) × (Nat → Int32) × (Nat → Int32) × (Nat → Int32) × (Nat → Int32) × (Nat → Int32) × (Nat → Int32) × (Nat → Int32) × (Nat → Int32) × (Nat → Int32) × (Nat → Int32) × (Nat → Int32) × (Nat → Int32)) → Prop)  (fu_at : Int32) (fu_end : Int32) (fu_began : Int32) (fu_many : Int32) (au_text : Nat → Int32) (au_segments : Nat → Int32) (au_names : Nat → Int32) (au_nameSize : Nat → Int32) (au_bases : Nat → Int32) (au_length : Nat → Int32) (au_links : Nat → Int32) (au_from : Nat → Int32) (au_to : Nat → Int32) (au_paths : Nat → Int32) (au_titles : Nat → Int32) (au_titleSize : Nat → Int32) (au_steps : Nat → Int32) (au_step : Nat → Int32) : Prop := ((fu_at < fu_end → (vp_in fu_at 400 ∧ (∀ y_11 : Int32, y_11 = au_text fu_at.toNatClampNeg → (((y_11 = 72 → (w_Mo_line_68 Q fu_end au_text fu_at fu_began fu_many au_segments au_names au_nameSize au_bases au_length au_links au_from au_to au_paths au_titles au_titleSize au_steps au_step)) ∧ (¬ y_11 = 72 → (((y_11 = 83 → (wp_Mo_segmentLine (fun r_15 v_14 => ((r_15 = 0 → (w_Mo_line_42 Q fu_end au_text y_11 v_14.1 v_14.2.1 v_14.2.2.1 v_14.2.2.2.1 v_14.2.2.2.2.1 v_14.2.2.2.2.2.1 v_14.2.2.2.2.2.2.1 v_14.2.2.2.2.2.2.2 au_links au_from au_to au_paths au_titles au_titleSize au_steps au_step)) ∧ (¬ r_15 = 0 → (w_Mo_line_68 Q fu_end au_text v_14.1 v_14.2.1 v_14.2.2.1 v_14.2.2.2.1 v_14.2.2.2.2.1 v_14.2.2.2.2.2.1 v_14.2.2.2.2.2.2.1 v_14.2.2.2.2.2.2.2 au_links au_from au_to au_paths au_titles au_titleSize au_steps au_step)))) fu_at fu_end fu_began fu_many au_text au_segments au_names au_nameSize au_bases au_length)) ∧ (¬ y_11 = 83 → (w_Mo_line_42 Q fu_end au_text y_11 fu_at fu_began fu_many au_segments au_names au_nameSize au_bases au_length au_links au_from au_to au_paths au_titles au_titleSize au_steps au_step)))))))))) ∧ (¬ fu_at < fu_end → (Q 0 (fu_at, fu_began, fu_many, au_segments, au_names, au_nameSize, au_bases, au_length, au_links, au_from, au_to, au_paths, au_titles, au_titleSize, au_steps, au_step))))
abbrev rm_Mo_line : Room := { frames := 4, cells := 0, slots := 0, locals := 91 }
set_option maxHeartbeats 4000000 in
set_option maxRecDepth 100000 in
theorem k_Mo_line (l : Launch) (dC : Nat → ClassId) (dI : Nat → Nat → Nat) (cI cC cB : ClassId) (sz : Nat) (qu : Nat) (qu_text : Nat) (qu_segments : Nat) (qu_names : Nat) (qu_nameSize : Nat) (qu_bases : Nat) (qu_length : Nat) (qu_links : Nat) (qu_from : Nat) (qu_to : Nat) (qu_paths : Nat) (qu_titles : Nat) (qu_titleSize : Nat) (qu_steps : Nat) (qu_step : Nat) (qu_sideOf : Nat) (qu_within : Nat) (qu_read : Nat) (qu_cost : Nat) (qu_walk : Nat) (qu_edits : Nat) (qu_said : Nat) (fu_size : Int32) (fu_places : Int32) (fu_reads : Int32) (fu_there : Int32) (fu_total : Int32) (fu_walked : Int32) (fu_edited : Int32) (fu_written : Int32) (fu_at : Int32) (fu_end : Int32) (fu_began : Int32) (fu_many : Int32) (au_text : Nat → Int32) (au_segments : Nat → Int32) (au_names : Nat → Int32) (au_nameSize : Nat → Int32) (au_bases : Nat → Int32) (au_length : Nat → Int32) (au_links : Nat → Int32) (au_from : Nat → Int32) (au_to : Nat → Int32) (au_paths : Nat → Int32) (au_titles : Nat → Int32) (au_titleSize : Nat → Int32) (au_steps : Nat → Int32) (au_step : Nat → Int32)  {Q : Int32 → (Int32 × Int32 × Int32 × (Nat → Int32) × (Nat → Int32) × (Nat → Int32) × (Nat → Int32) × (Nat → Int32) × (Nat → Int32) × (Nat → Int32) × (Nat → Int32) × (Nat → Int32) × (Nat → Int32) × (Nat → Int32) × (Nat → Int32) × (Nat → Int32)) → Prop} (h : wp_Mo_line Q  fu_at fu_end fu_began fu_many au_text au_segments au_names au_nameSize au_bases au_length au_links au_from au_to au_paths au_titles au_titleSize au_steps au_step) :
    CTi l y_Mo_line (wM y_Mo_line c_Mo_line 2 (some .boolean)) rm_Mo_line 0 0 (dC, dI) (tysL cI cC cB) [.ref qu] (W_Mo_line cI cC cB qu qu_text qu_segments qu_names qu_nameSize qu_bases qu_length qu_links qu_from qu_to qu_paths qu_titles qu_titleSize qu_steps qu_step qu_sideOf qu_within qu_read qu_cost qu_walk qu_edits qu_said fu_size fu_places fu_reads fu_there fu_total fu_walked fu_edited fu_written fu_at fu_end fu_began fu_many au_text au_segments au_names au_nameSize au_bases au_length au_links au_from au_to au_paths au_titles au_titleSize au_steps au_step) sz Q (fun (v : Int32 × Int32 × Int32 × (Nat → Int32) × (Nat → Int32) × (Nat → Int32) × (Nat → Int32) × (Nat → Int32) × (Nat → Int32) × (Nat → Int32) × (Nat → Int32) × (Nat → Int32) × (Nat → Int32) × (Nat → Int32) × (Nat → Int32) × (Nat → Int32)) (b : Unit) => (W_Mo_line cI cC cB qu qu_text qu_segments qu_names qu_nameSize qu_bases qu_length qu_links qu_from qu_to qu_paths qu_titles qu_titleSize qu_steps qu_step qu_sideOf qu_within qu_read qu_cost qu_walk qu_edits qu_said fu_size fu_places fu_reads fu_there fu_total fu_walked fu_edited fu_written v.1 fu_end v.2.1 v.2.2.1 au_text v.2.2.2.1 v.2.2.2.2.1 v.2.2.2.2.2.1 v.2.2.2.2.2.2.1 v.2.2.2.2.2.2.2.1 v.2.2.2.2.2.2.2.2.1 v.2.2.2.2.2.2.2.2.2.1 v.2.2.2.2.2.2.2.2.2.2.1 v.2.2.2.2.2.2.2.2.2.2.2.1 v.2.2.2.2.2.2.2.2.2.2.2.2.1 v.2.2.2.2.2.2.2.2.2.2.2.2.2.1 v.2.2.2.2.2.2.2.2.2.2.2.2.2.2.1 v.2.2.2.2.2.2.2.2.2.2.2.2.2.2.2)) := by
  refine CTi.std (by decide) (Nat.le_of_ble_eq_true rfl) ?_
  intro p e s m args below meth c A ls QF C0 hP hD hl hS hsz hnm hret
  obtain ⟨hx, hb, hr, hml, hown, hts, hlocks, hN, hA, hK⟩ := id C0
  have hown : s.vm.findClass R_Mo = some m.cls := hown
  have hl : lv_has ls 2 [(0, .ref qu)] := hl
  clear hsz hnm
  have blk_68 : ∀  (fu_at : Int32) (fu_began : Int32) (fu_many : Int32) (au_segments : Nat → Int32) (au_names : Nat → Int32) (au_nameSize : Nat → Int32) (au_bases : Nat → Int32) (au_length : Nat → Int32) (au_links : Nat → Int32) (au_from : Nat → Int32) (au_to : Nat → Int32) (au_paths : Nat → Int32) (au_titles : Nat → Int32) (au_titleSize : Nat → Int32) (au_steps : Nat → Int32) (au_step : Nat → Int32)  (H : Heap) (locs : List Loc) (ls : Array Slot), w_Mo_line_68 Q  fu_end au_text fu_at fu_began fu_many au_segments au_names au_nameSize au_bases au_length au_links au_from au_to au_paths au_titles au_titleSize au_steps au_step → va_P (dC, dI) cls (W_Mo_line cI cC cB qu qu_text qu_segments qu_names qu_nameSize qu_bases qu_length qu_links qu_from qu_to qu_paths qu_titles qu_titleSize qu_steps qu_step qu_sideOf qu_within qu_read qu_cost qu_walk qu_edits qu_said fu_size fu_places fu_reads fu_there fu_total fu_walked fu_edited fu_written fu_at fu_end fu_began fu_many au_text au_segments au_names au_nameSize au_bases au_length au_links au_from au_to au_paths au_titles au_titleSize au_steps au_step) H → va_D A (W_Mo_line cI cC cB qu qu_text qu_segments qu_names qu_nameSize qu_bases qu_length qu_links qu_from qu_to qu_paths qu_titles qu_titleSize qu_steps qu_step qu_sideOf qu_within qu_read qu_cost qu_walk qu_edits qu_said fu_size fu_places fu_reads fu_there fu_total fu_walked fu_edited fu_written fu_at fu_end fu_began fu_many au_text au_segments au_names au_nameSize au_bases au_length au_links au_from au_to au_paths au_titles au_titleSize au_steps au_step) → va_S A s.heap H locs → lv_has ls 2 [] → W p l e rm_Mo_line s m args below meth c H locs 0 0 QF (F0 m 68 ls []) := by
    intro  fu_at fu_began fu_many au_segments au_names au_nameSize au_bases au_length au_links au_from au_to au_paths au_titles au_titleSize au_steps au_step  H locs ls h hP hD hS hl
    unfold w_Mo_line_68 at h
    refine lv_iconst (v := 1) hx hb d_Mo_line_68 (by decide) ?_
    refine lv_goto (tgt := 73) hx hb d_Mo_line_69 (by decide) ?_
    exact hret (fu_at, fu_began, fu_many, au_segments, au_names, au_nameSize, au_bases, au_length, au_links, au_from, au_to, au_paths, au_titles, au_titleSize, au_steps, au_step) () 1 _ _ _ _ rfl h hP hD hS d_Mo_line_73
  have blk_55 : ∀  (x1 : Int32) (fu_at : Int32) (fu_began : Int32) (fu_many : Int32) (au_segments : Nat → Int32) (au_names : Nat → Int32) (au_nameSize : Nat → Int32) (au_bases : Nat → Int32) (au_length : Nat → Int32) (au_links : Nat → Int32) (au_from : Nat → Int32) (au_to : Nat → Int32) (au_paths : Nat → Int32) (au_titles : Nat → Int32) (au_titleSize : Nat → Int32) (au_steps : Nat → Int32) (au_step : Nat → Int32)  (H : Heap) (locs : List Loc) (ls : Array Slot), w_Mo_line_55 Q  fu_end au_text x1 fu_at fu_began fu_many au_segments au_names au_nameSize au_bases au_length au_links au_from au_to au_paths au_titles au_titleSize au_steps au_step → va_P (dC, dI) cls (W_Mo_line cI cC cB qu qu_text qu_segments qu_names qu_nameSize qu_bases qu_length qu_links qu_from qu_to qu_paths qu_titles qu_titleSize qu_steps qu_step qu_sideOf qu_within qu_read qu_cost qu_walk qu_edits qu_said fu_size fu_places fu_reads fu_there fu_total fu_walked fu_edited fu_written fu_at fu_end fu_began fu_many au_text au_segments au_names au_nameSize au_bases au_length au_links au_from au_to au_paths au_titles au_titleSize au_steps au_step) H → va_D A (W_Mo_line cI cC cB qu qu_text qu_segments qu_names qu_nameSize qu_bases qu_length qu_links qu_from qu_to qu_paths qu_titles qu_titleSize qu_steps qu_step qu_sideOf qu_within qu_read qu_cost qu_walk qu_edits qu_said fu_size fu_places fu_reads fu_there fu_total fu_walked fu_edited fu_written fu_at fu_end fu_began fu_many au_text au_segments au_names au_nameSize au_bases au_length au_links au_from au_to au_paths au_titles au_titleSize au_steps au_step) → va_S A s.heap H locs → lv_has ls 2 [(0, .ref qu), (1, .int x1)] → W p l e rm_Mo_line s m args below meth c H locs 0 0 QF (F0 m 55 ls []) := by
    intro  x1 fu_at fu_began fu_many au_segments au_names au_nameSize au_bases au_length au_links au_from au_to au_paths au_titles au_titleSize au_steps au_step  H locs ls h hP hD hS hl
    unfold w_Mo_line_55 at h
    refine lv_iload_n hx hb d_Mo_line_55 rfl (lv_at hl 1 rfl) ?_
    refine lv_bipush (v := 80) hx hb d_Mo_line_56 (by decide) ?_
    refine lv_icmp_ne (tgt := 72) hx hb d_Mo_line_58 (by decide) (fun c_1 => ?_) (fun c_1 => ?_)
    · have h := h.2 c_1
      refine lv_iconst (v := 0) hx hb d_Mo_line_72 (by decide) ?_
      exact hret (fu_at, fu_began, fu_many, au_segments, au_names, au_nameSize, au_bases, au_length, au_links, au_from, au_to, au_paths, au_titles, au_titleSize, au_steps, au_step) () 0 _ _ _ _ rfl h hP hD hS d_Mo_line_73
    · have h := h.1 c_1
      refine lv_aload_n hx hb d_Mo_line_61 rfl (lv_at hl 0 rfl) ?_
      refine call_V_i (As := []) (rest := []) C0 hP hD hS [0, 1, 2, 3, 4, 7, 8, 9, 10, 11, 12, 13, 14] [5, 6] [2, 3, 4, 5, 6, 0, 1, 7, 8, 9, 10, 11, 12, 13, 14] [(qu_bases, .inl (cC, 64, .inl au_bases)), (qu_length, .inl (cI, 16, .inl au_length))] (fun (v : Int32 × Int32 × Int32 × (Nat → Int32) × (Nat → Int32) × (Nat → Int32) × (Nat → Int32) × (Nat → Int32)) (b : Unit) => (W_Mo_line cI cC cB qu qu_text qu_segments qu_names qu_nameSize qu_bases qu_length qu_links qu_from qu_to qu_paths qu_titles qu_titleSize qu_steps qu_step qu_sideOf qu_within qu_read qu_cost qu_walk qu_edits qu_said fu_size fu_places fu_reads fu_there fu_total fu_walked fu_edited fu_written v.1 fu_end v.2.1 v.2.2.1 au_text au_segments au_names au_nameSize au_bases au_length au_links au_from au_to v.2.2.2.1 v.2.2.2.2.1 v.2.2.2.2.2.1 v.2.2.2.2.2.2.1 v.2.2.2.2.2.2.2)) (ci := 6) rfl rfl (k_Mo_pathLine l dC dI cI cC cB _ qu qu_text qu_segments qu_names qu_nameSize qu_links qu_from qu_to qu_paths qu_titles qu_titleSize qu_steps qu_step qu_bases qu_length qu_sideOf qu_within qu_read qu_cost qu_walk qu_edits qu_said fu_size fu_places fu_reads fu_there fu_total fu_walked fu_edited fu_written fu_at fu_end fu_began fu_many au_text au_segments au_names au_nameSize au_links au_from au_to au_paths au_titles au_titleSize au_steps au_step h) (g_V w_459 w_460 w_461 w_418 w_458) 0 rfl (by decide +kernel) rfl rfl ⟨Nat.le_of_ble_eq_true rfl, Nat.le_of_ble_eq_true rfl⟩ rfl rfl (by decide) (by decide) (by decide) (by decide) (fun _ _ => rfl) hl.1 rfl (Nat.le_of_ble_eq_true rfl) d_Mo_line_62 ⟨Nat.le_of_ble_eq_true rfl, Nat.le_of_ble_eq_true rfl⟩ (fun r_3 v_2 _ H locs h hP hD hS => ?_)
      have hP : va_P (dC, dI) cls (W_Mo_line cI cC cB qu qu_text qu_segments qu_names qu_nameSize qu_bases qu_length qu_links qu_from qu_to qu_paths qu_titles qu_titleSize qu_steps qu_step qu_sideOf qu_within qu_read qu_cost qu_walk qu_edits qu_said fu_size fu_places fu_reads fu_there fu_total fu_walked fu_edited fu_written v_2.1 fu_end v_2.2.1 v_2.2.2.1 au_text au_segments au_names au_nameSize au_bases au_length au_links au_from au_to v_2.2.2.2.1 v_2.2.2.2.2.1 v_2.2.2.2.2.2.1 v_2.2.2.2.2.2.2.1 v_2.2.2.2.2.2.2.2) H := hP
      have hD : va_D A (W_Mo_line cI cC cB qu qu_text qu_segments qu_names qu_nameSize qu_bases qu_length qu_links qu_from qu_to qu_paths qu_titles qu_titleSize qu_steps qu_step qu_sideOf qu_within qu_read qu_cost qu_walk qu_edits qu_said fu_size fu_places fu_reads fu_there fu_total fu_walked fu_edited fu_written v_2.1 fu_end v_2.2.1 v_2.2.2.1 au_text au_segments au_names au_nameSize au_bases au_length au_links au_from au_to v_2.2.2.2.1 v_2.2.2.2.2.1 v_2.2.2.2.2.2.1 v_2.2.2.2.2.2.2.1 v_2.2.2.2.2.2.2.2) := hD
      refine lv_if_eq (tgt := 72) hx hb d_Mo_line_65 (by decide) (fun c_4 => ?_) (fun c_4 => ?_)
      · have h := h.1 c_4
        refine lv_iconst (v := 0) hx hb d_Mo_line_72 (by decide) ?_
        exact hret (v_2.1, v_2.2.1, v_2.2.2.1, au_segments, au_names, au_nameSize, au_bases, au_length, au_links, au_from, au_to, v_2.2.2.2.1, v_2.2.2.2.2.1, v_2.2.2.2.2.2.1, v_2.2.2.2.2.2.2.1, v_2.2.2.2.2.2.2.2) () 0 _ _ _ _ rfl h hP hD hS d_Mo_line_73
      · have h := h.2 c_4
        exact blk_68  _ _ _ _ _ _ _ _ _ _ _ _ _ _ _ _ _ _ _ h hP hD hS (lv_sub hl [] rfl)
  have blk_42 : ∀  (x1 : Int32) (fu_at : Int32) (fu_began : Int32) (fu_many : Int32) (au_segments : Nat → Int32) (au_names : Nat → Int32) (au_nameSize : Nat → Int32) (au_bases : Nat → Int32) (au_length : Nat → Int32) (au_links : Nat → Int32) (au_from : Nat → Int32) (au_to : Nat → Int32) (au_paths : Nat → Int32) (au_titles : Nat → Int32) (au_titleSize : Nat → Int32) (au_steps : Nat → Int32) (au_step : Nat → Int32)  (H : Heap) (locs : List Loc) (ls : Array Slot), w_Mo_line_42 Q  fu_end au_text x1 fu_at fu_began fu_many au_segments au_names au_nameSize au_bases au_length au_links au_from au_to au_paths au_titles au_titleSize au_steps au_step → va_P (dC, dI) cls (W_Mo_line cI cC cB qu qu_text qu_segments qu_names qu_nameSize qu_bases qu_length qu_links qu_from qu_to qu_paths qu_titles qu_titleSize qu_steps qu_step qu_sideOf qu_within qu_read qu_cost qu_walk qu_edits qu_said fu_size fu_places fu_reads fu_there fu_total fu_walked fu_edited fu_written fu_at fu_end fu_began fu_many au_text au_segments au_names au_nameSize au_bases au_length au_links au_from au_to au_paths au_titles au_titleSize au_steps au_step) H → va_D A (W_Mo_line cI cC cB qu qu_text qu_segments qu_names qu_nameSize qu_bases qu_length qu_links qu_from qu_to qu_paths qu_titles qu_titleSize qu_steps qu_step qu_sideOf qu_within qu_read qu_cost qu_walk qu_edits qu_said fu_size fu_places fu_reads fu_there fu_total fu_walked fu_edited fu_written fu_at fu_end fu_began fu_many au_text au_segments au_names au_nameSize au_bases au_length au_links au_from au_to au_paths au_titles au_titleSize au_steps au_step) → va_S A s.heap H locs → lv_has ls 2 [(0, .ref qu), (1, .int x1)] → W p l e rm_Mo_line s m args below meth c H locs 0 0 QF (F0 m 42 ls []) := by
    intro  x1 fu_at fu_began fu_many au_segments au_names au_nameSize au_bases au_length au_links au_from au_to au_paths au_titles au_titleSize au_steps au_step  H locs ls h hP hD hS hl
    unfold w_Mo_line_42 at h
    refine lv_iload_n hx hb d_Mo_line_42 rfl (lv_at hl 1 rfl) ?_
    refine lv_bipush (v := 76) hx hb d_Mo_line_43 (by decide) ?_
    refine lv_icmp_ne (tgt := 55) hx hb d_Mo_line_45 (by decide) (fun c_5 => ?_) (fun c_5 => ?_)
    · have h := h.2 c_5
      exact blk_55  _ _ _ _ _ _ _ _ _ _ _ _ _ _ _ _ _ _ _ _ h hP hD hS (lv_sub hl [0, 1] rfl)
    · have h := h.1 c_5
      refine lv_aload_n hx hb d_Mo_line_48 rfl (lv_at hl 0 rfl) ?_
      refine call_V_i (As := []) (rest := []) C0 hP hD hS [0, 1, 2, 3, 4, 7, 8, 9] [5, 6, 10, 11, 12, 13, 14] [7, 8, 9, 10, 11, 0, 1, 12, 13, 14, 2, 3, 4, 5, 6] [(qu_bases, .inl (cC, 64, .inl au_bases)), (qu_length, .inl (cI, 16, .inl au_length)), (qu_paths, .inl (cI, 2, .inl au_paths)), (qu_titles, .inl (cC, 24, .inl au_titles)), (qu_titleSize, .inl (cI, 8, .inl au_titleSize)), (qu_steps, .inl (cI, 8, .inl au_steps)), (qu_step, .inl (cI, 64, .inl au_step))] (fun (v : Int32 × Int32 × Int32 × (Nat → Int32) × (Nat → Int32) × (Nat → Int32)) (b : Unit) => (W_Mo_line cI cC cB qu qu_text qu_segments qu_names qu_nameSize qu_bases qu_length qu_links qu_from qu_to qu_paths qu_titles qu_titleSize qu_steps qu_step qu_sideOf qu_within qu_read qu_cost qu_walk qu_edits qu_said fu_size fu_places fu_reads fu_there fu_total fu_walked fu_edited fu_written v.1 fu_end v.2.1 v.2.2.1 au_text au_segments au_names au_nameSize au_bases au_length v.2.2.2.1 v.2.2.2.2.1 v.2.2.2.2.2 au_paths au_titles au_titleSize au_steps au_step)) (ci := 6) rfl rfl (k_Mo_linkLine l dC dI cI cC cB _ qu qu_text qu_segments qu_names qu_nameSize qu_links qu_from qu_to qu_bases qu_length qu_paths qu_titles qu_titleSize qu_steps qu_step qu_sideOf qu_within qu_read qu_cost qu_walk qu_edits qu_said fu_size fu_places fu_reads fu_there fu_total fu_walked fu_edited fu_written fu_at fu_end fu_began fu_many au_text au_segments au_names au_nameSize au_links au_from au_to h) (g_V w_463 w_464 w_465 w_418 w_462) 0 rfl (by decide +kernel) rfl rfl ⟨Nat.le_of_ble_eq_true rfl, Nat.le_of_ble_eq_true rfl⟩ rfl rfl (by decide) (by decide) (by decide) (by decide) (fun _ _ => rfl) hl.1 rfl (Nat.le_of_ble_eq_true rfl) d_Mo_line_49 ⟨Nat.le_of_ble_eq_true rfl, Nat.le_of_ble_eq_true rfl⟩ (fun r_7 v_6 _ H locs h hP hD hS => ?_)
      have hP : va_P (dC, dI) cls (W_Mo_line cI cC cB qu qu_text qu_segments qu_names qu_nameSize qu_bases qu_length qu_links qu_from qu_to qu_paths qu_titles qu_titleSize qu_steps qu_step qu_sideOf qu_within qu_read qu_cost qu_walk qu_edits qu_said fu_size fu_places fu_reads fu_there fu_total fu_walked fu_edited fu_written v_6.1 fu_end v_6.2.1 v_6.2.2.1 au_text au_segments au_names au_nameSize au_bases au_length v_6.2.2.2.1 v_6.2.2.2.2.1 v_6.2.2.2.2.2 au_paths au_titles au_titleSize au_steps au_step) H := hP
      have hD : va_D A (W_Mo_line cI cC cB qu qu_text qu_segments qu_names qu_nameSize qu_bases qu_length qu_links qu_from qu_to qu_paths qu_titles qu_titleSize qu_steps qu_step qu_sideOf qu_within qu_read qu_cost qu_walk qu_edits qu_said fu_size fu_places fu_reads fu_there fu_total fu_walked fu_edited fu_written v_6.1 fu_end v_6.2.1 v_6.2.2.1 au_text au_segments au_names au_nameSize au_bases au_length v_6.2.2.2.1 v_6.2.2.2.2.1 v_6.2.2.2.2.2 au_paths au_titles au_titleSize au_steps au_step) := hD
      refine lv_if_ne (tgt := 68) hx hb d_Mo_line_52 (by decide) (fun c_8 => ?_) (fun c_8 => ?_)
      · have h := h.2 c_8
        exact blk_68  _ _ _ _ _ _ _ _ _ _ _ _ _ _ _ _ _ _ _ h hP hD hS (lv_sub hl [] rfl)
      · have h := h.1 c_8
        exact blk_55  _ _ _ _ _ _ _ _ _ _ _ _ _ _ _ _ _ _ _ _ h hP hD hS (lv_sub hl [0, 1] rfl)
  unfold wp_Mo_line at h
  refine lv_aload_n hx hb d_Mo_line_0 rfl (lv_at hl 0 rfl) ?_
  refine va_get (D := (dC, dI)) (ci := 6) (v := .int fu_at) (C := R_Mo) (T := T_Mo) (N := 33) hx hb hts in_Mo hown hK hP 0 rfl rfl 29 (by decide) (hts _ w_411) (fun _ h9 => h9) rfl d_Mo_line_1 ?_
  refine lv_aload_n hx hb d_Mo_line_4 rfl (lv_at hl 0 rfl) ?_
  refine va_get (D := (dC, dI)) (ci := 6) (v := .int fu_end) (C := R_Mo) (T := T_Mo) (N := 33) hx hb hts in_Mo hown hK hP 0 rfl rfl 30 (by decide) (hts _ w_412) (fun _ h9 => h9) rfl d_Mo_line_5 ?_
  refine lv_icmp_lt (tgt := 13) hx hb d_Mo_line_8 (by decide) (fun c_9 => ?_) (fun c_9 => ?_)
  · have h := h.1 c_9
    refine lv_aload_n hx hb d_Mo_line_13 rfl (lv_at hl 0 rfl) ?_
    refine va_get (D := (dC, dI)) (ci := 6) (v := .ref qu_text) (C := R_Mo) (T := T_Mo) (N := 33) hx hb hts in_Mo hown hK hP 0 rfl rfl 1 (by decide) (hts _ w_410) (fun _ h9 => h9) rfl d_Mo_line_14 ?_
    refine lv_aload_n hx hb d_Mo_line_17 rfl (lv_at hl 0 rfl) ?_
    refine va_get (D := (dC, dI)) (ci := 6) (v := .int fu_at) (C := R_Mo) (T := T_Mo) (N := 33) hx hb hts in_Mo hown hK hP 0 rfl rfl 29 (by decide) (hts _ w_411) (fun _ h9 => h9) rfl d_Mo_line_18 ?_
    have hi_10 := h.1
    have h := h.2
    refine va_cald hx hb hK hP 1 1 rfl rfl hi_10 d_Mo_line_21 ?_
    refine lv_topi (fun y_11 ey_11 => ?_)
    have h := h y_11 ey_11
    refine lv_istore_n (lv' := [(1, .int y_11), (0, .ref qu)]) hx hb d_Mo_line_22 rfl hl (by decide) rfl (fun ls hl => ?_)
    refine lv_iload_n hx hb d_Mo_line_23 rfl (lv_at hl 0 rfl) ?_
    refine lv_bipush (v := 72) hx hb d_Mo_line_24 (by decide) ?_
    refine lv_icmp_eq (tgt := 68) hx hb d_Mo_line_26 (by decide) (fun c_12 => ?_) (fun c_12 => ?_)
    · have h := h.1 c_12
      exact blk_68  _ _ _ _ _ _ _ _ _ _ _ _ _ _ _ _ _ _ _ h hP hD hS (lv_sub hl [] rfl)
    · have h := h.2 c_12
      refine lv_iload_n hx hb d_Mo_line_29 rfl (lv_at hl 0 rfl) ?_
      refine lv_bipush (v := 83) hx hb d_Mo_line_30 (by decide) ?_
      refine lv_icmp_ne (tgt := 42) hx hb d_Mo_line_32 (by decide) (fun c_13 => ?_) (fun c_13 => ?_)
      · have h := h.2 c_13
        exact blk_42  _ _ _ _ _ _ _ _ _ _ _ _ _ _ _ _ _ _ _ _ h hP hD hS (lv_sub hl [1, 0] rfl)
      · have h := h.1 c_13
        refine lv_aload_n hx hb d_Mo_line_35 rfl (lv_at hl 1 rfl) ?_
        refine call_V_i (As := []) (rest := []) C0 hP hD hS [0, 1, 2, 3, 4, 5, 6] [7, 8, 9, 10, 11, 12, 13, 14] [8, 9, 10, 11, 12, 13, 14, 0, 1, 2, 3, 4, 5, 6, 7] [(qu_links, .inl (cI, 2, .inl au_links)), (qu_from, .inl (cI, 24, .inl au_from)), (qu_to, .inl (cI, 24, .inl au_to)), (qu_paths, .inl (cI, 2, .inl au_paths)), (qu_titles, .inl (cC, 24, .inl au_titles)), (qu_titleSize, .inl (cI, 8, .inl au_titleSize)), (qu_steps, .inl (cI, 8, .inl au_steps)), (qu_step, .inl (cI, 64, .inl au_step))] (fun (v : Int32 × Int32 × Int32 × (Nat → Int32) × (Nat → Int32) × (Nat → Int32) × (Nat → Int32) × (Nat → Int32)) (b : Unit) => (W_Mo_line cI cC cB qu qu_text qu_segments qu_names qu_nameSize qu_bases qu_length qu_links qu_from qu_to qu_paths qu_titles qu_titleSize qu_steps qu_step qu_sideOf qu_within qu_read qu_cost qu_walk qu_edits qu_said fu_size fu_places fu_reads fu_there fu_total fu_walked fu_edited fu_written v.1 fu_end v.2.1 v.2.2.1 au_text v.2.2.2.1 v.2.2.2.2.1 v.2.2.2.2.2.1 v.2.2.2.2.2.2.1 v.2.2.2.2.2.2.2 au_links au_from au_to au_paths au_titles au_titleSize au_steps au_step)) (ci := 6) rfl rfl (k_Mo_segmentLine l dC dI cI cC cB _ qu qu_text qu_segments qu_names qu_nameSize qu_bases qu_length qu_links qu_from qu_to qu_paths qu_titles qu_titleSize qu_steps qu_step qu_sideOf qu_within qu_read qu_cost qu_walk qu_edits qu_said fu_size fu_places fu_reads fu_there fu_total fu_walked fu_edited fu_written fu_at fu_end fu_began fu_many au_text au_segments au_names au_nameSize au_bases au_length h) (g_V w_472 w_473 w_474 w_418 w_471) 0 rfl (by decide +kernel) rfl rfl ⟨Nat.le_of_ble_eq_true rfl, Nat.le_of_ble_eq_true rfl⟩ rfl rfl (by decide) (by decide) (by decide) (by decide) (fun _ _ => rfl) hl.1 rfl (Nat.le_of_ble_eq_true rfl) d_Mo_line_36 ⟨Nat.le_of_ble_eq_true rfl, Nat.le_of_ble_eq_true rfl⟩ (fun r_15 v_14 _ H locs h hP hD hS => ?_)
        have hP : va_P (dC, dI) cls (W_Mo_line cI cC cB qu qu_text qu_segments qu_names qu_nameSize qu_bases qu_length qu_links qu_from qu_to qu_paths qu_titles qu_titleSize qu_steps qu_step qu_sideOf qu_within qu_read qu_cost qu_walk qu_edits qu_said fu_size fu_places fu_reads fu_there fu_total fu_walked fu_edited fu_written v_14.1 fu_end v_14.2.1 v_14.2.2.1 au_text v_14.2.2.2.1 v_14.2.2.2.2.1 v_14.2.2.2.2.2.1 v_14.2.2.2.2.2.2.1 v_14.2.2.2.2.2.2.2 au_links au_from au_to au_paths au_titles au_titleSize au_steps au_step) H := hP
        have hD : va_D A (W_Mo_line cI cC cB qu qu_text qu_segments qu_names qu_nameSize qu_bases qu_length qu_links qu_from qu_to qu_paths qu_titles qu_titleSize qu_steps qu_step qu_sideOf qu_within qu_read qu_cost qu_walk qu_edits qu_said fu_size fu_places fu_reads fu_there fu_total fu_walked fu_edited fu_written v_14.1 fu_end v_14.2.1 v_14.2.2.1 au_text v_14.2.2.2.1 v_14.2.2.2.2.1 v_14.2.2.2.2.2.1 v_14.2.2.2.2.2.2.1 v_14.2.2.2.2.2.2.2 au_links au_from au_to au_paths au_titles au_titleSize au_steps au_step) := hD
        refine lv_if_ne (tgt := 68) hx hb d_Mo_line_39 (by decide) (fun c_16 => ?_) (fun c_16 => ?_)
        · have h := h.2 c_16
          exact blk_68  _ _ _ _ _ _ _ _ _ _ _ _ _ _ _ _ _ _ _ h hP hD hS (lv_sub hl [] rfl)
        · have h := h.1 c_16
          exact blk_42  _ _ _ _ _ _ _ _ _ _ _ _ _ _ _ _ _ _ _ _ h hP hD hS (lv_sub hl [1, 0] rfl)
  · have h := h.2 c_9
    refine lv_iconst (v := 0) hx hb d_Mo_line_11 (by decide) ?_
    exact hret (fu_at, fu_began, fu_many, au_segments, au_names, au_nameSize, au_bases, au_length, au_links, au_from, au_to, au_paths, au_titles, au_titleSize, au_steps, au_step) () 0 _ _ _ _ rfl h hP hD hS d_Mo_line_12
abbrev W_Mo_adopt (cI cC cB : ClassId) (qu : Nat) (qu_segments : Nat) (qu_names : Nat) (qu_nameSize : Nat) (qu_bases : Nat) (qu_length : Nat) (qu_links : Nat) (qu_from : Nat) (qu_to : Nat) (qu_paths : Nat) (qu_steps : Nat) (qu_step : Nat) (qu_sideOf : Nat) (qu_within : Nat) (qu_text : Nat) (qu_titles : Nat) (qu_titleSize : Nat) (qu_read : Nat) (qu_cost : Nat) (qu_walk : Nat) (qu_edits : Nat) (qu_said : Nat) (fu_size : Int32) (fu_places : Int32) (fu_reads : Int32) (fu_there : Int32) (fu_total : Int32) (fu_walked : Int32) (fu_edited : Int32) (fu_written : Int32) (fu_at : Int32) (fu_end : Int32) (fu_began : Int32) (fu_many : Int32) (au_segments : Nat → Int32) (au_names : Nat → Int32) (au_nameSize : Nat → Int32) (au_bases : Nat → Int32) (au_length : Nat → Int32) (au_links : Nat → Int32) (au_from : Nat → Int32) (au_to : Nat → Int32) (au_paths : Nat → Int32) (au_steps : Nat → Int32) (au_step : Nat → Int32) (au_sideOf : Nat → Int32) (au_within : Nat → Int32) : va_W := [(qu, .inr (6, [.int fu_size, .ref qu_text, .ref qu_segments, .ref qu_names, .ref qu_nameSize, .ref qu_bases, .ref qu_length, .ref qu_links, .ref qu_from, .ref qu_to, .ref qu_paths, .ref qu_titles, .ref qu_titleSize, .ref qu_steps, .ref qu_step, .int fu_places, .ref qu_sideOf, .ref qu_within, .int fu_reads, .ref qu_read, .ref qu_cost, .int fu_there, .int fu_total, .int fu_walked, .ref qu_walk, .int fu_edited, .ref qu_edits, .int fu_written, .ref qu_said, .int fu_at, .int fu_end, .int fu_began, .int fu_many])), (qu_segments, .inl (cI, 2, .inl au_segments)), (qu_names, .inl (cC, 48, .inl au_names)), (qu_nameSize, .inl (cI, 16, .inl au_nameSize)), (qu_bases, .inl (cC, 64, .inl au_bases)), (qu_length, .inl (cI, 16, .inl au_length)), (qu_links, .inl (cI, 2, .inl au_links)), (qu_from, .inl (cI, 24, .inl au_from)), (qu_to, .inl (cI, 24, .inl au_to)), (qu_paths, .inl (cI, 2, .inl au_paths)), (qu_steps, .inl (cI, 8, .inl au_steps)), (qu_step, .inl (cI, 64, .inl au_step)), (qu_sideOf, .inl (cI, 64, .inl au_sideOf)), (qu_within, .inl (cI, 64, .inl au_within))]
def w_Mo_adopt_250B (Q : (Int32 × Int32 × (Nat → Int32) × (Nat → Int32) × (Nat → Int32) × (Nat → Int32) × (Nat → Int32) × (Nat → Int32) × (Nat → Int32) × (Nat → Int32) × (Nat → Int32) × (Nat → Int32) × (Nat → Int32) × (Nat → Int32) × (Nat → Int32)) → Prop) (K_236 : Int32 → Int32 → Int32 → (Nat → Int32) → (Nat → Int32) → (Nat → Int32) → (Nat → Int32) → (Nat → Int32) → (Nat → Int32) → (Nat → Int32) → (Nat → Int32) → (Nat → Int32) → (Nat → Int32) → (Nat → Int32) → (Nat → Int32) → (Nat → Int32) → Prop) (K_250 : Int32 → Int32 → Int32 → Int32 → (Nat → Int32) → (Nat → Int32) → (Nat → Int32) → (Nat → Int32) → (Nat → Int32) → (Nat → Int32) → (Nat → Int32) → (Nat → Int32) → (Nat → Int32) → (Nat → Int32) → (Nat → Int32) → (Nat → Int32) → (Nat → Int32) → Prop)  (x1 : Int32) (x2 : Int32) (fu_places : Int32) (fu_there : Int32) (au_segments : Nat → Int32) (au_names : Nat → Int32) (au_nameSize : Nat → Int32) (au_bases : Nat → Int32) (au_length : Nat → Int32) (au_links : Nat → Int32) (au_from : Nat → Int32) (au_to : Nat → Int32) (au_paths : Nat → Int32) (au_steps : Nat → Int32) (au_step : Nat → Int32) (au_sideOf : Nat → Int32) (au_within : Nat → Int32) : Prop := ∀ x_1 : Int32, x_1 = x1 / 2 → (vp_in x_1 16 ∧ (∀ y_3 : Int32, y_3 = au_length x_1.toNatClampNeg → (((y_3 ≤ x2 → (∀ x1_5 : Int32, x1_5 = x1 + 1 → (K_236 x1_5 fu_places fu_there au_segments au_names au_nameSize au_bases au_length au_links au_from au_to au_paths au_steps au_step au_sideOf au_within))) ∧ (¬ y_3 ≤ x2 → (vp_in fu_places 64 ∧ (∀ au_sideOf_7 : Nat → Int32, au_sideOf_7 = upd au_sideOf fu_places.toNatClampNeg x1 → (vp_in fu_places 64 ∧ (∀ au_within_9 : Nat → Int32, au_within_9 = upd au_within fu_places.toNatClampNeg x2 → (∀ x_10 : Int32, x_10 = fu_places + 1 → (∀ x2_11 : Int32, x2_11 = x2 + 1 → (K_250 x1 x2_11 x_10 fu_there au_segments au_names au_nameSize au_bases au_length au_links au_from au_to au_paths au_steps au_step au_sideOf_7 au_within_9))))))))))))
def w_Mo_adopt_250 (Q : (Int32 × Int32 × (Nat → Int32) × (Nat → Int32) × (Nat → Int32) × (Nat → Int32) × (Nat → Int32) × (Nat → Int32) × (Nat → Int32) × (Nat → Int32) × (Nat → Int32) × (Nat → Int32) × (Nat → Int32) × (Nat → Int32) × (Nat → Int32)) → Prop) (K_236 : Int32 → Int32 → Int32 → (Nat → Int32) → (Nat → Int32) → (Nat → Int32) → (Nat → Int32) → (Nat → Int32) → (Nat → Int32) → (Nat → Int32) → (Nat → Int32) → (Nat → Int32) → (Nat → Int32) → (Nat → Int32) → (Nat → Int32) → (Nat → Int32) → Prop)  : Nat → Int32 → Int32 → Int32 → Int32 → (Nat → Int32) → (Nat → Int32) → (Nat → Int32) → (Nat → Int32) → (Nat → Int32) → (Nat → Int32) → (Nat → Int32) → (Nat → Int32) → (Nat → Int32) → (Nat → Int32) → (Nat → Int32) → (Nat → Int32) → (Nat → Int32) → Prop
  | 0 => fun _ _ _ _ _ _ _ _ _ _ _ _ _ _ _ _ _ => False
  | n + 1 => fun x1 x2 fu_places fu_there au_segments au_names au_nameSize au_bases au_length au_links au_from au_to au_paths au_steps au_step au_sideOf au_within => w_Mo_adopt_250B Q K_236 (w_Mo_adopt_250 Q K_236  n)  x1 x2 fu_places fu_there au_segments au_names au_nameSize au_bases au_length au_links au_from au_to au_paths au_steps au_step au_sideOf au_within
def w_Mo_adopt_236B (Q : (Int32 × Int32 × (Nat → Int32) × (Nat → Int32) × (Nat → Int32) × (Nat → Int32) × (Nat → Int32) × (Nat → Int32) × (Nat → Int32) × (Nat → Int32) × (Nat → Int32) × (Nat → Int32) × (Nat → Int32) × (Nat → Int32) × (Nat → Int32)) → Prop)  (K_236 : Int32 → Int32 → Int32 → (Nat → Int32) → (Nat → Int32) → (Nat → Int32) → (Nat → Int32) → (Nat → Int32) → (Nat → Int32) → (Nat → Int32) → (Nat → Int32) → (Nat → Int32) → (Nat → Int32) → (Nat → Int32) → (Nat → Int32) → (Nat → Int32) → Prop)  (x1 : Int32) (fu_places : Int32) (fu_there : Int32) (au_segments : Nat → Int32) (au_names : Nat → Int32) (au_nameSize : Nat → Int32) (au_bases : Nat → Int32) (au_length : Nat → Int32) (au_links : Nat → Int32) (au_from : Nat → Int32) (au_to : Nat → Int32) (au_paths : Nat → Int32) (au_steps : Nat → Int32) (au_step : Nat → Int32) (au_sideOf : Nat → Int32) (au_within : Nat → Int32) : Prop := vp_in (0 : Int32) 2 ∧ (∀ x_13 : Int32, x_13 = 2 * (au_segments (0 : Int32).toNatClampNeg) → (((x_13 ≤ x1 → (Q (fu_places, fu_there, au_segments, au_names, au_nameSize, au_bases, au_length, au_links, au_from, au_to, au_paths, au_steps, au_step, au_sideOf, au_within))) ∧ (¬ x_13 ≤ x1 → (∃ fu_250 : Nat, w_Mo_adopt_250 Q K_236 fu_250 x1 0 fu_places fu_there au_segments au_names au_nameSize au_bases au_length au_links au_from au_to au_paths au_steps au_step au_sideOf au_within)))))
def w_Mo_adopt_236 (Q : (Int32 × Int32 × (Nat → Int32) × (Nat → Int32) × (Nat → Int32) × (Nat → Int32) × (Nat → Int32) × (Nat → Int32) × (Nat → Int32) × (Nat → Int32) × (Nat → Int32) × (Nat → Int32) × (Nat → Int32) × (Nat → Int32) × (Nat → Int32)) → Prop)   : Nat → Int32 → Int32 → Int32 → (Nat → Int32) → (Nat → Int32) → (Nat → Int32) → (Nat → Int32) → (Nat → Int32) → (Nat → Int32) → (Nat → Int32) → (Nat → Int32) → (Nat → Int32) → (Nat → Int32) → (Nat → Int32) → (Nat → Int32) → (Nat → Int32) → Prop
  | 0 => fun _ _ _ _ _ _ _ _ _ _ _ _ _ _ _ _ => False
  | n + 1 => fun x1 fu_places fu_there au_segments au_names au_nameSize au_bases au_length au_links au_from au_to au_paths au_steps au_step au_sideOf au_within => w_Mo_adopt_236B Q  (w_Mo_adopt_236 Q   n)  x1 fu_places fu_there au_segments au_names au_nameSize au_bases au_length au_links au_from au_to au_paths au_steps au_step au_sideOf au_within
def w_Mo_adopt_199B (Q : (Int32 × Int32 × (Nat → Int32) × (Nat → Int32) × (Nat → Int32) × (Nat → Int32) × (Nat → Int32) × (Nat → Int32) × (Nat → Int32) × (Nat → Int32) × (Nat → Int32) × (Nat → Int32) × (Nat → Int32) × (Nat → Int32) × (Nat → Int32)) → Prop)  (K_199 : Int32 → Int32 → Int32 → (Nat → Int32) → (Nat → Int32) → (Nat → Int32) → (Nat → Int32) → (Nat → Int32) → (Nat → Int32) → (Nat → Int32) → (Nat → Int32) → (Nat → Int32) → (Nat → Int32) → (Nat → Int32) → (Nat → Int32) → (Nat → Int32) → Prop)  (x1 : Int32) (fu_places : Int32) (fu_there : Int32) (au_segments : Nat → Int32) (au_names : Nat → Int32) (au_nameSize : Nat → Int32) (au_bases : Nat → Int32) (au_length : Nat → Int32) (au_links : Nat → Int32) (au_from : Nat → Int32) (au_to : Nat → Int32) (au_paths : Nat → Int32) (au_steps : Nat → Int32) (au_step : Nat → Int32) (au_sideOf : Nat → Int32) (au_within : Nat → Int32) : Prop := ((4 ≤ x1 → (∃ fu_236 : Nat, w_Mo_adopt_236 Q  fu_236 0 0 0 au_segments au_names au_nameSize au_bases au_length au_links au_from au_to au_paths au_steps au_step au_sideOf au_within)) ∧ (¬ 4 ≤ x1 → (∀ x_16 : Int32, x_16 = 4 + x1 → (vp_in x_16 8 ∧ (∀ y_18 : Int32, y_18 = au_steps x_16.toNatClampNeg → (vp_in x1 8 ∧ (∀ au_steps_20 : Nat → Int32, au_steps_20 = upd au_steps x1.toNatClampNeg y_18 → (∀ x1_21 : Int32, x1_21 = x1 + 1 → (K_199 x1_21 fu_places fu_there au_segments au_names au_nameSize au_bases au_length au_links au_from au_to au_paths au_steps_20 au_step au_sideOf au_within)))))))))
def w_Mo_adopt_199 (Q : (Int32 × Int32 × (Nat → Int32) × (Nat → Int32) × (Nat → Int32) × (Nat → Int32) × (Nat → Int32) × (Nat → Int32) × (Nat → Int32) × (Nat → Int32) × (Nat → Int32) × (Nat → Int32) × (Nat → Int32) × (Nat → Int32) × (Nat → Int32)) → Prop)   : Nat → Int32 → Int32 → Int32 → (Nat → Int32) → (Nat → Int32) → (Nat → Int32) → (Nat → Int32) → (Nat → Int32) → (Nat → Int32) → (Nat → Int32) → (Nat → Int32) → (Nat → Int32) → (Nat → Int32) → (Nat → Int32) → (Nat → Int32) → (Nat → Int32) → Prop
  | 0 => fun _ _ _ _ _ _ _ _ _ _ _ _ _ _ _ _ => False
  | n + 1 => fun x1 fu_places fu_there au_segments au_names au_nameSize au_bases au_length au_links au_from au_to au_paths au_steps au_step au_sideOf au_within => w_Mo_adopt_199B Q  (w_Mo_adopt_199 Q   n)  x1 fu_places fu_there au_segments au_names au_nameSize au_bases au_length au_links au_from au_to au_paths au_steps au_step au_sideOf au_within
def w_Mo_adopt_155B (Q : (Int32 × Int32 × (Nat → Int32) × (Nat → Int32) × (Nat → Int32) × (Nat → Int32) × (Nat → Int32) × (Nat → Int32) × (Nat → Int32) × (Nat → Int32) × (Nat → Int32) × (Nat → Int32) × (Nat → Int32) × (Nat → Int32) × (Nat → Int32)) → Prop)  (K_155 : Int32 → Int32 → Int32 → (Nat → Int32) → (Nat → Int32) → (Nat → Int32) → (Nat → Int32) → (Nat → Int32) → (Nat → Int32) → (Nat → Int32) → (Nat → Int32) → (Nat → Int32) → (Nat → Int32) → (Nat → Int32) → (Nat → Int32) → (Nat → Int32) → Prop)  (x1 : Int32) (fu_places : Int32) (fu_there : Int32) (au_segments : Nat → Int32) (au_names : Nat → Int32) (au_nameSize : Nat → Int32) (au_bases : Nat → Int32) (au_length : Nat → Int32) (au_links : Nat → Int32) (au_from : Nat → Int32) (au_to : Nat → Int32) (au_paths : Nat → Int32) (au_steps : Nat → Int32) (au_step : Nat → Int32) (au_sideOf : Nat → Int32) (au_within : Nat → Int32) : Prop := ((12 ≤ x1 → (∃ fu_199 : Nat, w_Mo_adopt_199 Q  fu_199 0 fu_places fu_there au_segments au_names au_nameSize au_bases au_length au_links au_from au_to au_paths au_steps au_step au_sideOf au_within)) ∧ (¬ 12 ≤ x1 → (∀ x_23 : Int32, x_23 = 12 + x1 → (vp_in x_23 24 ∧ (∀ y_25 : Int32, y_25 = au_from x_23.toNatClampNeg → (vp_in x1 24 ∧ (∀ au_from_27 : Nat → Int32, au_from_27 = upd au_from x1.toNatClampNeg y_25 → (∀ x_28 : Int32, x_28 = 12 + x1 → (vp_in x_28 24 ∧ (∀ y_30 : Int32, y_30 = au_to x_28.toNatClampNeg → (vp_in x1 24 ∧ (∀ au_to_32 : Nat → Int32, au_to_32 = upd au_to x1.toNatClampNeg y_30 → (∀ x1_33 : Int32, x1_33 = x1 + 1 → (K_155 x1_33 fu_places fu_there au_segments au_names au_nameSize au_bases au_length au_links au_from_27 au_to_32 au_paths au_steps au_step au_sideOf au_within))))))))))))))
def w_Mo_adopt_155 (Q : (Int32 × Int32 × (Nat → Int32) × (Nat → Int32) × (Nat → Int32) × (Nat → Int32) × (Nat → Int32) × (Nat → Int32) × (Nat → Int32) × (Nat → Int32) × (Nat → Int32) × (Nat → Int32) × (Nat → Int32) × (Nat → Int32) × (Nat → Int32)) → Prop)   : Nat → Int32 → Int32 → Int32 → (Nat → Int32) → (Nat → Int32) → (Nat → Int32) → (Nat → Int32) → (Nat → Int32) → (Nat → Int32) → (Nat → Int32) → (Nat → Int32) → (Nat → Int32) → (Nat → Int32) → (Nat → Int32) → (Nat → Int32) → (Nat → Int32) → Prop
  | 0 => fun _ _ _ _ _ _ _ _ _ _ _ _ _ _ _ _ => False
  | n + 1 => fun x1 fu_places fu_there au_segments au_names au_nameSize au_bases au_length au_links au_from au_to au_paths au_steps au_step au_sideOf au_within => w_Mo_adopt_155B Q  (w_Mo_adopt_155 Q   n)  x1 fu_places fu_there au_segments au_names au_nameSize au_bases au_length au_links au_from au_to au_paths au_steps au_step au_sideOf au_within
def w_Mo_adopt_111B (Q : (Int32 × Int32 × (Nat → Int32) × (Nat → Int32) × (Nat → Int32) × (Nat → Int32) × (Nat → Int32) × (Nat → Int32) × (Nat → Int32) × (Nat → Int32) × (Nat → Int32) × (Nat → Int32) × (Nat → Int32) × (Nat → Int32) × (Nat → Int32)) → Prop)  (K_111 : Int32 → Int32 → Int32 → (Nat → Int32) → (Nat → Int32) → (Nat → Int32) → (Nat → Int32) → (Nat → Int32) → (Nat → Int32) → (Nat → Int32) → (Nat → Int32) → (Nat → Int32) → (Nat → Int32) → (Nat → Int32) → (Nat → Int32) → (Nat → Int32) → Prop)  (x1 : Int32) (fu_places : Int32) (fu_there : Int32) (au_segments : Nat → Int32) (au_names : Nat → Int32) (au_nameSize : Nat → Int32) (au_bases : Nat → Int32) (au_length : Nat → Int32) (au_links : Nat → Int32) (au_from : Nat → Int32) (au_to : Nat → Int32) (au_paths : Nat → Int32) (au_steps : Nat → Int32) (au_step : Nat → Int32) (au_sideOf : Nat → Int32) (au_within : Nat → Int32) : Prop := ((32 ≤ x1 → (∃ fu_155 : Nat, w_Mo_adopt_155 Q  fu_155 0 fu_places fu_there au_segments au_names au_nameSize au_bases au_length au_links au_from au_to au_paths au_steps au_step au_sideOf au_within)) ∧ (¬ 32 ≤ x1 → (∀ x_35 : Int32, x_35 = 32 + x1 → (vp_in x_35 64 ∧ (∀ y_37 : Int32, y_37 = au_bases x_35.toNatClampNeg → (vp_in x1 64 ∧ (∀ au_bases_39 : Nat → Int32, au_bases_39 = upd au_bases x1.toNatClampNeg (vp_nar .char y_37) → (∀ x_40 : Int32, x_40 = 32 + x1 → (vp_in x_40 64 ∧ (∀ y_42 : Int32, y_42 = au_step x_40.toNatClampNeg → (vp_in x1 64 ∧ (∀ au_step_44 : Nat → Int32, au_step_44 = upd au_step x1.toNatClampNeg y_42 → (∀ x1_45 : Int32, x1_45 = x1 + 1 → (K_111 x1_45 fu_places fu_there au_segments au_names au_nameSize au_bases_39 au_length au_links au_from au_to au_paths au_steps au_step_44 au_sideOf au_within))))))))))))))
def w_Mo_adopt_111 (Q : (Int32 × Int32 × (Nat → Int32) × (Nat → Int32) × (Nat → Int32) × (Nat → Int32) × (Nat → Int32) × (Nat → Int32) × (Nat → Int32) × (Nat → Int32) × (Nat → Int32) × (Nat → Int32) × (Nat → Int32) × (Nat → Int32) × (Nat → Int32)) → Prop)   : Nat → Int32 → Int32 → Int32 → (Nat → Int32) → (Nat → Int32) → (Nat → Int32) → (Nat → Int32) → (Nat → Int32) → (Nat → Int32) → (Nat → Int32) → (Nat → Int32) → (Nat → Int32) → (Nat → Int32) → (Nat → Int32) → (Nat → Int32) → (Nat → Int32) → Prop
  | 0 => fun _ _ _ _ _ _ _ _ _ _ _ _ _ _ _ _ => False
  | n + 1 => fun x1 fu_places fu_there au_segments au_names au_nameSize au_bases au_length au_links au_from au_to au_paths au_steps au_step au_sideOf au_within => w_Mo_adopt_111B Q  (w_Mo_adopt_111 Q   n)  x1 fu_places fu_there au_segments au_names au_nameSize au_bases au_length au_links au_from au_to au_paths au_steps au_step au_sideOf au_within
def w_Mo_adopt_67B (Q : (Int32 × Int32 × (Nat → Int32) × (Nat → Int32) × (Nat → Int32) × (Nat → Int32) × (Nat → Int32) × (Nat → Int32) × (Nat → Int32) × (Nat → Int32) × (Nat → Int32) × (Nat → Int32) × (Nat → Int32) × (Nat → Int32) × (Nat → Int32)) → Prop)  (K_67 : Int32 → Int32 → Int32 → (Nat → Int32) → (Nat → Int32) → (Nat → Int32) → (Nat → Int32) → (Nat → Int32) → (Nat → Int32) → (Nat → Int32) → (Nat → Int32) → (Nat → Int32) → (Nat → Int32) → (Nat → Int32) → (Nat → Int32) → (Nat → Int32) → Prop)  (x1 : Int32) (fu_places : Int32) (fu_there : Int32) (au_segments : Nat → Int32) (au_names : Nat → Int32) (au_nameSize : Nat → Int32) (au_bases : Nat → Int32) (au_length : Nat → Int32) (au_links : Nat → Int32) (au_from : Nat → Int32) (au_to : Nat → Int32) (au_paths : Nat → Int32) (au_steps : Nat → Int32) (au_step : Nat → Int32) (au_sideOf : Nat → Int32) (au_within : Nat → Int32) : Prop := ((8 ≤ x1 → (∃ fu_111 : Nat, w_Mo_adopt_111 Q  fu_111 0 fu_places fu_there au_segments au_names au_nameSize au_bases au_length au_links au_from au_to au_paths au_steps au_step au_sideOf au_within)) ∧ (¬ 8 ≤ x1 → (∀ x_47 : Int32, x_47 = 8 + x1 → (vp_in x_47 16 ∧ (∀ y_49 : Int32, y_49 = au_nameSize x_47.toNatClampNeg → (vp_in x1 16 ∧ (∀ au_nameSize_51 : Nat → Int32, au_nameSize_51 = upd au_nameSize x1.toNatClampNeg y_49 → (∀ x_52 : Int32, x_52 = 8 + x1 → (vp_in x_52 16 ∧ (∀ y_54 : Int32, y_54 = au_length x_52.toNatClampNeg → (vp_in x1 16 ∧ (∀ au_length_56 : Nat → Int32, au_length_56 = upd au_length x1.toNatClampNeg y_54 → (∀ x1_57 : Int32, x1_57 = x1 + 1 → (K_67 x1_57 fu_places fu_there au_segments au_names au_nameSize_51 au_bases au_length_56 au_links au_from au_to au_paths au_steps au_step au_sideOf au_within))))))))))))))
def w_Mo_adopt_67 (Q : (Int32 × Int32 × (Nat → Int32) × (Nat → Int32) × (Nat → Int32) × (Nat → Int32) × (Nat → Int32) × (Nat → Int32) × (Nat → Int32) × (Nat → Int32) × (Nat → Int32) × (Nat → Int32) × (Nat → Int32) × (Nat → Int32) × (Nat → Int32)) → Prop)   : Nat → Int32 → Int32 → Int32 → (Nat → Int32) → (Nat → Int32) → (Nat → Int32) → (Nat → Int32) → (Nat → Int32) → (Nat → Int32) → (Nat → Int32) → (Nat → Int32) → (Nat → Int32) → (Nat → Int32) → (Nat → Int32) → (Nat → Int32) → (Nat → Int32) → Prop
  | 0 => fun _ _ _ _ _ _ _ _ _ _ _ _ _ _ _ _ => False
  | n + 1 => fun x1 fu_places fu_there au_segments au_names au_nameSize au_bases au_length au_links au_from au_to au_paths au_steps au_step au_sideOf au_within => w_Mo_adopt_67B Q  (w_Mo_adopt_67 Q   n)  x1 fu_places fu_there au_segments au_names au_nameSize au_bases au_length au_links au_from au_to au_paths au_steps au_step au_sideOf au_within
def w_Mo_adopt_38B (Q : (Int32 × Int32 × (Nat → Int32) × (Nat → Int32) × (Nat → Int32) × (Nat → Int32) × (Nat → Int32) × (Nat → Int32) × (Nat → Int32) × (Nat → Int32) × (Nat → Int32) × (Nat → Int32) × (Nat → Int32) × (Nat → Int32) × (Nat → Int32)) → Prop)  (K_38 : Int32 → Int32 → Int32 → (Nat → Int32) → (Nat → Int32) → (Nat → Int32) → (Nat → Int32) → (Nat → Int32) → (Nat → Int32) → (Nat → Int32) → (Nat → Int32) → (Nat → Int32) → (Nat → Int32) → (Nat → Int32) → (Nat → Int32) → (Nat → Int32) → Prop)  (x1 : Int32) (fu_places : Int32) (fu_there : Int32) (au_segments : Nat → Int32) (au_names : Nat → Int32) (au_nameSize : Nat → Int32) (au_bases : Nat → Int32) (au_length : Nat → Int32) (au_links : Nat → Int32) (au_from : Nat → Int32) (au_to : Nat → Int32) (au_paths : Nat → Int32) (au_steps : Nat → Int32) (au_step : Nat → Int32) (au_sideOf : Nat → Int32) (au_within : Nat → Int32) : Prop := ((24 ≤ x1 → (∃ fu_67 : Nat, w_Mo_adopt_67 Q  fu_67 0 fu_places fu_there au_segments au_names au_nameSize au_bases au_length au_links au_from au_to au_paths au_steps au_step au_sideOf au_within)) ∧ (¬ 24 ≤ x1 → (∀ x_59 : Int32, x_59 = 24 + x1 → (vp_in x_59 48 ∧ (∀ y_61 : Int32, y_61 = au_names x_59.toNatClampNeg → (vp_in x1 48 ∧ (∀ au_names_63 : Nat → Int32, au_names_63 = upd au_names x1.toNatClampNeg (vp_nar .char y_61) → (∀ x1_64 : Int32, x1_64 = x1 + 1 → (K_38 x1_64 fu_places fu_there au_segments au_names_63 au_nameSize au_bases au_length au_links au_from au_to au_paths au_steps au_step au_sideOf au_within)))))))))
def w_Mo_adopt_38 (Q : (Int32 × Int32 × (Nat → Int32) × (Nat → Int32) × (Nat → Int32) × (Nat → Int32) × (Nat → Int32) × (Nat → Int32) × (Nat → Int32) × (Nat → Int32) × (Nat → Int32) × (Nat → Int32) × (Nat → Int32) × (Nat → Int32) × (Nat → Int32)) → Prop)   : Nat → Int32 → Int32 → Int32 → (Nat → Int32) → (Nat → Int32) → (Nat → Int32) → (Nat → Int32) → (Nat → Int32) → (Nat → Int32) → (Nat → Int32) → (Nat → Int32) → (Nat → Int32) → (Nat → Int32) → (Nat → Int32) → (Nat → Int32) → (Nat → Int32) → Prop
  | 0 => fun _ _ _ _ _ _ _ _ _ _ _ _ _ _ _ _ => False
  | n + 1 => fun x1 fu_places fu_there au_segments au_names au_nameSize au_bases au_length au_links au_from au_to au_paths au_steps au_step au_sideOf au_within => w_Mo_adopt_38B Q  (w_Mo_adopt_38 Q   n)  x1 fu_places fu_there au_segments au_names au_nameSize au_bases au_length au_links au_from au_to au_paths au_steps au_step au_sideOf au_within
def wp_Mo_adopt (Q : (Int32 × Int32 × (Nat → Int32) × (Nat → Int32) × (Nat → Int32) × (Nat → Int32) × (Nat → Int32) × (Nat → Int32) × (Nat → Int32) × (Nat → Int32) × (Nat → Int32) × (Nat → Int32) × (Nat → Int32) × (Nat → Int32) × (Nat → Int32)) → Prop)  (fu_places : Int32) (fu_there : Int32) (au_segments : Nat → Int32) (au_names : Nat → Int32) (au_nameSize : Nat → Int32) (au_bases : Nat → Int32) (au_length : Nat → Int32) (au_links : Nat → Int32) (au_from : Nat → Int32) (au_to : Nat → Int32) (au_paths : Nat → Int32) (au_steps : Nat → Int32) (au_step : Nat → Int32) (au_sideOf : Nat → Int32) (au_within : Nat → Int32) : Prop := vp_in (1 : Int32) 2 ∧ (∀ y_66 : Int32, y_66 = au_segments (1 : Int32).toNatClampNeg → (vp_in (0 : Int32) 2 ∧ (∀ au_segments_68 : Nat → Int32, au_segments_68 = upd au_segments (0 : Int32).toNatClampNeg y_66 → (vp_in (1 : Int32) 2 ∧ (∀ y_70 : Int32, y_70 = au_links (1 : Int32).toNatClampNeg → (vp_in (0 : Int32) 2 ∧ (∀ au_links_72 : Nat → Int32, au_links_72 = upd au_links (0 : Int32).toNatClampNeg y_70 → (vp_in (1 : Int32) 2 ∧ (∀ y_74 : Int32, y_74 = au_paths (1 : Int32).toNatClampNeg → (vp_in (0 : Int32) 2 ∧ (∀ au_paths_76 : Nat → Int32, au_paths_76 = upd au_paths (0 : Int32).toNatClampNeg y_74 → (∃ fu_38 : Nat, w_Mo_adopt_38 Q  fu_38 0 fu_places fu_there au_segments_68 au_names au_nameSize au_bases au_length au_links_72 au_from au_to au_paths_76 au_steps au_step au_sideOf au_within))))))))))))
abbrev rm_Mo_adopt : Room := { frames := 0, cells := 0, slots := 0, locals := 0 }
set_option maxHeartbeats 4000000 in
set_option maxRecDepth 100000 in
theorem k_Mo_adopt (l : Launch) (dC : Nat → ClassId) (dI : Nat → Nat → Nat) (cI cC cB : ClassId) (sz : Nat) (qu : Nat) (qu_segments : Nat) (qu_names : Nat) (qu_nameSize : Nat) (qu_bases : Nat) (qu_length : Nat) (qu_links : Nat) (qu_from : Nat) (qu_to : Nat) (qu_paths : Nat) (qu_steps : Nat) (qu_step : Nat) (qu_sideOf : Nat) (qu_within : Nat) (qu_text : Nat) (qu_titles : Nat) (qu_titleSize : Nat) (qu_read : Nat) (qu_cost : Nat) (qu_walk : Nat) (qu_edits : Nat) (qu_said : Nat) (fu_size : Int32) (fu_places : Int32) (fu_reads : Int32) (fu_there : Int32) (fu_total : Int32) (fu_walked : Int32) (fu_edited : Int32) (fu_written : Int32) (fu_at : Int32) (fu_end : Int32) (fu_began : Int32) (fu_many : Int32) (au_segments : Nat → Int32) (au_names : Nat → Int32) (au_nameSize : Nat → Int32) (au_bases : Nat → Int32) (au_length : Nat → Int32) (au_links : Nat → Int32) (au_from : Nat → Int32) (au_to : Nat → Int32) (au_paths : Nat → Int32) (au_steps : Nat → Int32) (au_step : Nat → Int32) (au_sideOf : Nat → Int32) (au_within : Nat → Int32)  {Q : (Int32 × Int32 × (Nat → Int32) × (Nat → Int32) × (Nat → Int32) × (Nat → Int32) × (Nat → Int32) × (Nat → Int32) × (Nat → Int32) × (Nat → Int32) × (Nat → Int32) × (Nat → Int32) × (Nat → Int32) × (Nat → Int32) × (Nat → Int32)) → Prop} (h : wp_Mo_adopt Q  fu_places fu_there au_segments au_names au_nameSize au_bases au_length au_links au_from au_to au_paths au_steps au_step au_sideOf au_within) :
    CTv l y_Mo_adopt (wM y_Mo_adopt c_Mo_adopt 3 none) rm_Mo_adopt 0 0 (dC, dI) (tysL cI cC cB) [.ref qu] (W_Mo_adopt cI cC cB qu qu_segments qu_names qu_nameSize qu_bases qu_length qu_links qu_from qu_to qu_paths qu_steps qu_step qu_sideOf qu_within qu_text qu_titles qu_titleSize qu_read qu_cost qu_walk qu_edits qu_said fu_size fu_places fu_reads fu_there fu_total fu_walked fu_edited fu_written fu_at fu_end fu_began fu_many au_segments au_names au_nameSize au_bases au_length au_links au_from au_to au_paths au_steps au_step au_sideOf au_within) sz Q (fun (v : Int32 × Int32 × (Nat → Int32) × (Nat → Int32) × (Nat → Int32) × (Nat → Int32) × (Nat → Int32) × (Nat → Int32) × (Nat → Int32) × (Nat → Int32) × (Nat → Int32) × (Nat → Int32) × (Nat → Int32) × (Nat → Int32) × (Nat → Int32)) (b : Unit) => (W_Mo_adopt cI cC cB qu qu_segments qu_names qu_nameSize qu_bases qu_length qu_links qu_from qu_to qu_paths qu_steps qu_step qu_sideOf qu_within qu_text qu_titles qu_titleSize qu_read qu_cost qu_walk qu_edits qu_said fu_size v.1 fu_reads v.2.1 fu_total fu_walked fu_edited fu_written fu_at fu_end fu_began fu_many v.2.2.1 v.2.2.2.1 v.2.2.2.2.1 v.2.2.2.2.2.1 v.2.2.2.2.2.2.1 v.2.2.2.2.2.2.2.1 v.2.2.2.2.2.2.2.2.1 v.2.2.2.2.2.2.2.2.2.1 v.2.2.2.2.2.2.2.2.2.2.1 v.2.2.2.2.2.2.2.2.2.2.2.1 v.2.2.2.2.2.2.2.2.2.2.2.2.1 v.2.2.2.2.2.2.2.2.2.2.2.2.2.1 v.2.2.2.2.2.2.2.2.2.2.2.2.2.2)) := by
  refine CTv.std (by decide) (Nat.le_of_ble_eq_true rfl) ?_
  intro p e s m args below meth c A ls QF C0 hP hD hl hS hsz hnm hret
  obtain ⟨hx, hb, hr, hml, hown, hts, hlocks, hN, hA, hK⟩ := id C0
  have hown : s.vm.findClass R_Mo = some m.cls := hown
  have hl : lv_has ls 3 [(0, .ref qu)] := hl
  clear hsz hnm
  have blk_250 : ∀ (K_236 : Int32 → Int32 → Int32 → (Nat → Int32) → (Nat → Int32) → (Nat → Int32) → (Nat → Int32) → (Nat → Int32) → (Nat → Int32) → (Nat → Int32) → (Nat → Int32) → (Nat → Int32) → (Nat → Int32) → (Nat → Int32) → (Nat → Int32) → (Nat → Int32) → Prop) (hK_236 : ∀ (x1 : Int32) (fu_places : Int32) (fu_there : Int32) (au_segments : Nat → Int32) (au_names : Nat → Int32) (au_nameSize : Nat → Int32) (au_bases : Nat → Int32) (au_length : Nat → Int32) (au_links : Nat → Int32) (au_from : Nat → Int32) (au_to : Nat → Int32) (au_paths : Nat → Int32) (au_steps : Nat → Int32) (au_step : Nat → Int32) (au_sideOf : Nat → Int32) (au_within : Nat → Int32)  (H : Heap) (locs : List Loc) (ls : Array Slot), K_236 x1 fu_places fu_there au_segments au_names au_nameSize au_bases au_length au_links au_from au_to au_paths au_steps au_step au_sideOf au_within → va_P (dC, dI) cls (W_Mo_adopt cI cC cB qu qu_segments qu_names qu_nameSize qu_bases qu_length qu_links qu_from qu_to qu_paths qu_steps qu_step qu_sideOf qu_within qu_text qu_titles qu_titleSize qu_read qu_cost qu_walk qu_edits qu_said fu_size fu_places fu_reads fu_there fu_total fu_walked fu_edited fu_written fu_at fu_end fu_began fu_many au_segments au_names au_nameSize au_bases au_length au_links au_from au_to au_paths au_steps au_step au_sideOf au_within) H → va_D A (W_Mo_adopt cI cC cB qu qu_segments qu_names qu_nameSize qu_bases qu_length qu_links qu_from qu_to qu_paths qu_steps qu_step qu_sideOf qu_within qu_text qu_titles qu_titleSize qu_read qu_cost qu_walk qu_edits qu_said fu_size fu_places fu_reads fu_there fu_total fu_walked fu_edited fu_written fu_at fu_end fu_began fu_many au_segments au_names au_nameSize au_bases au_length au_links au_from au_to au_paths au_steps au_step au_sideOf au_within) → va_S A s.heap H locs → lv_has ls 3 [(0, .ref qu), (1, .int x1)] → W p l e rm_Mo_adopt s m args below meth c H locs 0 0 QF (F0 m 236 ls [])) (n : Nat) (x1 : Int32) (x2 : Int32) (fu_places : Int32) (fu_there : Int32) (au_segments : Nat → Int32) (au_names : Nat → Int32) (au_nameSize : Nat → Int32) (au_bases : Nat → Int32) (au_length : Nat → Int32) (au_links : Nat → Int32) (au_from : Nat → Int32) (au_to : Nat → Int32) (au_paths : Nat → Int32) (au_steps : Nat → Int32) (au_step : Nat → Int32) (au_sideOf : Nat → Int32) (au_within : Nat → Int32)  (H : Heap) (locs : List Loc) (ls : Array Slot), w_Mo_adopt_250 Q K_236  n x1 x2 fu_places fu_there au_segments au_names au_nameSize au_bases au_length au_links au_from au_to au_paths au_steps au_step au_sideOf au_within → va_P (dC, dI) cls (W_Mo_adopt cI cC cB qu qu_segments qu_names qu_nameSize qu_bases qu_length qu_links qu_from qu_to qu_paths qu_steps qu_step qu_sideOf qu_within qu_text qu_titles qu_titleSize qu_read qu_cost qu_walk qu_edits qu_said fu_size fu_places fu_reads fu_there fu_total fu_walked fu_edited fu_written fu_at fu_end fu_began fu_many au_segments au_names au_nameSize au_bases au_length au_links au_from au_to au_paths au_steps au_step au_sideOf au_within) H → va_D A (W_Mo_adopt cI cC cB qu qu_segments qu_names qu_nameSize qu_bases qu_length qu_links qu_from qu_to qu_paths qu_steps qu_step qu_sideOf qu_within qu_text qu_titles qu_titleSize qu_read qu_cost qu_walk qu_edits qu_said fu_size fu_places fu_reads fu_there fu_total fu_walked fu_edited fu_written fu_at fu_end fu_began fu_many au_segments au_names au_nameSize au_bases au_length au_links au_from au_to au_paths au_steps au_step au_sideOf au_within) → va_S A s.heap H locs → lv_has ls 3 [(0, .ref qu), (1, .int x1), (2, .int x2)] → W p l e rm_Mo_adopt s m args below meth c H locs 0 0 QF (F0 m 250 ls []) := by
    intro K_236 hK_236 n
    induction n with
    | zero => intro x1 x2 fu_places fu_there au_segments au_names au_nameSize au_bases au_length au_links au_from au_to au_paths au_steps au_step au_sideOf au_within  H locs ls h; exact (show False from h).elim
    | succ n ih =>
      intro x1 x2 fu_places fu_there au_segments au_names au_nameSize au_bases au_length au_links au_from au_to au_paths au_steps au_step au_sideOf au_within  H locs ls h hP hD hS hl
      have h : w_Mo_adopt_250B Q K_236 (w_Mo_adopt_250 Q K_236  n)  x1 x2 fu_places fu_there au_segments au_names au_nameSize au_bases au_length au_links au_from au_to au_paths au_steps au_step au_sideOf au_within := h
      generalize w_Mo_adopt_250 Q K_236  n = K_250 at h ih
      unfold w_Mo_adopt_250B at h
      refine lv_iload_n hx hb d_Mo_adopt_250 rfl (lv_at hl 2 rfl) ?_
      refine lv_aload_n hx hb d_Mo_adopt_251 rfl (lv_at hl 0 rfl) ?_
      refine va_get (D := (dC, dI)) (ci := 6) (v := .ref qu_length) (C := R_Mo) (T := T_Mo) (N := 33) hx hb hts in_Mo hown hK hP 0 rfl rfl 6 (by decide) (hts _ w_466) (fun _ h9 => h9) rfl d_Mo_adopt_252 ?_
      refine lv_iload_n hx hb d_Mo_adopt_255 rfl (lv_at hl 1 rfl) ?_
      refine lv_iconst (v := 2) hx hb d_Mo_adopt_256 (by decide) ?_
      refine lv_idiv hx hb d_Mo_adopt_257 (by decide) ?_
      refine lv_topi (fun x_1 ex_1 => ?_)
      have h := h x_1 ex_1
      have hi_2 := h.1
      have h := h.2
      refine va_iald hx hb hK hP 5 0 rfl rfl hi_2 d_Mo_adopt_258 ?_
      refine lv_topi (fun y_3 ey_3 => ?_)
      have h := h y_3 ey_3
      refine lv_icmp_ge (tgt := 298) hx hb d_Mo_adopt_259 (by decide) (fun c_4 => ?_) (fun c_4 => ?_)
      · have h := h.1 c_4
        obtain ⟨x1_5, ex1_5⟩ : ∃ y : Int32, y = x1 + 1 := ⟨_, rfl⟩
        have h := h x1_5 ex1_5
        refine lv_iinc (v := x1_5) (lv' := [(1, .int x1_5), (0, .ref qu), (2, .int x2)]) hx hb d_Mo_adopt_298 hl (k := 1) rfl (by rw [ex1_5]; rfl) (by decide) rfl (fun ls hl => ?_)
        refine lv_goto (tgt := 236) hx hb d_Mo_adopt_301 (by decide) ?_
        exact hK_236 _ _ _ _ _ _ _ _ _ _ _ _ _ _ _ _ _ _ _ h hP hD hS (lv_sub hl [1, 0] rfl)
      · have h := h.2 c_4
        refine lv_aload_n hx hb d_Mo_adopt_262 rfl (lv_at hl 0 rfl) ?_
        refine va_get (D := (dC, dI)) (ci := 6) (v := .ref qu_sideOf) (C := R_Mo) (T := T_Mo) (N := 33) hx hb hts in_Mo hown hK hP 0 rfl rfl 16 (by decide) (hts _ w_479) (fun _ h9 => h9) rfl d_Mo_adopt_263 ?_
        refine lv_aload_n hx hb d_Mo_adopt_266 rfl (lv_at hl 0 rfl) ?_
        refine va_get (D := (dC, dI)) (ci := 6) (v := .int fu_places) (C := R_Mo) (T := T_Mo) (N := 33) hx hb hts in_Mo hown hK hP 0 rfl rfl 15 (by decide) (hts _ w_480) (fun _ h9 => h9) rfl d_Mo_adopt_267 ?_
        refine lv_iload_n hx hb d_Mo_adopt_270 rfl (lv_at hl 1 rfl) ?_
        have hi_6 := h.1
        have h := h.2
        refine va_iast hx hb hK hP hD hS 12 0 rfl rfl hi_6 d_Mo_adopt_271 (fun H locs hP hD hS => ?_)
        obtain ⟨au_sideOf_7, eau_sideOf_7⟩ : ∃ z : Nat → Int32, z = upd au_sideOf fu_places.toNatClampNeg x1 := ⟨_, rfl⟩
        have h := h au_sideOf_7 eau_sideOf_7
        have hP : va_P (dC, dI) cls (W_Mo_adopt cI cC cB qu qu_segments qu_names qu_nameSize qu_bases qu_length qu_links qu_from qu_to qu_paths qu_steps qu_step qu_sideOf qu_within qu_text qu_titles qu_titleSize qu_read qu_cost qu_walk qu_edits qu_said fu_size fu_places fu_reads fu_there fu_total fu_walked fu_edited fu_written fu_at fu_end fu_began fu_many au_segments au_names au_nameSize au_bases au_length au_links au_from au_to au_paths au_steps au_step au_sideOf_7 au_within) H := by rw [eau_sideOf_7]; exact hP
        have hD : va_D A (W_Mo_adopt cI cC cB qu qu_segments qu_names qu_nameSize qu_bases qu_length qu_links qu_from qu_to qu_paths qu_steps qu_step qu_sideOf qu_within qu_text qu_titles qu_titleSize qu_read qu_cost qu_walk qu_edits qu_said fu_size fu_places fu_reads fu_there fu_total fu_walked fu_edited fu_written fu_at fu_end fu_began fu_many au_segments au_names au_nameSize au_bases au_length au_links au_from au_to au_paths au_steps au_step au_sideOf_7 au_within) := by rw [eau_sideOf_7]; exact hD
        refine lv_aload_n hx hb d_Mo_adopt_272 rfl (lv_at hl 0 rfl) ?_
        refine va_get (D := (dC, dI)) (ci := 6) (v := .ref qu_within) (C := R_Mo) (T := T_Mo) (N := 33) hx hb hts in_Mo hown hK hP 0 rfl rfl 17 (by decide) (hts _ w_481) (fun _ h9 => h9) rfl d_Mo_adopt_273 ?_
        refine lv_aload_n hx hb d_Mo_adopt_276 rfl (lv_at hl 0 rfl) ?_
        refine va_get (D := (dC, dI)) (ci := 6) (v := .int fu_places) (C := R_Mo) (T := T_Mo) (N := 33) hx hb hts in_Mo hown hK hP 0 rfl rfl 15 (by decide) (hts _ w_480) (fun _ h9 => h9) rfl d_Mo_adopt_277 ?_
        refine lv_iload_n hx hb d_Mo_adopt_280 rfl (lv_at hl 2 rfl) ?_
        have hi_8 := h.1
        have h := h.2
        refine va_iast hx hb hK hP hD hS 13 0 rfl rfl hi_8 d_Mo_adopt_281 (fun H locs hP hD hS => ?_)
        obtain ⟨au_within_9, eau_within_9⟩ : ∃ z : Nat → Int32, z = upd au_within fu_places.toNatClampNeg x2 := ⟨_, rfl⟩
        have h := h au_within_9 eau_within_9
        have hP : va_P (dC, dI) cls (W_Mo_adopt cI cC cB qu qu_segments qu_names qu_nameSize qu_bases qu_length qu_links qu_from qu_to qu_paths qu_steps qu_step qu_sideOf qu_within qu_text qu_titles qu_titleSize qu_read qu_cost qu_walk qu_edits qu_said fu_size fu_places fu_reads fu_there fu_total fu_walked fu_edited fu_written fu_at fu_end fu_began fu_many au_segments au_names au_nameSize au_bases au_length au_links au_from au_to au_paths au_steps au_step au_sideOf_7 au_within_9) H := by rw [eau_within_9]; exact hP
        have hD : va_D A (W_Mo_adopt cI cC cB qu qu_segments qu_names qu_nameSize qu_bases qu_length qu_links qu_from qu_to qu_paths qu_steps qu_step qu_sideOf qu_within qu_text qu_titles qu_titleSize qu_read qu_cost qu_walk qu_edits qu_said fu_size fu_places fu_reads fu_there fu_total fu_walked fu_edited fu_written fu_at fu_end fu_began fu_many au_segments au_names au_nameSize au_bases au_length au_links au_from au_to au_paths au_steps au_step au_sideOf_7 au_within_9) := by rw [eau_within_9]; exact hD
        refine lv_aload_n hx hb d_Mo_adopt_282 rfl (lv_at hl 0 rfl) ?_
        refine lv_dup hx hb d_Mo_adopt_283 rfl ?_
        refine va_get (D := (dC, dI)) (ci := 6) (v := .int fu_places) (C := R_Mo) (T := T_Mo) (N := 33) hx hb hts in_Mo hown hK hP 0 rfl rfl 15 (by decide) (hts _ w_480) (fun _ h9 => h9) rfl d_Mo_adopt_284 ?_
        refine lv_iconst (v := 1) hx hb d_Mo_adopt_287 (by decide) ?_
        refine lv_iadd hx hb d_Mo_adopt_288 ?_
        refine lv_topi (fun x_10 ex_10 => ?_)
        have h := h x_10 ex_10
        refine va_put (D := (dC, dI)) (ci := 6) (v := .int x_10) (ty := .int) (C := R_Mo) (T := T_Mo) (N := 33) hx hb hts in_Mo t_Mo t_Mo_ok n_Mo hown hK hP hD hS 0 rfl rfl 15 (by decide) (hts _ w_480) (fun _ h9 => h9) rfl (by decide +kernel) rfl rfl (Nat.le_of_ble_eq_true rfl) d_Mo_adopt_289 (fun H locs hP hD hS => ?_)
        have hP : va_P (dC, dI) cls (W_Mo_adopt cI cC cB qu qu_segments qu_names qu_nameSize qu_bases qu_length qu_links qu_from qu_to qu_paths qu_steps qu_step qu_sideOf qu_within qu_text qu_titles qu_titleSize qu_read qu_cost qu_walk qu_edits qu_said fu_size x_10 fu_reads fu_there fu_total fu_walked fu_edited fu_written fu_at fu_end fu_began fu_many au_segments au_names au_nameSize au_bases au_length au_links au_from au_to au_paths au_steps au_step au_sideOf_7 au_within_9) H := hP
        have hD : va_D A (W_Mo_adopt cI cC cB qu qu_segments qu_names qu_nameSize qu_bases qu_length qu_links qu_from qu_to qu_paths qu_steps qu_step qu_sideOf qu_within qu_text qu_titles qu_titleSize qu_read qu_cost qu_walk qu_edits qu_said fu_size x_10 fu_reads fu_there fu_total fu_walked fu_edited fu_written fu_at fu_end fu_began fu_many au_segments au_names au_nameSize au_bases au_length au_links au_from au_to au_paths au_steps au_step au_sideOf_7 au_within_9) := hD
        obtain ⟨x2_11, ex2_11⟩ : ∃ y : Int32, y = x2 + 1 := ⟨_, rfl⟩
        have h := h x2_11 ex2_11
        refine lv_iinc (v := x2_11) (lv' := [(2, .int x2_11), (0, .ref qu), (1, .int x1)]) hx hb d_Mo_adopt_292 hl (k := 2) rfl (by rw [ex2_11]; rfl) (by decide) rfl (fun ls hl => ?_)
        refine lv_goto (tgt := 250) hx hb d_Mo_adopt_295 (by decide) ?_
        exact ih _ _ _ _ _ _ _ _ _ _ _ _ _ _ _ _ _ _ _ _ h hP hD hS (lv_sub hl [1, 2, 0] rfl)
  have blk_236 : ∀  (n : Nat) (x1 : Int32) (fu_places : Int32) (fu_there : Int32) (au_segments : Nat → Int32) (au_names : Nat → Int32) (au_nameSize : Nat → Int32) (au_bases : Nat → Int32) (au_length : Nat → Int32) (au_links : Nat → Int32) (au_from : Nat → Int32) (au_to : Nat → Int32) (au_paths : Nat → Int32) (au_steps : Nat → Int32) (au_step : Nat → Int32) (au_sideOf : Nat → Int32) (au_within : Nat → Int32)  (H : Heap) (locs : List Loc) (ls : Array Slot), w_Mo_adopt_236 Q   n x1 fu_places fu_there au_segments au_names au_nameSize au_bases au_length au_links au_from au_to au_paths au_steps au_step au_sideOf au_within → va_P (dC, dI) cls (W_Mo_adopt cI cC cB qu qu_segments qu_names qu_nameSize qu_bases qu_length qu_links qu_from qu_to qu_paths qu_steps qu_step qu_sideOf qu_within qu_text qu_titles qu_titleSize qu_read qu_cost qu_walk qu_edits qu_said fu_size fu_places fu_reads fu_there fu_total fu_walked fu_edited fu_written fu_at fu_end fu_began fu_many au_segments au_names au_nameSize au_bases au_length au_links au_from au_to au_paths au_steps au_step au_sideOf au_within) H → va_D A (W_Mo_adopt cI cC cB qu qu_segments qu_names qu_nameSize qu_bases qu_length qu_links qu_from qu_to qu_paths qu_steps qu_step qu_sideOf qu_within qu_text qu_titles qu_titleSize qu_read qu_cost qu_walk qu_edits qu_said fu_size fu_places fu_reads fu_there fu_total fu_walked fu_edited fu_written fu_at fu_end fu_began fu_many au_segments au_names au_nameSize au_bases au_length au_links au_from au_to au_paths au_steps au_step au_sideOf au_within) → va_S A s.heap H locs → lv_has ls 3 [(0, .ref qu), (1, .int x1)] → W p l e rm_Mo_adopt s m args below meth c H locs 0 0 QF (F0 m 236 ls []) := by
    intro  n
    induction n with
    | zero => intro x1 fu_places fu_there au_segments au_names au_nameSize au_bases au_length au_links au_from au_to au_paths au_steps au_step au_sideOf au_within  H locs ls h; exact (show False from h).elim
    | succ n ih =>
      intro x1 fu_places fu_there au_segments au_names au_nameSize au_bases au_length au_links au_from au_to au_paths au_steps au_step au_sideOf au_within  H locs ls h hP hD hS hl
      have h : w_Mo_adopt_236B Q  (w_Mo_adopt_236 Q   n)  x1 fu_places fu_there au_segments au_names au_nameSize au_bases au_length au_links au_from au_to au_paths au_steps au_step au_sideOf au_within := h
      generalize w_Mo_adopt_236 Q   n = K_236 at h ih
      unfold w_Mo_adopt_236B at h
      refine lv_iload_n hx hb d_Mo_adopt_236 rfl (lv_at hl 1 rfl) ?_
      refine lv_iconst (v := 2) hx hb d_Mo_adopt_237 (by decide) ?_
      refine lv_aload_n hx hb d_Mo_adopt_238 rfl (lv_at hl 0 rfl) ?_
      refine va_get (D := (dC, dI)) (ci := 6) (v := .ref qu_segments) (C := R_Mo) (T := T_Mo) (N := 33) hx hb hts in_Mo hown hK hP 0 rfl rfl 2 (by decide) (hts _ w_431) (fun _ h9 => h9) rfl d_Mo_adopt_239 ?_
      refine lv_iconst (v := 0) hx hb d_Mo_adopt_242 (by decide) ?_
      have hi_12 := h.1
      have h := h.2
      refine va_iald hx hb hK hP 1 0 rfl rfl hi_12 d_Mo_adopt_243 ?_
      refine lv_imul hx hb d_Mo_adopt_244 ?_
      refine lv_topi (fun x_13 ex_13 => ?_)
      have h := h x_13 ex_13
      refine lv_icmp_ge (tgt := 304) hx hb d_Mo_adopt_245 (by decide) (fun c_14 => ?_) (fun c_14 => ?_)
      · have h := h.1 c_14
        exact hret (fu_places, fu_there, au_segments, au_names, au_nameSize, au_bases, au_length, au_links, au_from, au_to, au_paths, au_steps, au_step, au_sideOf, au_within) () _ _ _ _ h hP hD hS d_Mo_adopt_304
      · have h := h.2 c_14
        refine lv_iconst (v := 0) hx hb d_Mo_adopt_248 (by decide) ?_
        refine lv_istore_n (lv' := [(2, .int 0), (0, .ref qu), (1, .int x1)]) hx hb d_Mo_adopt_249 rfl hl (by decide) rfl (fun ls hl => ?_)
        obtain ⟨fu_250, h⟩ := h
        exact blk_250 _ ih _ _ _ _ _ _ _ _ _ _ _ _ _ _ _ _ _ _ _ _ _ h hP hD hS (lv_sub hl [1, 2, 0] rfl)
  have blk_199 : ∀  (n : Nat) (x1 : Int32) (fu_places : Int32) (fu_there : Int32) (au_segments : Nat → Int32) (au_names : Nat → Int32) (au_nameSize : Nat → Int32) (au_bases : Nat → Int32) (au_length : Nat → Int32) (au_links : Nat → Int32) (au_from : Nat → Int32) (au_to : Nat → Int32) (au_paths : Nat → Int32) (au_steps : Nat → Int32) (au_step : Nat → Int32) (au_sideOf : Nat → Int32) (au_within : Nat → Int32)  (H : Heap) (locs : List Loc) (ls : Array Slot), w_Mo_adopt_199 Q   n x1 fu_places fu_there au_segments au_names au_nameSize au_bases au_length au_links au_from au_to au_paths au_steps au_step au_sideOf au_within → va_P (dC, dI) cls (W_Mo_adopt cI cC cB qu qu_segments qu_names qu_nameSize qu_bases qu_length qu_links qu_from qu_to qu_paths qu_steps qu_step qu_sideOf qu_within qu_text qu_titles qu_titleSize qu_read qu_cost qu_walk qu_edits qu_said fu_size fu_places fu_reads fu_there fu_total fu_walked fu_edited fu_written fu_at fu_end fu_began fu_many au_segments au_names au_nameSize au_bases au_length au_links au_from au_to au_paths au_steps au_step au_sideOf au_within) H → va_D A (W_Mo_adopt cI cC cB qu qu_segments qu_names qu_nameSize qu_bases qu_length qu_links qu_from qu_to qu_paths qu_steps qu_step qu_sideOf qu_within qu_text qu_titles qu_titleSize qu_read qu_cost qu_walk qu_edits qu_said fu_size fu_places fu_reads fu_there fu_total fu_walked fu_edited fu_written fu_at fu_end fu_began fu_many au_segments au_names au_nameSize au_bases au_length au_links au_from au_to au_paths au_steps au_step au_sideOf au_within) → va_S A s.heap H locs → lv_has ls 3 [(0, .ref qu), (1, .int x1)] → W p l e rm_Mo_adopt s m args below meth c H locs 0 0 QF (F0 m 199 ls []) := by
    intro  n
    induction n with
    | zero => intro x1 fu_places fu_there au_segments au_names au_nameSize au_bases au_length au_links au_from au_to au_paths au_steps au_step au_sideOf au_within  H locs ls h; exact (show False from h).elim
    | succ n ih =>
      intro x1 fu_places fu_there au_segments au_names au_nameSize au_bases au_length au_links au_from au_to au_paths au_steps au_step au_sideOf au_within  H locs ls h hP hD hS hl
      have h : w_Mo_adopt_199B Q  (w_Mo_adopt_199 Q   n)  x1 fu_places fu_there au_segments au_names au_nameSize au_bases au_length au_links au_from au_to au_paths au_steps au_step au_sideOf au_within := h
      generalize w_Mo_adopt_199 Q   n = K_199 at h ih
      unfold w_Mo_adopt_199B at h
      refine lv_iload_n hx hb d_Mo_adopt_199 rfl (lv_at hl 1 rfl) ?_
      refine lv_iconst (v := 4) hx hb d_Mo_adopt_200 (by decide) ?_
      refine lv_icmp_ge (tgt := 224) hx hb d_Mo_adopt_201 (by decide) (fun c_15 => ?_) (fun c_15 => ?_)
      · have h := h.1 c_15
        refine lv_aload_n hx hb d_Mo_adopt_224 rfl (lv_at hl 0 rfl) ?_
        refine lv_iconst (v := 0) hx hb d_Mo_adopt_225 (by decide) ?_
        refine va_put (D := (dC, dI)) (ci := 6) (v := .int 0) (ty := .boolean) (C := R_Mo) (T := T_Mo) (N := 33) hx hb hts in_Mo t_Mo t_Mo_ok n_Mo hown hK hP hD hS 0 rfl rfl 21 (by decide) (hts _ w_482) (fun _ h9 => h9) rfl (by decide +kernel) rfl rfl (Nat.le_of_ble_eq_true rfl) d_Mo_adopt_226 (fun H locs hP hD hS => ?_)
        have hP : va_P (dC, dI) cls (W_Mo_adopt cI cC cB qu qu_segments qu_names qu_nameSize qu_bases qu_length qu_links qu_from qu_to qu_paths qu_steps qu_step qu_sideOf qu_within qu_text qu_titles qu_titleSize qu_read qu_cost qu_walk qu_edits qu_said fu_size fu_places fu_reads 0 fu_total fu_walked fu_edited fu_written fu_at fu_end fu_began fu_many au_segments au_names au_nameSize au_bases au_length au_links au_from au_to au_paths au_steps au_step au_sideOf au_within) H := hP
        have hD : va_D A (W_Mo_adopt cI cC cB qu qu_segments qu_names qu_nameSize qu_bases qu_length qu_links qu_from qu_to qu_paths qu_steps qu_step qu_sideOf qu_within qu_text qu_titles qu_titleSize qu_read qu_cost qu_walk qu_edits qu_said fu_size fu_places fu_reads 0 fu_total fu_walked fu_edited fu_written fu_at fu_end fu_began fu_many au_segments au_names au_nameSize au_bases au_length au_links au_from au_to au_paths au_steps au_step au_sideOf au_within) := hD
        refine lv_aload_n hx hb d_Mo_adopt_229 rfl (lv_at hl 0 rfl) ?_
        refine lv_iconst (v := 0) hx hb d_Mo_adopt_230 (by decide) ?_
        refine va_put (D := (dC, dI)) (ci := 6) (v := .int 0) (ty := .int) (C := R_Mo) (T := T_Mo) (N := 33) hx hb hts in_Mo t_Mo t_Mo_ok n_Mo hown hK hP hD hS 0 rfl rfl 15 (by decide) (hts _ w_480) (fun _ h9 => h9) rfl (by decide +kernel) rfl rfl (Nat.le_of_ble_eq_true rfl) d_Mo_adopt_231 (fun H locs hP hD hS => ?_)
        have hP : va_P (dC, dI) cls (W_Mo_adopt cI cC cB qu qu_segments qu_names qu_nameSize qu_bases qu_length qu_links qu_from qu_to qu_paths qu_steps qu_step qu_sideOf qu_within qu_text qu_titles qu_titleSize qu_read qu_cost qu_walk qu_edits qu_said fu_size 0 fu_reads 0 fu_total fu_walked fu_edited fu_written fu_at fu_end fu_began fu_many au_segments au_names au_nameSize au_bases au_length au_links au_from au_to au_paths au_steps au_step au_sideOf au_within) H := hP
        have hD : va_D A (W_Mo_adopt cI cC cB qu qu_segments qu_names qu_nameSize qu_bases qu_length qu_links qu_from qu_to qu_paths qu_steps qu_step qu_sideOf qu_within qu_text qu_titles qu_titleSize qu_read qu_cost qu_walk qu_edits qu_said fu_size 0 fu_reads 0 fu_total fu_walked fu_edited fu_written fu_at fu_end fu_began fu_many au_segments au_names au_nameSize au_bases au_length au_links au_from au_to au_paths au_steps au_step au_sideOf au_within) := hD
        refine lv_iconst (v := 0) hx hb d_Mo_adopt_234 (by decide) ?_
        refine lv_istore_n (lv' := [(1, .int 0), (0, .ref qu)]) hx hb d_Mo_adopt_235 rfl hl (by decide) rfl (fun ls hl => ?_)
        obtain ⟨fu_236, h⟩ := h
        exact blk_236  _ _ _ _ _ _ _ _ _ _ _ _ _ _ _ _ _ _ _ _ h hP hD hS (lv_sub hl [1, 0] rfl)
      · have h := h.2 c_15
        refine lv_aload_n hx hb d_Mo_adopt_204 rfl (lv_at hl 0 rfl) ?_
        refine va_get (D := (dC, dI)) (ci := 6) (v := .ref qu_steps) (C := R_Mo) (T := T_Mo) (N := 33) hx hb hts in_Mo hown hK hP 0 rfl rfl 13 (by decide) (hts _ w_419) (fun _ h9 => h9) rfl d_Mo_adopt_205 ?_
        refine lv_iload_n hx hb d_Mo_adopt_208 rfl (lv_at hl 1 rfl) ?_
        refine lv_aload_n hx hb d_Mo_adopt_209 rfl (lv_at hl 0 rfl) ?_
        refine va_get (D := (dC, dI)) (ci := 6) (v := .ref qu_steps) (C := R_Mo) (T := T_Mo) (N := 33) hx hb hts in_Mo hown hK hP 0 rfl rfl 13 (by decide) (hts _ w_419) (fun _ h9 => h9) rfl d_Mo_adopt_210 ?_
        refine lv_iconst (v := 4) hx hb d_Mo_adopt_213 (by decide) ?_
        refine lv_iload_n hx hb d_Mo_adopt_214 rfl (lv_at hl 1 rfl) ?_
        refine lv_iadd hx hb d_Mo_adopt_215 ?_
        refine lv_topi (fun x_16 ex_16 => ?_)
        have h := h x_16 ex_16
        have hi_17 := h.1
        have h := h.2
        refine va_iald hx hb hK hP 10 0 rfl rfl hi_17 d_Mo_adopt_216 ?_
        refine lv_topi (fun y_18 ey_18 => ?_)
        have h := h y_18 ey_18
        have hi_19 := h.1
        have h := h.2
        refine va_iast hx hb hK hP hD hS 10 0 rfl rfl hi_19 d_Mo_adopt_217 (fun H locs hP hD hS => ?_)
        obtain ⟨au_steps_20, eau_steps_20⟩ : ∃ z : Nat → Int32, z = upd au_steps x1.toNatClampNeg y_18 := ⟨_, rfl⟩
        have h := h au_steps_20 eau_steps_20
        have hP : va_P (dC, dI) cls (W_Mo_adopt cI cC cB qu qu_segments qu_names qu_nameSize qu_bases qu_length qu_links qu_from qu_to qu_paths qu_steps qu_step qu_sideOf qu_within qu_text qu_titles qu_titleSize qu_read qu_cost qu_walk qu_edits qu_said fu_size fu_places fu_reads fu_there fu_total fu_walked fu_edited fu_written fu_at fu_end fu_began fu_many au_segments au_names au_nameSize au_bases au_length au_links au_from au_to au_paths au_steps_20 au_step au_sideOf au_within) H := by rw [eau_steps_20]; exact hP
        have hD : va_D A (W_Mo_adopt cI cC cB qu qu_segments qu_names qu_nameSize qu_bases qu_length qu_links qu_from qu_to qu_paths qu_steps qu_step qu_sideOf qu_within qu_text qu_titles qu_titleSize qu_read qu_cost qu_walk qu_edits qu_said fu_size fu_places fu_reads fu_there fu_total fu_walked fu_edited fu_written fu_at fu_end fu_began fu_many au_segments au_names au_nameSize au_bases au_length au_links au_from au_to au_paths au_steps_20 au_step au_sideOf au_within) := by rw [eau_steps_20]; exact hD
        obtain ⟨x1_21, ex1_21⟩ : ∃ y : Int32, y = x1 + 1 := ⟨_, rfl⟩
        have h := h x1_21 ex1_21
        refine lv_iinc (v := x1_21) (lv' := [(1, .int x1_21), (0, .ref qu)]) hx hb d_Mo_adopt_218 hl (k := 1) rfl (by rw [ex1_21]; rfl) (by decide) rfl (fun ls hl => ?_)
        refine lv_goto (tgt := 199) hx hb d_Mo_adopt_221 (by decide) ?_
        exact ih _ _ _ _ _ _ _ _ _ _ _ _ _ _ _ _ _ _ _ h hP hD hS (lv_sub hl [1, 0] rfl)
  have blk_155 : ∀  (n : Nat) (x1 : Int32) (fu_places : Int32) (fu_there : Int32) (au_segments : Nat → Int32) (au_names : Nat → Int32) (au_nameSize : Nat → Int32) (au_bases : Nat → Int32) (au_length : Nat → Int32) (au_links : Nat → Int32) (au_from : Nat → Int32) (au_to : Nat → Int32) (au_paths : Nat → Int32) (au_steps : Nat → Int32) (au_step : Nat → Int32) (au_sideOf : Nat → Int32) (au_within : Nat → Int32)  (H : Heap) (locs : List Loc) (ls : Array Slot), w_Mo_adopt_155 Q   n x1 fu_places fu_there au_segments au_names au_nameSize au_bases au_length au_links au_from au_to au_paths au_steps au_step au_sideOf au_within → va_P (dC, dI) cls (W_Mo_adopt cI cC cB qu qu_segments qu_names qu_nameSize qu_bases qu_length qu_links qu_from qu_to qu_paths qu_steps qu_step qu_sideOf qu_within qu_text qu_titles qu_titleSize qu_read qu_cost qu_walk qu_edits qu_said fu_size fu_places fu_reads fu_there fu_total fu_walked fu_edited fu_written fu_at fu_end fu_began fu_many au_segments au_names au_nameSize au_bases au_length au_links au_from au_to au_paths au_steps au_step au_sideOf au_within) H → va_D A (W_Mo_adopt cI cC cB qu qu_segments qu_names qu_nameSize qu_bases qu_length qu_links qu_from qu_to qu_paths qu_steps qu_step qu_sideOf qu_within qu_text qu_titles qu_titleSize qu_read qu_cost qu_walk qu_edits qu_said fu_size fu_places fu_reads fu_there fu_total fu_walked fu_edited fu_written fu_at fu_end fu_began fu_many au_segments au_names au_nameSize au_bases au_length au_links au_from au_to au_paths au_steps au_step au_sideOf au_within) → va_S A s.heap H locs → lv_has ls 3 [(0, .ref qu), (1, .int x1)] → W p l e rm_Mo_adopt s m args below meth c H locs 0 0 QF (F0 m 155 ls []) := by
    intro  n
    induction n with
    | zero => intro x1 fu_places fu_there au_segments au_names au_nameSize au_bases au_length au_links au_from au_to au_paths au_steps au_step au_sideOf au_within  H locs ls h; exact (show False from h).elim
    | succ n ih =>
      intro x1 fu_places fu_there au_segments au_names au_nameSize au_bases au_length au_links au_from au_to au_paths au_steps au_step au_sideOf au_within  H locs ls h hP hD hS hl
      have h : w_Mo_adopt_155B Q  (w_Mo_adopt_155 Q   n)  x1 fu_places fu_there au_segments au_names au_nameSize au_bases au_length au_links au_from au_to au_paths au_steps au_step au_sideOf au_within := h
      generalize w_Mo_adopt_155 Q   n = K_155 at h ih
      unfold w_Mo_adopt_155B at h
      refine lv_iload_n hx hb d_Mo_adopt_155 rfl (lv_at hl 1 rfl) ?_
      refine lv_bipush (v := 12) hx hb d_Mo_adopt_156 (by decide) ?_
      refine lv_icmp_ge (tgt := 197) hx hb d_Mo_adopt_158 (by decide) (fun c_22 => ?_) (fun c_22 => ?_)
      · have h := h.1 c_22
        refine lv_iconst (v := 0) hx hb d_Mo_adopt_197 (by decide) ?_
        refine lv_istore_n (lv' := [(1, .int 0), (0, .ref qu)]) hx hb d_Mo_adopt_198 rfl hl (by decide) rfl (fun ls hl => ?_)
        obtain ⟨fu_199, h⟩ := h
        exact blk_199  _ _ _ _ _ _ _ _ _ _ _ _ _ _ _ _ _ _ _ _ h hP hD hS (lv_sub hl [1, 0] rfl)
      · have h := h.2 c_22
        refine lv_aload_n hx hb d_Mo_adopt_161 rfl (lv_at hl 0 rfl) ?_
        refine va_get (D := (dC, dI)) (ci := 6) (v := .ref qu_from) (C := R_Mo) (T := T_Mo) (N := 33) hx hb hts in_Mo hown hK hP 0 rfl rfl 8 (by decide) (hts _ w_442) (fun _ h9 => h9) rfl d_Mo_adopt_162 ?_
        refine lv_iload_n hx hb d_Mo_adopt_165 rfl (lv_at hl 1 rfl) ?_
        refine lv_aload_n hx hb d_Mo_adopt_166 rfl (lv_at hl 0 rfl) ?_
        refine va_get (D := (dC, dI)) (ci := 6) (v := .ref qu_from) (C := R_Mo) (T := T_Mo) (N := 33) hx hb hts in_Mo hown hK hP 0 rfl rfl 8 (by decide) (hts _ w_442) (fun _ h9 => h9) rfl d_Mo_adopt_167 ?_
        refine lv_bipush (v := 12) hx hb d_Mo_adopt_170 (by decide) ?_
        refine lv_iload_n hx hb d_Mo_adopt_172 rfl (lv_at hl 1 rfl) ?_
        refine lv_iadd hx hb d_Mo_adopt_173 ?_
        refine lv_topi (fun x_23 ex_23 => ?_)
        have h := h x_23 ex_23
        have hi_24 := h.1
        have h := h.2
        refine va_iald hx hb hK hP 7 0 rfl rfl hi_24 d_Mo_adopt_174 ?_
        refine lv_topi (fun y_25 ey_25 => ?_)
        have h := h y_25 ey_25
        have hi_26 := h.1
        have h := h.2
        refine va_iast hx hb hK hP hD hS 7 0 rfl rfl hi_26 d_Mo_adopt_175 (fun H locs hP hD hS => ?_)
        obtain ⟨au_from_27, eau_from_27⟩ : ∃ z : Nat → Int32, z = upd au_from x1.toNatClampNeg y_25 := ⟨_, rfl⟩
        have h := h au_from_27 eau_from_27
        have hP : va_P (dC, dI) cls (W_Mo_adopt cI cC cB qu qu_segments qu_names qu_nameSize qu_bases qu_length qu_links qu_from qu_to qu_paths qu_steps qu_step qu_sideOf qu_within qu_text qu_titles qu_titleSize qu_read qu_cost qu_walk qu_edits qu_said fu_size fu_places fu_reads fu_there fu_total fu_walked fu_edited fu_written fu_at fu_end fu_began fu_many au_segments au_names au_nameSize au_bases au_length au_links au_from_27 au_to au_paths au_steps au_step au_sideOf au_within) H := by rw [eau_from_27]; exact hP
        have hD : va_D A (W_Mo_adopt cI cC cB qu qu_segments qu_names qu_nameSize qu_bases qu_length qu_links qu_from qu_to qu_paths qu_steps qu_step qu_sideOf qu_within qu_text qu_titles qu_titleSize qu_read qu_cost qu_walk qu_edits qu_said fu_size fu_places fu_reads fu_there fu_total fu_walked fu_edited fu_written fu_at fu_end fu_began fu_many au_segments au_names au_nameSize au_bases au_length au_links au_from_27 au_to au_paths au_steps au_step au_sideOf au_within) := by rw [eau_from_27]; exact hD
        refine lv_aload_n hx hb d_Mo_adopt_176 rfl (lv_at hl 0 rfl) ?_
        refine va_get (D := (dC, dI)) (ci := 6) (v := .ref qu_to) (C := R_Mo) (T := T_Mo) (N := 33) hx hb hts in_Mo hown hK hP 0 rfl rfl 9 (by decide) (hts _ w_441) (fun _ h9 => h9) rfl d_Mo_adopt_177 ?_
        refine lv_iload_n hx hb d_Mo_adopt_180 rfl (lv_at hl 1 rfl) ?_
        refine lv_aload_n hx hb d_Mo_adopt_181 rfl (lv_at hl 0 rfl) ?_
        refine va_get (D := (dC, dI)) (ci := 6) (v := .ref qu_to) (C := R_Mo) (T := T_Mo) (N := 33) hx hb hts in_Mo hown hK hP 0 rfl rfl 9 (by decide) (hts _ w_441) (fun _ h9 => h9) rfl d_Mo_adopt_182 ?_
        refine lv_bipush (v := 12) hx hb d_Mo_adopt_185 (by decide) ?_
        refine lv_iload_n hx hb d_Mo_adopt_187 rfl (lv_at hl 1 rfl) ?_
        refine lv_iadd hx hb d_Mo_adopt_188 ?_
        refine lv_topi (fun x_28 ex_28 => ?_)
        have h := h x_28 ex_28
        have hi_29 := h.1
        have h := h.2
        refine va_iald hx hb hK hP 8 0 rfl rfl hi_29 d_Mo_adopt_189 ?_
        refine lv_topi (fun y_30 ey_30 => ?_)
        have h := h y_30 ey_30
        have hi_31 := h.1
        have h := h.2
        refine va_iast hx hb hK hP hD hS 8 0 rfl rfl hi_31 d_Mo_adopt_190 (fun H locs hP hD hS => ?_)
        obtain ⟨au_to_32, eau_to_32⟩ : ∃ z : Nat → Int32, z = upd au_to x1.toNatClampNeg y_30 := ⟨_, rfl⟩
        have h := h au_to_32 eau_to_32
        have hP : va_P (dC, dI) cls (W_Mo_adopt cI cC cB qu qu_segments qu_names qu_nameSize qu_bases qu_length qu_links qu_from qu_to qu_paths qu_steps qu_step qu_sideOf qu_within qu_text qu_titles qu_titleSize qu_read qu_cost qu_walk qu_edits qu_said fu_size fu_places fu_reads fu_there fu_total fu_walked fu_edited fu_written fu_at fu_end fu_began fu_many au_segments au_names au_nameSize au_bases au_length au_links au_from_27 au_to_32 au_paths au_steps au_step au_sideOf au_within) H := by rw [eau_to_32]; exact hP
        have hD : va_D A (W_Mo_adopt cI cC cB qu qu_segments qu_names qu_nameSize qu_bases qu_length qu_links qu_from qu_to qu_paths qu_steps qu_step qu_sideOf qu_within qu_text qu_titles qu_titleSize qu_read qu_cost qu_walk qu_edits qu_said fu_size fu_places fu_reads fu_there fu_total fu_walked fu_edited fu_written fu_at fu_end fu_began fu_many au_segments au_names au_nameSize au_bases au_length au_links au_from_27 au_to_32 au_paths au_steps au_step au_sideOf au_within) := by rw [eau_to_32]; exact hD
        obtain ⟨x1_33, ex1_33⟩ : ∃ y : Int32, y = x1 + 1 := ⟨_, rfl⟩
        have h := h x1_33 ex1_33
        refine lv_iinc (v := x1_33) (lv' := [(1, .int x1_33), (0, .ref qu)]) hx hb d_Mo_adopt_191 hl (k := 1) rfl (by rw [ex1_33]; rfl) (by decide) rfl (fun ls hl => ?_)
        refine lv_goto (tgt := 155) hx hb d_Mo_adopt_194 (by decide) ?_
        exact ih _ _ _ _ _ _ _ _ _ _ _ _ _ _ _ _ _ _ _ h hP hD hS (lv_sub hl [1, 0] rfl)
  have blk_111 : ∀  (n : Nat) (x1 : Int32) (fu_places : Int32) (fu_there : Int32) (au_segments : Nat → Int32) (au_names : Nat → Int32) (au_nameSize : Nat → Int32) (au_bases : Nat → Int32) (au_length : Nat → Int32) (au_links : Nat → Int32) (au_from : Nat → Int32) (au_to : Nat → Int32) (au_paths : Nat → Int32) (au_steps : Nat → Int32) (au_step : Nat → Int32) (au_sideOf : Nat → Int32) (au_within : Nat → Int32)  (H : Heap) (locs : List Loc) (ls : Array Slot), w_Mo_adopt_111 Q   n x1 fu_places fu_there au_segments au_names au_nameSize au_bases au_length au_links au_from au_to au_paths au_steps au_step au_sideOf au_within → va_P (dC, dI) cls (W_Mo_adopt cI cC cB qu qu_segments qu_names qu_nameSize qu_bases qu_length qu_links qu_from qu_to qu_paths qu_steps qu_step qu_sideOf qu_within qu_text qu_titles qu_titleSize qu_read qu_cost qu_walk qu_edits qu_said fu_size fu_places fu_reads fu_there fu_total fu_walked fu_edited fu_written fu_at fu_end fu_began fu_many au_segments au_names au_nameSize au_bases au_length au_links au_from au_to au_paths au_steps au_step au_sideOf au_within) H → va_D A (W_Mo_adopt cI cC cB qu qu_segments qu_names qu_nameSize qu_bases qu_length qu_links qu_from qu_to qu_paths qu_steps qu_step qu_sideOf qu_within qu_text qu_titles qu_titleSize qu_read qu_cost qu_walk qu_edits qu_said fu_size fu_places fu_reads fu_there fu_total fu_walked fu_edited fu_written fu_at fu_end fu_began fu_many au_segments au_names au_nameSize au_bases au_length au_links au_from au_to au_paths au_steps au_step au_sideOf au_within) → va_S A s.heap H locs → lv_has ls 3 [(0, .ref qu), (1, .int x1)] → W p l e rm_Mo_adopt s m args below meth c H locs 0 0 QF (F0 m 111 ls []) := by
    intro  n
    induction n with
    | zero => intro x1 fu_places fu_there au_segments au_names au_nameSize au_bases au_length au_links au_from au_to au_paths au_steps au_step au_sideOf au_within  H locs ls h; exact (show False from h).elim
    | succ n ih =>
      intro x1 fu_places fu_there au_segments au_names au_nameSize au_bases au_length au_links au_from au_to au_paths au_steps au_step au_sideOf au_within  H locs ls h hP hD hS hl
      have h : w_Mo_adopt_111B Q  (w_Mo_adopt_111 Q   n)  x1 fu_places fu_there au_segments au_names au_nameSize au_bases au_length au_links au_from au_to au_paths au_steps au_step au_sideOf au_within := h
      generalize w_Mo_adopt_111 Q   n = K_111 at h ih
      unfold w_Mo_adopt_111B at h
      refine lv_iload_n hx hb d_Mo_adopt_111 rfl (lv_at hl 1 rfl) ?_
      refine lv_bipush (v := 32) hx hb d_Mo_adopt_112 (by decide) ?_
      refine lv_icmp_ge (tgt := 153) hx hb d_Mo_adopt_114 (by decide) (fun c_34 => ?_) (fun c_34 => ?_)
      · have h := h.1 c_34
        refine lv_iconst (v := 0) hx hb d_Mo_adopt_153 (by decide) ?_
        refine lv_istore_n (lv' := [(1, .int 0), (0, .ref qu)]) hx hb d_Mo_adopt_154 rfl hl (by decide) rfl (fun ls hl => ?_)
        obtain ⟨fu_155, h⟩ := h
        exact blk_155  _ _ _ _ _ _ _ _ _ _ _ _ _ _ _ _ _ _ _ _ h hP hD hS (lv_sub hl [1, 0] rfl)
      · have h := h.2 c_34
        refine lv_aload_n hx hb d_Mo_adopt_117 rfl (lv_at hl 0 rfl) ?_
        refine va_get (D := (dC, dI)) (ci := 6) (v := .ref qu_bases) (C := R_Mo) (T := T_Mo) (N := 33) hx hb hts in_Mo hown hK hP 0 rfl rfl 5 (by decide) (hts _ w_467) (fun _ h9 => h9) rfl d_Mo_adopt_118 ?_
        refine lv_iload_n hx hb d_Mo_adopt_121 rfl (lv_at hl 1 rfl) ?_
        refine lv_aload_n hx hb d_Mo_adopt_122 rfl (lv_at hl 0 rfl) ?_
        refine va_get (D := (dC, dI)) (ci := 6) (v := .ref qu_bases) (C := R_Mo) (T := T_Mo) (N := 33) hx hb hts in_Mo hown hK hP 0 rfl rfl 5 (by decide) (hts _ w_467) (fun _ h9 => h9) rfl d_Mo_adopt_123 ?_
        refine lv_bipush (v := 32) hx hb d_Mo_adopt_126 (by decide) ?_
        refine lv_iload_n hx hb d_Mo_adopt_128 rfl (lv_at hl 1 rfl) ?_
        refine lv_iadd hx hb d_Mo_adopt_129 ?_
        refine lv_topi (fun x_35 ex_35 => ?_)
        have h := h x_35 ex_35
        have hi_36 := h.1
        have h := h.2
        refine va_cald hx hb hK hP 4 1 rfl rfl hi_36 d_Mo_adopt_130 ?_
        refine lv_topi (fun y_37 ey_37 => ?_)
        have h := h y_37 ey_37
        have hi_38 := h.1
        have h := h.2
        refine va_cast hx hb hK hP hD hS 4 1 rfl rfl hi_38 d_Mo_adopt_131 (fun H locs hP hD hS => ?_)
        obtain ⟨au_bases_39, eau_bases_39⟩ : ∃ z : Nat → Int32, z = upd au_bases x1.toNatClampNeg (vp_nar .char y_37) := ⟨_, rfl⟩
        have h := h au_bases_39 eau_bases_39
        have hP : va_P (dC, dI) cls (W_Mo_adopt cI cC cB qu qu_segments qu_names qu_nameSize qu_bases qu_length qu_links qu_from qu_to qu_paths qu_steps qu_step qu_sideOf qu_within qu_text qu_titles qu_titleSize qu_read qu_cost qu_walk qu_edits qu_said fu_size fu_places fu_reads fu_there fu_total fu_walked fu_edited fu_written fu_at fu_end fu_began fu_many au_segments au_names au_nameSize au_bases_39 au_length au_links au_from au_to au_paths au_steps au_step au_sideOf au_within) H := by rw [eau_bases_39]; exact hP
        have hD : va_D A (W_Mo_adopt cI cC cB qu qu_segments qu_names qu_nameSize qu_bases qu_length qu_links qu_from qu_to qu_paths qu_steps qu_step qu_sideOf qu_within qu_text qu_titles qu_titleSize qu_read qu_cost qu_walk qu_edits qu_said fu_size fu_places fu_reads fu_there fu_total fu_walked fu_edited fu_written fu_at fu_end fu_began fu_many au_segments au_names au_nameSize au_bases_39 au_length au_links au_from au_to au_paths au_steps au_step au_sideOf au_within) := by rw [eau_bases_39]; exact hD
        refine lv_aload_n hx hb d_Mo_adopt_132 rfl (lv_at hl 0 rfl) ?_
        refine va_get (D := (dC, dI)) (ci := 6) (v := .ref qu_step) (C := R_Mo) (T := T_Mo) (N := 33) hx hb hts in_Mo hown hK hP 0 rfl rfl 14 (by decide) (hts _ w_413) (fun _ h9 => h9) rfl d_Mo_adopt_133 ?_
        refine lv_iload_n hx hb d_Mo_adopt_136 rfl (lv_at hl 1 rfl) ?_
        refine lv_aload_n hx hb d_Mo_adopt_137 rfl (lv_at hl 0 rfl) ?_
        refine va_get (D := (dC, dI)) (ci := 6) (v := .ref qu_step) (C := R_Mo) (T := T_Mo) (N := 33) hx hb hts in_Mo hown hK hP 0 rfl rfl 14 (by decide) (hts _ w_413) (fun _ h9 => h9) rfl d_Mo_adopt_138 ?_
        refine lv_bipush (v := 32) hx hb d_Mo_adopt_141 (by decide) ?_
        refine lv_iload_n hx hb d_Mo_adopt_143 rfl (lv_at hl 1 rfl) ?_
        refine lv_iadd hx hb d_Mo_adopt_144 ?_
        refine lv_topi (fun x_40 ex_40 => ?_)
        have h := h x_40 ex_40
        have hi_41 := h.1
        have h := h.2
        refine va_iald hx hb hK hP 11 0 rfl rfl hi_41 d_Mo_adopt_145 ?_
        refine lv_topi (fun y_42 ey_42 => ?_)
        have h := h y_42 ey_42
        have hi_43 := h.1
        have h := h.2
        refine va_iast hx hb hK hP hD hS 11 0 rfl rfl hi_43 d_Mo_adopt_146 (fun H locs hP hD hS => ?_)
        obtain ⟨au_step_44, eau_step_44⟩ : ∃ z : Nat → Int32, z = upd au_step x1.toNatClampNeg y_42 := ⟨_, rfl⟩
        have h := h au_step_44 eau_step_44
        have hP : va_P (dC, dI) cls (W_Mo_adopt cI cC cB qu qu_segments qu_names qu_nameSize qu_bases qu_length qu_links qu_from qu_to qu_paths qu_steps qu_step qu_sideOf qu_within qu_text qu_titles qu_titleSize qu_read qu_cost qu_walk qu_edits qu_said fu_size fu_places fu_reads fu_there fu_total fu_walked fu_edited fu_written fu_at fu_end fu_began fu_many au_segments au_names au_nameSize au_bases_39 au_length au_links au_from au_to au_paths au_steps au_step_44 au_sideOf au_within) H := by rw [eau_step_44]; exact hP
        have hD : va_D A (W_Mo_adopt cI cC cB qu qu_segments qu_names qu_nameSize qu_bases qu_length qu_links qu_from qu_to qu_paths qu_steps qu_step qu_sideOf qu_within qu_text qu_titles qu_titleSize qu_read qu_cost qu_walk qu_edits qu_said fu_size fu_places fu_reads fu_there fu_total fu_walked fu_edited fu_written fu_at fu_end fu_began fu_many au_segments au_names au_nameSize au_bases_39 au_length au_links au_from au_to au_paths au_steps au_step_44 au_sideOf au_within) := by rw [eau_step_44]; exact hD
        obtain ⟨x1_45, ex1_45⟩ : ∃ y : Int32, y = x1 + 1 := ⟨_, rfl⟩
        have h := h x1_45 ex1_45
        refine lv_iinc (v := x1_45) (lv' := [(1, .int x1_45), (0, .ref qu)]) hx hb d_Mo_adopt_147 hl (k := 1) rfl (by rw [ex1_45]; rfl) (by decide) rfl (fun ls hl => ?_)
        refine lv_goto (tgt := 111) hx hb d_Mo_adopt_150 (by decide) ?_
        exact ih _ _ _ _ _ _ _ _ _ _ _ _ _ _ _ _ _ _ _ h hP hD hS (lv_sub hl [1, 0] rfl)
  have blk_67 : ∀  (n : Nat) (x1 : Int32) (fu_places : Int32) (fu_there : Int32) (au_segments : Nat → Int32) (au_names : Nat → Int32) (au_nameSize : Nat → Int32) (au_bases : Nat → Int32) (au_length : Nat → Int32) (au_links : Nat → Int32) (au_from : Nat → Int32) (au_to : Nat → Int32) (au_paths : Nat → Int32) (au_steps : Nat → Int32) (au_step : Nat → Int32) (au_sideOf : Nat → Int32) (au_within : Nat → Int32)  (H : Heap) (locs : List Loc) (ls : Array Slot), w_Mo_adopt_67 Q   n x1 fu_places fu_there au_segments au_names au_nameSize au_bases au_length au_links au_from au_to au_paths au_steps au_step au_sideOf au_within → va_P (dC, dI) cls (W_Mo_adopt cI cC cB qu qu_segments qu_names qu_nameSize qu_bases qu_length qu_links qu_from qu_to qu_paths qu_steps qu_step qu_sideOf qu_within qu_text qu_titles qu_titleSize qu_read qu_cost qu_walk qu_edits qu_said fu_size fu_places fu_reads fu_there fu_total fu_walked fu_edited fu_written fu_at fu_end fu_began fu_many au_segments au_names au_nameSize au_bases au_length au_links au_from au_to au_paths au_steps au_step au_sideOf au_within) H → va_D A (W_Mo_adopt cI cC cB qu qu_segments qu_names qu_nameSize qu_bases qu_length qu_links qu_from qu_to qu_paths qu_steps qu_step qu_sideOf qu_within qu_text qu_titles qu_titleSize qu_read qu_cost qu_walk qu_edits qu_said fu_size fu_places fu_reads fu_there fu_total fu_walked fu_edited fu_written fu_at fu_end fu_began fu_many au_segments au_names au_nameSize au_bases au_length au_links au_from au_to au_paths au_steps au_step au_sideOf au_within) → va_S A s.heap H locs → lv_has ls 3 [(0, .ref qu), (1, .int x1)] → W p l e rm_Mo_adopt s m args below meth c H locs 0 0 QF (F0 m 67 ls []) := by
    intro  n
    induction n with
    | zero => intro x1 fu_places fu_there au_segments au_names au_nameSize au_bases au_length au_links au_from au_to au_paths au_steps au_step au_sideOf au_within  H locs ls h; exact (show False from h).elim
    | succ n ih =>
      intro x1 fu_places fu_there au_segments au_names au_nameSize au_bases au_length au_links au_from au_to au_paths au_steps au_step au_sideOf au_within  H locs ls h hP hD hS hl
      have h : w_Mo_adopt_67B Q  (w_Mo_adopt_67 Q   n)  x1 fu_places fu_there au_segments au_names au_nameSize au_bases au_length au_links au_from au_to au_paths au_steps au_step au_sideOf au_within := h
      generalize w_Mo_adopt_67 Q   n = K_67 at h ih
      unfold w_Mo_adopt_67B at h
      refine lv_iload_n hx hb d_Mo_adopt_67 rfl (lv_at hl 1 rfl) ?_
      refine lv_bipush (v := 8) hx hb d_Mo_adopt_68 (by decide) ?_
      refine lv_icmp_ge (tgt := 109) hx hb d_Mo_adopt_70 (by decide) (fun c_46 => ?_) (fun c_46 => ?_)
      · have h := h.1 c_46
        refine lv_iconst (v := 0) hx hb d_Mo_adopt_109 (by decide) ?_
        refine lv_istore_n (lv' := [(1, .int 0), (0, .ref qu)]) hx hb d_Mo_adopt_110 rfl hl (by decide) rfl (fun ls hl => ?_)
        obtain ⟨fu_111, h⟩ := h
        exact blk_111  _ _ _ _ _ _ _ _ _ _ _ _ _ _ _ _ _ _ _ _ h hP hD hS (lv_sub hl [1, 0] rfl)
      · have h := h.2 c_46
        refine lv_aload_n hx hb d_Mo_adopt_73 rfl (lv_at hl 0 rfl) ?_
        refine va_get (D := (dC, dI)) (ci := 6) (v := .ref qu_nameSize) (C := R_Mo) (T := T_Mo) (N := 33) hx hb hts in_Mo hown hK hP 0 rfl rfl 4 (by decide) (hts _ w_432) (fun _ h9 => h9) rfl d_Mo_adopt_74 ?_
        refine lv_iload_n hx hb d_Mo_adopt_77 rfl (lv_at hl 1 rfl) ?_
        refine lv_aload_n hx hb d_Mo_adopt_78 rfl (lv_at hl 0 rfl) ?_
        refine va_get (D := (dC, dI)) (ci := 6) (v := .ref qu_nameSize) (C := R_Mo) (T := T_Mo) (N := 33) hx hb hts in_Mo hown hK hP 0 rfl rfl 4 (by decide) (hts _ w_432) (fun _ h9 => h9) rfl d_Mo_adopt_79 ?_
        refine lv_bipush (v := 8) hx hb d_Mo_adopt_82 (by decide) ?_
        refine lv_iload_n hx hb d_Mo_adopt_84 rfl (lv_at hl 1 rfl) ?_
        refine lv_iadd hx hb d_Mo_adopt_85 ?_
        refine lv_topi (fun x_47 ex_47 => ?_)
        have h := h x_47 ex_47
        have hi_48 := h.1
        have h := h.2
        refine va_iald hx hb hK hP 3 0 rfl rfl hi_48 d_Mo_adopt_86 ?_
        refine lv_topi (fun y_49 ey_49 => ?_)
        have h := h y_49 ey_49
        have hi_50 := h.1
        have h := h.2
        refine va_iast hx hb hK hP hD hS 3 0 rfl rfl hi_50 d_Mo_adopt_87 (fun H locs hP hD hS => ?_)
        obtain ⟨au_nameSize_51, eau_nameSize_51⟩ : ∃ z : Nat → Int32, z = upd au_nameSize x1.toNatClampNeg y_49 := ⟨_, rfl⟩
        have h := h au_nameSize_51 eau_nameSize_51
        have hP : va_P (dC, dI) cls (W_Mo_adopt cI cC cB qu qu_segments qu_names qu_nameSize qu_bases qu_length qu_links qu_from qu_to qu_paths qu_steps qu_step qu_sideOf qu_within qu_text qu_titles qu_titleSize qu_read qu_cost qu_walk qu_edits qu_said fu_size fu_places fu_reads fu_there fu_total fu_walked fu_edited fu_written fu_at fu_end fu_began fu_many au_segments au_names au_nameSize_51 au_bases au_length au_links au_from au_to au_paths au_steps au_step au_sideOf au_within) H := by rw [eau_nameSize_51]; exact hP
        have hD : va_D A (W_Mo_adopt cI cC cB qu qu_segments qu_names qu_nameSize qu_bases qu_length qu_links qu_from qu_to qu_paths qu_steps qu_step qu_sideOf qu_within qu_text qu_titles qu_titleSize qu_read qu_cost qu_walk qu_edits qu_said fu_size fu_places fu_reads fu_there fu_total fu_walked fu_edited fu_written fu_at fu_end fu_began fu_many au_segments au_names au_nameSize_51 au_bases au_length au_links au_from au_to au_paths au_steps au_step au_sideOf au_within) := by rw [eau_nameSize_51]; exact hD
        refine lv_aload_n hx hb d_Mo_adopt_88 rfl (lv_at hl 0 rfl) ?_
        refine va_get (D := (dC, dI)) (ci := 6) (v := .ref qu_length) (C := R_Mo) (T := T_Mo) (N := 33) hx hb hts in_Mo hown hK hP 0 rfl rfl 6 (by decide) (hts _ w_466) (fun _ h9 => h9) rfl d_Mo_adopt_89 ?_
        refine lv_iload_n hx hb d_Mo_adopt_92 rfl (lv_at hl 1 rfl) ?_
        refine lv_aload_n hx hb d_Mo_adopt_93 rfl (lv_at hl 0 rfl) ?_
        refine va_get (D := (dC, dI)) (ci := 6) (v := .ref qu_length) (C := R_Mo) (T := T_Mo) (N := 33) hx hb hts in_Mo hown hK hP 0 rfl rfl 6 (by decide) (hts _ w_466) (fun _ h9 => h9) rfl d_Mo_adopt_94 ?_
        refine lv_bipush (v := 8) hx hb d_Mo_adopt_97 (by decide) ?_
        refine lv_iload_n hx hb d_Mo_adopt_99 rfl (lv_at hl 1 rfl) ?_
        refine lv_iadd hx hb d_Mo_adopt_100 ?_
        refine lv_topi (fun x_52 ex_52 => ?_)
        have h := h x_52 ex_52
        have hi_53 := h.1
        have h := h.2
        refine va_iald hx hb hK hP 5 0 rfl rfl hi_53 d_Mo_adopt_101 ?_
        refine lv_topi (fun y_54 ey_54 => ?_)
        have h := h y_54 ey_54
        have hi_55 := h.1
        have h := h.2
        refine va_iast hx hb hK hP hD hS 5 0 rfl rfl hi_55 d_Mo_adopt_102 (fun H locs hP hD hS => ?_)
        obtain ⟨au_length_56, eau_length_56⟩ : ∃ z : Nat → Int32, z = upd au_length x1.toNatClampNeg y_54 := ⟨_, rfl⟩
        have h := h au_length_56 eau_length_56
        have hP : va_P (dC, dI) cls (W_Mo_adopt cI cC cB qu qu_segments qu_names qu_nameSize qu_bases qu_length qu_links qu_from qu_to qu_paths qu_steps qu_step qu_sideOf qu_within qu_text qu_titles qu_titleSize qu_read qu_cost qu_walk qu_edits qu_said fu_size fu_places fu_reads fu_there fu_total fu_walked fu_edited fu_written fu_at fu_end fu_began fu_many au_segments au_names au_nameSize_51 au_bases au_length_56 au_links au_from au_to au_paths au_steps au_step au_sideOf au_within) H := by rw [eau_length_56]; exact hP
        have hD : va_D A (W_Mo_adopt cI cC cB qu qu_segments qu_names qu_nameSize qu_bases qu_length qu_links qu_from qu_to qu_paths qu_steps qu_step qu_sideOf qu_within qu_text qu_titles qu_titleSize qu_read qu_cost qu_walk qu_edits qu_said fu_size fu_places fu_reads fu_there fu_total fu_walked fu_edited fu_written fu_at fu_end fu_began fu_many au_segments au_names au_nameSize_51 au_bases au_length_56 au_links au_from au_to au_paths au_steps au_step au_sideOf au_within) := by rw [eau_length_56]; exact hD
        obtain ⟨x1_57, ex1_57⟩ : ∃ y : Int32, y = x1 + 1 := ⟨_, rfl⟩
        have h := h x1_57 ex1_57
        refine lv_iinc (v := x1_57) (lv' := [(1, .int x1_57), (0, .ref qu)]) hx hb d_Mo_adopt_103 hl (k := 1) rfl (by rw [ex1_57]; rfl) (by decide) rfl (fun ls hl => ?_)
        refine lv_goto (tgt := 67) hx hb d_Mo_adopt_106 (by decide) ?_
        exact ih _ _ _ _ _ _ _ _ _ _ _ _ _ _ _ _ _ _ _ h hP hD hS (lv_sub hl [1, 0] rfl)
  have blk_38 : ∀  (n : Nat) (x1 : Int32) (fu_places : Int32) (fu_there : Int32) (au_segments : Nat → Int32) (au_names : Nat → Int32) (au_nameSize : Nat → Int32) (au_bases : Nat → Int32) (au_length : Nat → Int32) (au_links : Nat → Int32) (au_from : Nat → Int32) (au_to : Nat → Int32) (au_paths : Nat → Int32) (au_steps : Nat → Int32) (au_step : Nat → Int32) (au_sideOf : Nat → Int32) (au_within : Nat → Int32)  (H : Heap) (locs : List Loc) (ls : Array Slot), w_Mo_adopt_38 Q   n x1 fu_places fu_there au_segments au_names au_nameSize au_bases au_length au_links au_from au_to au_paths au_steps au_step au_sideOf au_within → va_P (dC, dI) cls (W_Mo_adopt cI cC cB qu qu_segments qu_names qu_nameSize qu_bases qu_length qu_links qu_from qu_to qu_paths qu_steps qu_step qu_sideOf qu_within qu_text qu_titles qu_titleSize qu_read qu_cost qu_walk qu_edits qu_said fu_size fu_places fu_reads fu_there fu_total fu_walked fu_edited fu_written fu_at fu_end fu_began fu_many au_segments au_names au_nameSize au_bases au_length au_links au_from au_to au_paths au_steps au_step au_sideOf au_within) H → va_D A (W_Mo_adopt cI cC cB qu qu_segments qu_names qu_nameSize qu_bases qu_length qu_links qu_from qu_to qu_paths qu_steps qu_step qu_sideOf qu_within qu_text qu_titles qu_titleSize qu_read qu_cost qu_walk qu_edits qu_said fu_size fu_places fu_reads fu_there fu_total fu_walked fu_edited fu_written fu_at fu_end fu_began fu_many au_segments au_names au_nameSize au_bases au_length au_links au_from au_to au_paths au_steps au_step au_sideOf au_within) → va_S A s.heap H locs → lv_has ls 3 [(0, .ref qu), (1, .int x1)] → W p l e rm_Mo_adopt s m args below meth c H locs 0 0 QF (F0 m 38 ls []) := by
    intro  n
    induction n with
    | zero => intro x1 fu_places fu_there au_segments au_names au_nameSize au_bases au_length au_links au_from au_to au_paths au_steps au_step au_sideOf au_within  H locs ls h; exact (show False from h).elim
    | succ n ih =>
      intro x1 fu_places fu_there au_segments au_names au_nameSize au_bases au_length au_links au_from au_to au_paths au_steps au_step au_sideOf au_within  H locs ls h hP hD hS hl
      have h : w_Mo_adopt_38B Q  (w_Mo_adopt_38 Q   n)  x1 fu_places fu_there au_segments au_names au_nameSize au_bases au_length au_links au_from au_to au_paths au_steps au_step au_sideOf au_within := h
      generalize w_Mo_adopt_38 Q   n = K_38 at h ih
      unfold w_Mo_adopt_38B at h
      refine lv_iload_n hx hb d_Mo_adopt_38 rfl (lv_at hl 1 rfl) ?_
      refine lv_bipush (v := 24) hx hb d_Mo_adopt_39 (by decide) ?_
      refine lv_icmp_ge (tgt := 65) hx hb d_Mo_adopt_41 (by decide) (fun c_58 => ?_) (fun c_58 => ?_)
      · have h := h.1 c_58
        refine lv_iconst (v := 0) hx hb d_Mo_adopt_65 (by decide) ?_
        refine lv_istore_n (lv' := [(1, .int 0), (0, .ref qu)]) hx hb d_Mo_adopt_66 rfl hl (by decide) rfl (fun ls hl => ?_)
        obtain ⟨fu_67, h⟩ := h
        exact blk_67  _ _ _ _ _ _ _ _ _ _ _ _ _ _ _ _ _ _ _ _ h hP hD hS (lv_sub hl [1, 0] rfl)
      · have h := h.2 c_58
        refine lv_aload_n hx hb d_Mo_adopt_44 rfl (lv_at hl 0 rfl) ?_
        refine va_get (D := (dC, dI)) (ci := 6) (v := .ref qu_names) (C := R_Mo) (T := T_Mo) (N := 33) hx hb hts in_Mo hown hK hP 0 rfl rfl 3 (by decide) (hts _ w_430) (fun _ h9 => h9) rfl d_Mo_adopt_45 ?_
        refine lv_iload_n hx hb d_Mo_adopt_48 rfl (lv_at hl 1 rfl) ?_
        refine lv_aload_n hx hb d_Mo_adopt_49 rfl (lv_at hl 0 rfl) ?_
        refine va_get (D := (dC, dI)) (ci := 6) (v := .ref qu_names) (C := R_Mo) (T := T_Mo) (N := 33) hx hb hts in_Mo hown hK hP 0 rfl rfl 3 (by decide) (hts _ w_430) (fun _ h9 => h9) rfl d_Mo_adopt_50 ?_
        refine lv_bipush (v := 24) hx hb d_Mo_adopt_53 (by decide) ?_
        refine lv_iload_n hx hb d_Mo_adopt_55 rfl (lv_at hl 1 rfl) ?_
        refine lv_iadd hx hb d_Mo_adopt_56 ?_
        refine lv_topi (fun x_59 ex_59 => ?_)
        have h := h x_59 ex_59
        have hi_60 := h.1
        have h := h.2
        refine va_cald hx hb hK hP 2 1 rfl rfl hi_60 d_Mo_adopt_57 ?_
        refine lv_topi (fun y_61 ey_61 => ?_)
        have h := h y_61 ey_61
        have hi_62 := h.1
        have h := h.2
        refine va_cast hx hb hK hP hD hS 2 1 rfl rfl hi_62 d_Mo_adopt_58 (fun H locs hP hD hS => ?_)
        obtain ⟨au_names_63, eau_names_63⟩ : ∃ z : Nat → Int32, z = upd au_names x1.toNatClampNeg (vp_nar .char y_61) := ⟨_, rfl⟩
        have h := h au_names_63 eau_names_63
        have hP : va_P (dC, dI) cls (W_Mo_adopt cI cC cB qu qu_segments qu_names qu_nameSize qu_bases qu_length qu_links qu_from qu_to qu_paths qu_steps qu_step qu_sideOf qu_within qu_text qu_titles qu_titleSize qu_read qu_cost qu_walk qu_edits qu_said fu_size fu_places fu_reads fu_there fu_total fu_walked fu_edited fu_written fu_at fu_end fu_began fu_many au_segments au_names_63 au_nameSize au_bases au_length au_links au_from au_to au_paths au_steps au_step au_sideOf au_within) H := by rw [eau_names_63]; exact hP
        have hD : va_D A (W_Mo_adopt cI cC cB qu qu_segments qu_names qu_nameSize qu_bases qu_length qu_links qu_from qu_to qu_paths qu_steps qu_step qu_sideOf qu_within qu_text qu_titles qu_titleSize qu_read qu_cost qu_walk qu_edits qu_said fu_size fu_places fu_reads fu_there fu_total fu_walked fu_edited fu_written fu_at fu_end fu_began fu_many au_segments au_names_63 au_nameSize au_bases au_length au_links au_from au_to au_paths au_steps au_step au_sideOf au_within) := by rw [eau_names_63]; exact hD
        obtain ⟨x1_64, ex1_64⟩ : ∃ y : Int32, y = x1 + 1 := ⟨_, rfl⟩
        have h := h x1_64 ex1_64
        refine lv_iinc (v := x1_64) (lv' := [(1, .int x1_64), (0, .ref qu)]) hx hb d_Mo_adopt_59 hl (k := 1) rfl (by rw [ex1_64]; rfl) (by decide) rfl (fun ls hl => ?_)
        refine lv_goto (tgt := 38) hx hb d_Mo_adopt_62 (by decide) ?_
        exact ih _ _ _ _ _ _ _ _ _ _ _ _ _ _ _ _ _ _ _ h hP hD hS (lv_sub hl [1, 0] rfl)
  unfold wp_Mo_adopt at h
  refine lv_aload_n hx hb d_Mo_adopt_0 rfl (lv_at hl 0 rfl) ?_
  refine va_get (D := (dC, dI)) (ci := 6) (v := .ref qu_segments) (C := R_Mo) (T := T_Mo) (N := 33) hx hb hts in_Mo hown hK hP 0 rfl rfl 2 (by decide) (hts _ w_431) (fun _ h9 => h9) rfl d_Mo_adopt_1 ?_
  refine lv_iconst (v := 0) hx hb d_Mo_adopt_4 (by decide) ?_
  refine lv_aload_n hx hb d_Mo_adopt_5 rfl (lv_at hl 0 rfl) ?_
  refine va_get (D := (dC, dI)) (ci := 6) (v := .ref qu_segments) (C := R_Mo) (T := T_Mo) (N := 33) hx hb hts in_Mo hown hK hP 0 rfl rfl 2 (by decide) (hts _ w_431) (fun _ h9 => h9) rfl d_Mo_adopt_6 ?_
  refine lv_iconst (v := 1) hx hb d_Mo_adopt_9 (by decide) ?_
  have hi_65 := h.1
  have h := h.2
  refine va_iald hx hb hK hP 1 0 rfl rfl hi_65 d_Mo_adopt_10 ?_
  refine lv_topi (fun y_66 ey_66 => ?_)
  have h := h y_66 ey_66
  have hi_67 := h.1
  have h := h.2
  refine va_iast hx hb hK hP hD hS 1 0 rfl rfl hi_67 d_Mo_adopt_11 (fun H locs hP hD hS => ?_)
  obtain ⟨au_segments_68, eau_segments_68⟩ : ∃ z : Nat → Int32, z = upd au_segments (0 : Int32).toNatClampNeg y_66 := ⟨_, rfl⟩
  have h := h au_segments_68 eau_segments_68
  have hP : va_P (dC, dI) cls (W_Mo_adopt cI cC cB qu qu_segments qu_names qu_nameSize qu_bases qu_length qu_links qu_from qu_to qu_paths qu_steps qu_step qu_sideOf qu_within qu_text qu_titles qu_titleSize qu_read qu_cost qu_walk qu_edits qu_said fu_size fu_places fu_reads fu_there fu_total fu_walked fu_edited fu_written fu_at fu_end fu_began fu_many au_segments_68 au_names au_nameSize au_bases au_length au_links au_from au_to au_paths au_steps au_step au_sideOf au_within) H := by rw [eau_segments_68]; exact hP
  have hD : va_D A (W_Mo_adopt cI cC cB qu qu_segments qu_names qu_nameSize qu_bases qu_length qu_links qu_from qu_to qu_paths qu_steps qu_step qu_sideOf qu_within qu_text qu_titles qu_titleSize qu_read qu_cost qu_walk qu_edits qu_said fu_size fu_places fu_reads fu_there fu_total fu_walked fu_edited fu_written fu_at fu_end fu_began fu_many au_segments_68 au_names au_nameSize au_bases au_length au_links au_from au_to au_paths au_steps au_step au_sideOf au_within) := by rw [eau_segments_68]; exact hD
  refine lv_aload_n hx hb d_Mo_adopt_12 rfl (lv_at hl 0 rfl) ?_
  refine va_get (D := (dC, dI)) (ci := 6) (v := .ref qu_links) (C := R_Mo) (T := T_Mo) (N := 33) hx hb hts in_Mo hown hK hP 0 rfl rfl 7 (by decide) (hts _ w_443) (fun _ h9 => h9) rfl d_Mo_adopt_13 ?_
  refine lv_iconst (v := 0) hx hb d_Mo_adopt_16 (by decide) ?_
  refine lv_aload_n hx hb d_Mo_adopt_17 rfl (lv_at hl 0 rfl) ?_
  refine va_get (D := (dC, dI)) (ci := 6) (v := .ref qu_links) (C := R_Mo) (T := T_Mo) (N := 33) hx hb hts in_Mo hown hK hP 0 rfl rfl 7 (by decide) (hts _ w_443) (fun _ h9 => h9) rfl d_Mo_adopt_18 ?_
  refine lv_iconst (v := 1) hx hb d_Mo_adopt_21 (by decide) ?_
  have hi_69 := h.1
  have h := h.2
  refine va_iald hx hb hK hP 6 0 rfl rfl hi_69 d_Mo_adopt_22 ?_
  refine lv_topi (fun y_70 ey_70 => ?_)
  have h := h y_70 ey_70
  have hi_71 := h.1
  have h := h.2
  refine va_iast hx hb hK hP hD hS 6 0 rfl rfl hi_71 d_Mo_adopt_23 (fun H locs hP hD hS => ?_)
  obtain ⟨au_links_72, eau_links_72⟩ : ∃ z : Nat → Int32, z = upd au_links (0 : Int32).toNatClampNeg y_70 := ⟨_, rfl⟩
  have h := h au_links_72 eau_links_72
  have hP : va_P (dC, dI) cls (W_Mo_adopt cI cC cB qu qu_segments qu_names qu_nameSize qu_bases qu_length qu_links qu_from qu_to qu_paths qu_steps qu_step qu_sideOf qu_within qu_text qu_titles qu_titleSize qu_read qu_cost qu_walk qu_edits qu_said fu_size fu_places fu_reads fu_there fu_total fu_walked fu_edited fu_written fu_at fu_end fu_began fu_many au_segments_68 au_names au_nameSize au_bases au_length au_links_72 au_from au_to au_paths au_steps au_step au_sideOf au_within) H := by rw [eau_links_72]; exact hP
  have hD : va_D A (W_Mo_adopt cI cC cB qu qu_segments qu_names qu_nameSize qu_bases qu_length qu_links qu_from qu_to qu_paths qu_steps qu_step qu_sideOf qu_within qu_text qu_titles qu_titleSize qu_read qu_cost qu_walk qu_edits qu_said fu_size fu_places fu_reads fu_there fu_total fu_walked fu_edited fu_written fu_at fu_end fu_began fu_many au_segments_68 au_names au_nameSize au_bases au_length au_links_72 au_from au_to au_paths au_steps au_step au_sideOf au_within) := by rw [eau_links_72]; exact hD
  refine lv_aload_n hx hb d_Mo_adopt_24 rfl (lv_at hl 0 rfl) ?_
  refine va_get (D := (dC, dI)) (ci := 6) (v := .ref qu_paths) (C := R_Mo) (T := T_Mo) (N := 33) hx hb hts in_Mo hown hK hP 0 rfl rfl 10 (by decide) (hts _ w_420) (fun _ h9 => h9) rfl d_Mo_adopt_25 ?_
  refine lv_iconst (v := 0) hx hb d_Mo_adopt_28 (by decide) ?_
  refine lv_aload_n hx hb d_Mo_adopt_29 rfl (lv_at hl 0 rfl) ?_
  refine va_get (D := (dC, dI)) (ci := 6) (v := .ref qu_paths) (C := R_Mo) (T := T_Mo) (N := 33) hx hb hts in_Mo hown hK hP 0 rfl rfl 10 (by decide) (hts _ w_420) (fun _ h9 => h9) rfl d_Mo_adopt_30 ?_
  refine lv_iconst (v := 1) hx hb d_Mo_adopt_33 (by decide) ?_
  have hi_73 := h.1
  have h := h.2
  refine va_iald hx hb hK hP 9 0 rfl rfl hi_73 d_Mo_adopt_34 ?_
  refine lv_topi (fun y_74 ey_74 => ?_)
  have h := h y_74 ey_74
  have hi_75 := h.1
  have h := h.2
  refine va_iast hx hb hK hP hD hS 9 0 rfl rfl hi_75 d_Mo_adopt_35 (fun H locs hP hD hS => ?_)
  obtain ⟨au_paths_76, eau_paths_76⟩ : ∃ z : Nat → Int32, z = upd au_paths (0 : Int32).toNatClampNeg y_74 := ⟨_, rfl⟩
  have h := h au_paths_76 eau_paths_76
  have hP : va_P (dC, dI) cls (W_Mo_adopt cI cC cB qu qu_segments qu_names qu_nameSize qu_bases qu_length qu_links qu_from qu_to qu_paths qu_steps qu_step qu_sideOf qu_within qu_text qu_titles qu_titleSize qu_read qu_cost qu_walk qu_edits qu_said fu_size fu_places fu_reads fu_there fu_total fu_walked fu_edited fu_written fu_at fu_end fu_began fu_many au_segments_68 au_names au_nameSize au_bases au_length au_links_72 au_from au_to au_paths_76 au_steps au_step au_sideOf au_within) H := by rw [eau_paths_76]; exact hP
  have hD : va_D A (W_Mo_adopt cI cC cB qu qu_segments qu_names qu_nameSize qu_bases qu_length qu_links qu_from qu_to qu_paths qu_steps qu_step qu_sideOf qu_within qu_text qu_titles qu_titleSize qu_read qu_cost qu_walk qu_edits qu_said fu_size fu_places fu_reads fu_there fu_total fu_walked fu_edited fu_written fu_at fu_end fu_began fu_many au_segments_68 au_names au_nameSize au_bases au_length au_links_72 au_from au_to au_paths_76 au_steps au_step au_sideOf au_within) := by rw [eau_paths_76]; exact hD
  refine lv_iconst (v := 0) hx hb d_Mo_adopt_36 (by decide) ?_
  refine lv_istore_n (lv' := [(1, .int 0), (0, .ref qu)]) hx hb d_Mo_adopt_37 rfl hl (by decide) rfl (fun ls hl => ?_)
  obtain ⟨fu_38, h⟩ := h
  exact blk_38  _ _ _ _ _ _ _ _ _ _ _ _ _ _ _ _ _ _ _ _ h hP hD hS (lv_sub hl [1, 0] rfl)
