abbrev W_Mo_namedSide (cI cC cB : ClassId) (qu : Nat) (qu_text : Nat) (qu_segments : Nat) (qu_names : Nat) (qu_nameSize : Nat) (qu_bases : Nat) (qu_length : Nat) (qu_links : Nat) (qu_from : Nat) (qu_to : Nat) (qu_paths : Nat) (qu_titles : Nat) (qu_titleSize : Nat) (qu_steps : Nat) (qu_step : Nat) (qu_sideOf : Nat) (qu_within : Nat) (qu_read : Nat) (qu_cost : Nat) (qu_walk : Nat) (qu_edits : Nat) (qu_said : Nat) (fu_size : Int32) (fu_places : Int32) (fu_reads : Int32) (fu_there : Int32) (fu_total : Int32) (fu_walked : Int32) (fu_edited : Int32) (fu_written : Int32) (fu_at : Int32) (fu_end : Int32) (fu_began : Int32) (fu_many : Int32) (au_text : Nat → Int32) (au_segments : Nat → Int32) (au_names : Nat → Int32) (au_nameSize : Nat → Int32) : va_W := [(qu, .inr (6, [.int fu_size, .ref qu_text, .ref qu_segments, .ref qu_names, .ref qu_nameSize, .ref qu_bases, .ref qu_length, .ref qu_links, .ref qu_from, .ref qu_to, .ref qu_paths, .ref qu_titles, .ref qu_titleSize, .ref qu_steps, .ref qu_step, .int fu_places, .ref qu_sideOf, .ref qu_within, .int fu_reads, .ref qu_read, .ref qu_cost, .int fu_there, .int fu_total, .int fu_walked, .ref qu_walk, .int fu_edited, .ref qu_edits, .int fu_written, .ref qu_said, .int fu_at, .int fu_end, .int fu_began, .int fu_many])), (qu_text, .inl (cC, 400, .inl au_text)), (qu_segments, .inl (cI, 2, .inl au_segments)), (qu_names, .inl (cC, 48, .inl au_names)), (qu_nameSize, .inl (cI, 16, .inl au_nameSize))]
def w_Mo_namedSide_58 (Q : Int32 → (Int32 × Int32 × Int32) → Prop)  (fu_end : Int32) (au_text : Nat → Int32) (au_segments : Nat → Int32) (au_names : Nat → Int32) (au_nameSize : Nat → Int32) (fu_at : Int32) (fu_began : Int32) (fu_many : Int32) : Prop := Q (-1) (fu_at, fu_began, fu_many)
def w_Mo_namedSide_36 (Q : Int32 → (Int32 × Int32 × Int32) → Prop)  (fu_end : Int32) (au_text : Nat → Int32) (au_segments : Nat → Int32) (au_names : Nat → Int32) (au_nameSize : Nat → Int32) (x3 : Int32) (s0 : Int32) (fu_at : Int32) (fu_began : Int32) (fu_many : Int32) : Prop := wp_Mo_sign (fun r_2 v_1 => ((x3 < 0 → (w_Mo_namedSide_58 Q fu_end au_text au_segments au_names au_nameSize v_1 fu_began fu_many)) ∧ (¬ x3 < 0 → (((s0 = 0 → (w_Mo_namedSide_58 Q fu_end au_text au_segments au_names au_nameSize v_1 fu_began fu_many)) ∧ (¬ s0 = 0 → (((0 ≤ r_2 → (∀ x_6 : Int32, x_6 = (2 * x3) + r_2 → (Q x_6 (v_1, fu_began, fu_many)))) ∧ (¬ 0 ≤ r_2 → (w_Mo_namedSide_58 Q fu_end au_text au_segments au_names au_nameSize v_1 fu_began fu_many)))))))))) fu_at fu_end au_text
def w_Mo_namedSide_31 (Q : Int32 → (Int32 × Int32 × Int32) → Prop)  (fu_end : Int32) (au_text : Nat → Int32) (au_segments : Nat → Int32) (au_names : Nat → Int32) (au_nameSize : Nat → Int32) (x3 : Int32) (fu_at : Int32) (fu_began : Int32) (fu_many : Int32) : Prop := w_Mo_namedSide_36 Q fu_end au_text au_segments au_names au_nameSize x3 1 fu_at fu_began fu_many
def w_Mo_namedSide_17 (Q : Int32 → (Int32 × Int32 × Int32) → Prop)  (p1 : Int32) (fu_end : Int32) (au_text : Nat → Int32) (au_segments : Nat → Int32) (au_names : Nat → Int32) (au_nameSize : Nat → Int32) (s0 : Int32) (fu_at : Int32) (fu_began : Int32) (fu_many : Int32) : Prop := ((p1 = 0 → (w_Mo_namedSide_31 Q fu_end au_text au_segments au_names au_nameSize s0 fu_at fu_began fu_many)) ∧ (¬ p1 = 0 → (wp_Mo_eat (fun r_9 v_8 => ((r_9 = 0 → (w_Mo_namedSide_36 Q fu_end au_text au_segments au_names au_nameSize s0 0 v_8 fu_began fu_many)) ∧ (¬ r_9 = 0 → (w_Mo_namedSide_31 Q fu_end au_text au_segments au_names au_nameSize s0 v_8 fu_began fu_many)))) 9 fu_at fu_end au_text)))
def wp_Mo_namedSide (Q : Int32 → (Int32 × Int32 × Int32) → Prop) (p1 : Int32) (fu_at : Int32) (fu_end : Int32) (fu_began : Int32) (fu_many : Int32) (au_text : Nat → Int32) (au_segments : Nat → Int32) (au_names : Nat → Int32) (au_nameSize : Nat → Int32) : Prop := wp_Mo_eatName (fun r_12 v_11 => ((r_12 = 0 → (w_Mo_namedSide_17 Q p1 fu_end au_text au_segments au_names au_nameSize (-1) v_11.1 v_11.2.1 v_11.2.2)) ∧ (¬ r_12 = 0 → (wp_Mo_segmentNamed (fun r_15 v_14 => w_Mo_namedSide_17 Q p1 fu_end au_text au_segments au_names au_nameSize r_15 v_11.1 v_11.2.1 v_11.2.2) v_11.2.1 v_11.2.2 au_text au_segments au_names au_nameSize)))) fu_at fu_end fu_began fu_many au_text
abbrev rm_Mo_namedSide : Room := { frames := 2, cells := 0, slots := 0, locals := 41 }
set_option maxHeartbeats 4000000 in
set_option maxRecDepth 100000 in
theorem k_Mo_namedSide (l : Launch) (dC : Nat → ClassId) (dI : Nat → Nat → Nat) (cI cC cB : ClassId) (sz : Nat) (qu : Nat) (qu_text : Nat) (qu_segments : Nat) (qu_names : Nat) (qu_nameSize : Nat) (qu_bases : Nat) (qu_length : Nat) (qu_links : Nat) (qu_from : Nat) (qu_to : Nat) (qu_paths : Nat) (qu_titles : Nat) (qu_titleSize : Nat) (qu_steps : Nat) (qu_step : Nat) (qu_sideOf : Nat) (qu_within : Nat) (qu_read : Nat) (qu_cost : Nat) (qu_walk : Nat) (qu_edits : Nat) (qu_said : Nat) (fu_size : Int32) (fu_places : Int32) (fu_reads : Int32) (fu_there : Int32) (fu_total : Int32) (fu_walked : Int32) (fu_edited : Int32) (fu_written : Int32) (fu_at : Int32) (fu_end : Int32) (fu_began : Int32) (fu_many : Int32) (au_text : Nat → Int32) (au_segments : Nat → Int32) (au_names : Nat → Int32) (au_nameSize : Nat → Int32) (p1 : Int32) {Q : Int32 → (Int32 × Int32 × Int32) → Prop} (h : wp_Mo_namedSide Q p1 fu_at fu_end fu_began fu_many au_text au_segments au_names au_nameSize) :
    CTi l y_Mo_namedSide (wM y_Mo_namedSide c_Mo_namedSide 6 (some .int)) rm_Mo_namedSide 0 0 (dC, dI) (tysL cI cC cB) [.ref qu, .int p1] (W_Mo_namedSide cI cC cB qu qu_text qu_segments qu_names qu_nameSize qu_bases qu_length qu_links qu_from qu_to qu_paths qu_titles qu_titleSize qu_steps qu_step qu_sideOf qu_within qu_read qu_cost qu_walk qu_edits qu_said fu_size fu_places fu_reads fu_there fu_total fu_walked fu_edited fu_written fu_at fu_end fu_began fu_many au_text au_segments au_names au_nameSize) sz Q (fun (v : Int32 × Int32 × Int32) (_ : Unit) => (W_Mo_namedSide cI cC cB qu qu_text qu_segments qu_names qu_nameSize qu_bases qu_length qu_links qu_from qu_to qu_paths qu_titles qu_titleSize qu_steps qu_step qu_sideOf qu_within qu_read qu_cost qu_walk qu_edits qu_said fu_size fu_places fu_reads fu_there fu_total fu_walked fu_edited fu_written v.1 fu_end v.2.1 v.2.2 au_text au_segments au_names au_nameSize)) := by
  refine CTi.std (by decide) (Nat.le_of_ble_eq_true rfl) ?_
  intro p e s m args below meth c A ls QF C0 hP hD hl hS hsz hret
  obtain ⟨hx, hb, hr, hml, hown, hts, hlocks, hN, hA, hK, hnm⟩ := id C0
  have hown : s.vm.findClass R_Mo = some m.cls := hown
  have hl : lv_has ls 6 [(0, .ref qu), (1, .int p1)] := hl
  clear hsz
  have blk_58 : ∀  (fu_at : Int32) (fu_began : Int32) (fu_many : Int32) (H : Heap) (locs : List Loc) (ls : Array Slot), w_Mo_namedSide_58 Q  fu_end au_text au_segments au_names au_nameSize fu_at fu_began fu_many → va_P (dC, dI) cls (W_Mo_namedSide cI cC cB qu qu_text qu_segments qu_names qu_nameSize qu_bases qu_length qu_links qu_from qu_to qu_paths qu_titles qu_titleSize qu_steps qu_step qu_sideOf qu_within qu_read qu_cost qu_walk qu_edits qu_said fu_size fu_places fu_reads fu_there fu_total fu_walked fu_edited fu_written fu_at fu_end fu_began fu_many au_text au_segments au_names au_nameSize) H → va_D A (W_Mo_namedSide cI cC cB qu qu_text qu_segments qu_names qu_nameSize qu_bases qu_length qu_links qu_from qu_to qu_paths qu_titles qu_titleSize qu_steps qu_step qu_sideOf qu_within qu_read qu_cost qu_walk qu_edits qu_said fu_size fu_places fu_reads fu_there fu_total fu_walked fu_edited fu_written fu_at fu_end fu_began fu_many au_text au_segments au_names au_nameSize) → va_S A s.heap H locs → lv_has ls 6 [] → W p l e rm_Mo_namedSide s m args below meth c H locs 0 0 QF (F0 m 58 ls []) := by
    intro  fu_at fu_began fu_many H locs ls h hP hD hS hl
    unfold w_Mo_namedSide_58 at h
    refine lv_iconst (v := (-1)) hx hb d_Mo_namedSide_58 (by decide) ?_
    refine lv_goto (tgt := 68) hx hb d_Mo_namedSide_59 (by decide) ?_
    exact hret (fu_at, fu_began, fu_many) () (-1) _ _ _ _ rfl h hP hD hS d_Mo_namedSide_68
  have blk_36 : ∀  (x3 : Int32) (s0 : Int32) (fu_at : Int32) (fu_began : Int32) (fu_many : Int32) (H : Heap) (locs : List Loc) (ls : Array Slot), w_Mo_namedSide_36 Q  fu_end au_text au_segments au_names au_nameSize x3 s0 fu_at fu_began fu_many → va_P (dC, dI) cls (W_Mo_namedSide cI cC cB qu qu_text qu_segments qu_names qu_nameSize qu_bases qu_length qu_links qu_from qu_to qu_paths qu_titles qu_titleSize qu_steps qu_step qu_sideOf qu_within qu_read qu_cost qu_walk qu_edits qu_said fu_size fu_places fu_reads fu_there fu_total fu_walked fu_edited fu_written fu_at fu_end fu_began fu_many au_text au_segments au_names au_nameSize) H → va_D A (W_Mo_namedSide cI cC cB qu qu_text qu_segments qu_names qu_nameSize qu_bases qu_length qu_links qu_from qu_to qu_paths qu_titles qu_titleSize qu_steps qu_step qu_sideOf qu_within qu_read qu_cost qu_walk qu_edits qu_said fu_size fu_places fu_reads fu_there fu_total fu_walked fu_edited fu_written fu_at fu_end fu_began fu_many au_text au_segments au_names au_nameSize) → va_S A s.heap H locs → lv_has ls 6 [(0, .ref qu), (3, .int x3)] → W p l e rm_Mo_namedSide s m args below meth c H locs 0 0 QF (F0 m 36 ls [.int s0]) := by
    intro  x3 s0 fu_at fu_began fu_many H locs ls h hP hD hS hl
    unfold w_Mo_namedSide_36 at h
    refine lv_istore (lv' := [(4, .int s0), (0, .ref qu), (3, .int x3)]) hx hb d_Mo_namedSide_36 hl (by decide) rfl (fun ls hl => ?_)
    refine lv_aload_n hx hb d_Mo_namedSide_38 rfl (lv_at hl 1 rfl) ?_
    refine call_V_i (As := []) (rest := []) C0 hP hD hS [0, 1] [2, 3, 4] [3, 4, 0, 1, 2] [(qu_segments, .inl (cI, 2, .inl au_segments)), (qu_names, .inl (cC, 48, .inl au_names)), (qu_nameSize, .inl (cI, 16, .inl au_nameSize))] (fun (v : Int32) (_ : Unit) => (W_Mo_namedSide cI cC cB qu qu_text qu_segments qu_names qu_nameSize qu_bases qu_length qu_links qu_from qu_to qu_paths qu_titles qu_titleSize qu_steps qu_step qu_sideOf qu_within qu_read qu_cost qu_walk qu_edits qu_said fu_size fu_places fu_reads fu_there fu_total fu_walked fu_edited fu_written v fu_end fu_began fu_many au_text au_segments au_names au_nameSize)) (ci := 6) rfl rfl (k_Mo_sign l dC dI cI cC cB _ qu qu_text qu_segments qu_names qu_nameSize qu_bases qu_length qu_links qu_from qu_to qu_paths qu_titles qu_titleSize qu_steps qu_step qu_sideOf qu_within qu_read qu_cost qu_walk qu_edits qu_said fu_size fu_places fu_reads fu_there fu_total fu_walked fu_edited fu_written fu_at fu_end fu_began fu_many au_text h) (g_V w_285 w_286 w_287 w_281 w_284) 0 rfl (by decide +kernel) rfl rfl ⟨Nat.le_of_ble_eq_true rfl, Nat.le_of_ble_eq_true rfl⟩ rfl rfl (by decide) (by decide) (by decide) (by decide) (fun _ _ => rfl) hl.1 rfl (Nat.le_of_ble_eq_true rfl) d_Mo_namedSide_39 ⟨Nat.le_of_ble_eq_true rfl, Nat.le_of_ble_eq_true rfl⟩ (fun r_2 v_1 _ H locs h hP hD hS => ?_)
    have hP : va_P (dC, dI) cls (W_Mo_namedSide cI cC cB qu qu_text qu_segments qu_names qu_nameSize qu_bases qu_length qu_links qu_from qu_to qu_paths qu_titles qu_titleSize qu_steps qu_step qu_sideOf qu_within qu_read qu_cost qu_walk qu_edits qu_said fu_size fu_places fu_reads fu_there fu_total fu_walked fu_edited fu_written v_1 fu_end fu_began fu_many au_text au_segments au_names au_nameSize) H := hP
    have hD : va_D A (W_Mo_namedSide cI cC cB qu qu_text qu_segments qu_names qu_nameSize qu_bases qu_length qu_links qu_from qu_to qu_paths qu_titles qu_titleSize qu_steps qu_step qu_sideOf qu_within qu_read qu_cost qu_walk qu_edits qu_said fu_size fu_places fu_reads fu_there fu_total fu_walked fu_edited fu_written v_1 fu_end fu_began fu_many au_text au_segments au_names au_nameSize) := hD
    refine lv_istore (lv' := [(5, .int r_2), (4, .int s0), (0, .ref qu), (3, .int x3)]) hx hb d_Mo_namedSide_42 hl (by decide) rfl (fun ls hl => ?_)
    refine lv_iload_n hx hb d_Mo_namedSide_44 rfl (lv_at hl 3 rfl) ?_
    refine lv_if_lt (tgt := 58) hx hb d_Mo_namedSide_45 (by decide) (fun c_3 => ?_) (fun c_3 => ?_)
    · have h := h.1 c_3
      exact blk_58  _ _ _ _ _ _ h hP hD hS (lv_sub hl [] rfl)
    · have h := h.2 c_3
      refine lv_iload hx hb d_Mo_namedSide_48 (lv_at hl 1 rfl) ?_
      refine lv_if_eq (tgt := 58) hx hb d_Mo_namedSide_50 (by decide) (fun c_4 => ?_) (fun c_4 => ?_)
      · have h := h.1 c_4
        exact blk_58  _ _ _ _ _ _ h hP hD hS (lv_sub hl [] rfl)
      · have h := h.2 c_4
        refine lv_iload hx hb d_Mo_namedSide_53 (lv_at hl 0 rfl) ?_
        refine lv_if_ge (tgt := 62) hx hb d_Mo_namedSide_55 (by decide) (fun c_5 => ?_) (fun c_5 => ?_)
        · have h := h.1 c_5
          refine lv_iconst (v := 2) hx hb d_Mo_namedSide_62 (by decide) ?_
          refine lv_iload_n hx hb d_Mo_namedSide_63 rfl (lv_at hl 3 rfl) ?_
          refine lv_imul hx hb d_Mo_namedSide_64 ?_
          refine lv_iload hx hb d_Mo_namedSide_65 (lv_at hl 0 rfl) ?_
          refine lv_iadd hx hb d_Mo_namedSide_67 ?_
          refine lv_topi (fun x_6 ex_6 => ?_)
          have h := h x_6 ex_6
          exact hret (v_1, fu_began, fu_many) () x_6 _ _ _ _ rfl h hP hD hS d_Mo_namedSide_68
        · have h := h.2 c_5
          exact blk_58  _ _ _ _ _ _ h hP hD hS (lv_sub hl [] rfl)
  have blk_31 : ∀  (x3 : Int32) (fu_at : Int32) (fu_began : Int32) (fu_many : Int32) (H : Heap) (locs : List Loc) (ls : Array Slot), w_Mo_namedSide_31 Q  fu_end au_text au_segments au_names au_nameSize x3 fu_at fu_began fu_many → va_P (dC, dI) cls (W_Mo_namedSide cI cC cB qu qu_text qu_segments qu_names qu_nameSize qu_bases qu_length qu_links qu_from qu_to qu_paths qu_titles qu_titleSize qu_steps qu_step qu_sideOf qu_within qu_read qu_cost qu_walk qu_edits qu_said fu_size fu_places fu_reads fu_there fu_total fu_walked fu_edited fu_written fu_at fu_end fu_began fu_many au_text au_segments au_names au_nameSize) H → va_D A (W_Mo_namedSide cI cC cB qu qu_text qu_segments qu_names qu_nameSize qu_bases qu_length qu_links qu_from qu_to qu_paths qu_titles qu_titleSize qu_steps qu_step qu_sideOf qu_within qu_read qu_cost qu_walk qu_edits qu_said fu_size fu_places fu_reads fu_there fu_total fu_walked fu_edited fu_written fu_at fu_end fu_began fu_many au_text au_segments au_names au_nameSize) → va_S A s.heap H locs → lv_has ls 6 [(0, .ref qu), (3, .int x3)] → W p l e rm_Mo_namedSide s m args below meth c H locs 0 0 QF (F0 m 31 ls []) := by
    intro  x3 fu_at fu_began fu_many H locs ls h hP hD hS hl
    unfold w_Mo_namedSide_31 at h
    refine lv_iconst (v := 1) hx hb d_Mo_namedSide_31 (by decide) ?_
    refine lv_goto (tgt := 36) hx hb d_Mo_namedSide_32 (by decide) ?_
    exact blk_36  _ _ _ _ _ _ _ _ h hP hD hS (lv_sub hl [0, 1] rfl)
  have blk_17 : ∀  (s0 : Int32) (fu_at : Int32) (fu_began : Int32) (fu_many : Int32) (H : Heap) (locs : List Loc) (ls : Array Slot), w_Mo_namedSide_17 Q  p1 fu_end au_text au_segments au_names au_nameSize s0 fu_at fu_began fu_many → va_P (dC, dI) cls (W_Mo_namedSide cI cC cB qu qu_text qu_segments qu_names qu_nameSize qu_bases qu_length qu_links qu_from qu_to qu_paths qu_titles qu_titleSize qu_steps qu_step qu_sideOf qu_within qu_read qu_cost qu_walk qu_edits qu_said fu_size fu_places fu_reads fu_there fu_total fu_walked fu_edited fu_written fu_at fu_end fu_began fu_many au_text au_segments au_names au_nameSize) H → va_D A (W_Mo_namedSide cI cC cB qu qu_text qu_segments qu_names qu_nameSize qu_bases qu_length qu_links qu_from qu_to qu_paths qu_titles qu_titleSize qu_steps qu_step qu_sideOf qu_within qu_read qu_cost qu_walk qu_edits qu_said fu_size fu_places fu_reads fu_there fu_total fu_walked fu_edited fu_written fu_at fu_end fu_began fu_many au_text au_segments au_names au_nameSize) → va_S A s.heap H locs → lv_has ls 6 [(0, .ref qu), (1, .int p1)] → W p l e rm_Mo_namedSide s m args below meth c H locs 0 0 QF (F0 m 17 ls [.int s0]) := by
    intro  s0 fu_at fu_began fu_many H locs ls h hP hD hS hl
    unfold w_Mo_namedSide_17 at h
    refine lv_istore_n (lv' := [(3, .int s0), (0, .ref qu), (1, .int p1)]) hx hb d_Mo_namedSide_17 rfl hl (by decide) rfl (fun ls hl => ?_)
    refine lv_iload_n hx hb d_Mo_namedSide_18 rfl (lv_at hl 2 rfl) ?_
    refine lv_if_eq (tgt := 31) hx hb d_Mo_namedSide_19 (by decide) (fun c_7 => ?_) (fun c_7 => ?_)
    · have h := h.1 c_7
      exact blk_31  _ _ _ _ _ _ _ h hP hD hS (lv_sub hl [1, 0] rfl)
    · have h := h.2 c_7
      refine lv_aload_n hx hb d_Mo_namedSide_22 rfl (lv_at hl 1 rfl) ?_
      refine lv_bipush (v := 9) hx hb d_Mo_namedSide_23 (by decide) ?_
      refine call_V_i (As := [.int 9]) (rest := []) C0 hP hD hS [0, 1] [2, 3, 4] [3, 4, 0, 1, 2] [(qu_segments, .inl (cI, 2, .inl au_segments)), (qu_names, .inl (cC, 48, .inl au_names)), (qu_nameSize, .inl (cI, 16, .inl au_nameSize))] (fun (v : Int32) (_ : Unit) => (W_Mo_namedSide cI cC cB qu qu_text qu_segments qu_names qu_nameSize qu_bases qu_length qu_links qu_from qu_to qu_paths qu_titles qu_titleSize qu_steps qu_step qu_sideOf qu_within qu_read qu_cost qu_walk qu_edits qu_said fu_size fu_places fu_reads fu_there fu_total fu_walked fu_edited fu_written v fu_end fu_began fu_many au_text au_segments au_names au_nameSize)) (ci := 6) rfl rfl (k_Mo_eat l dC dI cI cC cB _ qu qu_text qu_segments qu_names qu_nameSize qu_bases qu_length qu_links qu_from qu_to qu_paths qu_titles qu_titleSize qu_steps qu_step qu_sideOf qu_within qu_read qu_cost qu_walk qu_edits qu_said fu_size fu_places fu_reads fu_there fu_total fu_walked fu_edited fu_written fu_at fu_end fu_began fu_many au_text 9 h) (g_V w_278 w_279 w_280 w_281 w_277) 1 rfl (by decide +kernel) rfl rfl ⟨Nat.le_of_ble_eq_true rfl, Nat.le_of_ble_eq_true rfl⟩ rfl rfl (by decide) (by decide) (by decide) (by decide) (fun _ _ => rfl) hl.1 rfl (Nat.le_of_ble_eq_true rfl) d_Mo_namedSide_25 ⟨Nat.le_of_ble_eq_true rfl, Nat.le_of_ble_eq_true rfl⟩ (fun r_9 v_8 _ H locs h hP hD hS => ?_)
      have hP : va_P (dC, dI) cls (W_Mo_namedSide cI cC cB qu qu_text qu_segments qu_names qu_nameSize qu_bases qu_length qu_links qu_from qu_to qu_paths qu_titles qu_titleSize qu_steps qu_step qu_sideOf qu_within qu_read qu_cost qu_walk qu_edits qu_said fu_size fu_places fu_reads fu_there fu_total fu_walked fu_edited fu_written v_8 fu_end fu_began fu_many au_text au_segments au_names au_nameSize) H := hP
      have hD : va_D A (W_Mo_namedSide cI cC cB qu qu_text qu_segments qu_names qu_nameSize qu_bases qu_length qu_links qu_from qu_to qu_paths qu_titles qu_titleSize qu_steps qu_step qu_sideOf qu_within qu_read qu_cost qu_walk qu_edits qu_said fu_size fu_places fu_reads fu_there fu_total fu_walked fu_edited fu_written v_8 fu_end fu_began fu_many au_text au_segments au_names au_nameSize) := hD
      refine lv_if_eq (tgt := 35) hx hb d_Mo_namedSide_28 (by decide) (fun c_10 => ?_) (fun c_10 => ?_)
      · have h := h.1 c_10
        refine lv_iconst (v := 0) hx hb d_Mo_namedSide_35 (by decide) ?_
        exact blk_36  _ _ _ _ _ _ _ _ h hP hD hS (lv_sub hl [1, 0] rfl)
      · have h := h.2 c_10
        exact blk_31  _ _ _ _ _ _ _ h hP hD hS (lv_sub hl [1, 0] rfl)
  unfold wp_Mo_namedSide at h
  refine lv_aload_n hx hb d_Mo_namedSide_0 rfl (lv_at hl 0 rfl) ?_
  refine call_V_i (As := []) (rest := []) C0 hP hD hS [0, 1] [2, 3, 4] [3, 4, 0, 1, 2] [(qu_segments, .inl (cI, 2, .inl au_segments)), (qu_names, .inl (cC, 48, .inl au_names)), (qu_nameSize, .inl (cI, 16, .inl au_nameSize))] (fun (v : Int32 × Int32 × Int32) (_ : Unit) => (W_Mo_namedSide cI cC cB qu qu_text qu_segments qu_names qu_nameSize qu_bases qu_length qu_links qu_from qu_to qu_paths qu_titles qu_titleSize qu_steps qu_step qu_sideOf qu_within qu_read qu_cost qu_walk qu_edits qu_said fu_size fu_places fu_reads fu_there fu_total fu_walked fu_edited fu_written v.1 fu_end v.2.1 v.2.2 au_text au_segments au_names au_nameSize)) (ci := 6) rfl rfl (k_Mo_eatName l dC dI cI cC cB _ qu qu_text qu_segments qu_names qu_nameSize qu_bases qu_length qu_links qu_from qu_to qu_paths qu_titles qu_titleSize qu_steps qu_step qu_sideOf qu_within qu_read qu_cost qu_walk qu_edits qu_said fu_size fu_places fu_reads fu_there fu_total fu_walked fu_edited fu_written fu_at fu_end fu_began fu_many au_text h) (g_V w_301 w_302 w_303 w_281 w_300) 0 rfl (by decide +kernel) rfl rfl ⟨Nat.le_of_ble_eq_true rfl, Nat.le_of_ble_eq_true rfl⟩ rfl rfl (by decide) (by decide) (by decide) (by decide) (fun _ _ => rfl) hl.1 rfl (Nat.le_of_ble_eq_true rfl) d_Mo_namedSide_1 ⟨Nat.le_of_ble_eq_true rfl, Nat.le_of_ble_eq_true rfl⟩ (fun r_12 v_11 _ H locs h hP hD hS => ?_)
  have hP : va_P (dC, dI) cls (W_Mo_namedSide cI cC cB qu qu_text qu_segments qu_names qu_nameSize qu_bases qu_length qu_links qu_from qu_to qu_paths qu_titles qu_titleSize qu_steps qu_step qu_sideOf qu_within qu_read qu_cost qu_walk qu_edits qu_said fu_size fu_places fu_reads fu_there fu_total fu_walked fu_edited fu_written v_11.1 fu_end v_11.2.1 v_11.2.2 au_text au_segments au_names au_nameSize) H := hP
  have hD : va_D A (W_Mo_namedSide cI cC cB qu qu_text qu_segments qu_names qu_nameSize qu_bases qu_length qu_links qu_from qu_to qu_paths qu_titles qu_titleSize qu_steps qu_step qu_sideOf qu_within qu_read qu_cost qu_walk qu_edits qu_said fu_size fu_places fu_reads fu_there fu_total fu_walked fu_edited fu_written v_11.1 fu_end v_11.2.1 v_11.2.2 au_text au_segments au_names au_nameSize) := hD
  refine lv_istore_n (lv' := [(2, .int r_12), (0, .ref qu), (1, .int p1)]) hx hb d_Mo_namedSide_4 rfl hl (by decide) rfl (fun ls hl => ?_)
  refine lv_iload_n hx hb d_Mo_namedSide_5 rfl (lv_at hl 0 rfl) ?_
  refine lv_if_eq (tgt := 16) hx hb d_Mo_namedSide_6 (by decide) (fun c_13 => ?_) (fun c_13 => ?_)
  · have h := h.1 c_13
    refine lv_iconst (v := (-1)) hx hb d_Mo_namedSide_16 (by decide) ?_
    exact blk_17  _ _ _ _ _ _ _ h hP hD hS (lv_sub hl [1, 2] rfl)
  · have h := h.2 c_13
    refine lv_aload_n hx hb d_Mo_namedSide_9 rfl (lv_at hl 1 rfl) ?_
    refine call_V_i (As := []) (rest := []) C0 hP hD hS [0, 1, 2, 3, 4] [] [0, 1, 2, 3, 4] [] (fun (v : Unit) (_ : Unit) => (W_Mo_namedSide cI cC cB qu qu_text qu_segments qu_names qu_nameSize qu_bases qu_length qu_links qu_from qu_to qu_paths qu_titles qu_titleSize qu_steps qu_step qu_sideOf qu_within qu_read qu_cost qu_walk qu_edits qu_said fu_size fu_places fu_reads fu_there fu_total fu_walked fu_edited fu_written v_11.1 fu_end v_11.2.1 v_11.2.2 au_text au_segments au_names au_nameSize)) (ci := 6) rfl rfl (k_Mo_segmentNamed l dC dI cI cC cB _ qu qu_text qu_segments qu_names qu_nameSize qu_bases qu_length qu_links qu_from qu_to qu_paths qu_titles qu_titleSize qu_steps qu_step qu_sideOf qu_within qu_read qu_cost qu_walk qu_edits qu_said fu_size fu_places fu_reads fu_there fu_total fu_walked fu_edited fu_written v_11.1 fu_end v_11.2.1 v_11.2.2 au_text au_segments au_names au_nameSize h) (g_V w_297 w_298 w_299 w_281 w_296) 0 rfl (by decide +kernel) rfl rfl ⟨Nat.le_of_ble_eq_true rfl, Nat.le_of_ble_eq_true rfl⟩ rfl rfl (by decide) (by decide) (by decide) (by decide) (fun _ _ => rfl) hl.1 rfl (Nat.le_of_ble_eq_true rfl) d_Mo_namedSide_10 ⟨Nat.le_of_ble_eq_true rfl, Nat.le_of_ble_eq_true rfl⟩ (fun r_15 v_14 _ H locs h hP hD hS => ?_)
    have hP : va_P (dC, dI) cls (W_Mo_namedSide cI cC cB qu qu_text qu_segments qu_names qu_nameSize qu_bases qu_length qu_links qu_from qu_to qu_paths qu_titles qu_titleSize qu_steps qu_step qu_sideOf qu_within qu_read qu_cost qu_walk qu_edits qu_said fu_size fu_places fu_reads fu_there fu_total fu_walked fu_edited fu_written v_11.1 fu_end v_11.2.1 v_11.2.2 au_text au_segments au_names au_nameSize) H := hP
    have hD : va_D A (W_Mo_namedSide cI cC cB qu qu_text qu_segments qu_names qu_nameSize qu_bases qu_length qu_links qu_from qu_to qu_paths qu_titles qu_titleSize qu_steps qu_step qu_sideOf qu_within qu_read qu_cost qu_walk qu_edits qu_said fu_size fu_places fu_reads fu_there fu_total fu_walked fu_edited fu_written v_11.1 fu_end v_11.2.1 v_11.2.2 au_text au_segments au_names au_nameSize) := hD
    refine lv_goto (tgt := 17) hx hb d_Mo_namedSide_13 (by decide) ?_
    exact blk_17  _ _ _ _ _ _ _ h hP hD hS (lv_sub hl [1, 2] rfl)
abbrev W_Mo_linked (cI cC cB : ClassId) (qu : Nat) (qu_links : Nat) (qu_from : Nat) (qu_to : Nat) (qu_text : Nat) (qu_segments : Nat) (qu_names : Nat) (qu_nameSize : Nat) (qu_bases : Nat) (qu_length : Nat) (qu_paths : Nat) (qu_titles : Nat) (qu_titleSize : Nat) (qu_steps : Nat) (qu_step : Nat) (qu_sideOf : Nat) (qu_within : Nat) (qu_read : Nat) (qu_cost : Nat) (qu_walk : Nat) (qu_edits : Nat) (qu_said : Nat) (fu_size : Int32) (fu_places : Int32) (fu_reads : Int32) (fu_there : Int32) (fu_total : Int32) (fu_walked : Int32) (fu_edited : Int32) (fu_written : Int32) (fu_at : Int32) (fu_end : Int32) (fu_began : Int32) (fu_many : Int32) (au_links : Nat → Int32) (au_from : Nat → Int32) (au_to : Nat → Int32) : va_W := [(qu, .inr (6, [.int fu_size, .ref qu_text, .ref qu_segments, .ref qu_names, .ref qu_nameSize, .ref qu_bases, .ref qu_length, .ref qu_links, .ref qu_from, .ref qu_to, .ref qu_paths, .ref qu_titles, .ref qu_titleSize, .ref qu_steps, .ref qu_step, .int fu_places, .ref qu_sideOf, .ref qu_within, .int fu_reads, .ref qu_read, .ref qu_cost, .int fu_there, .int fu_total, .int fu_walked, .ref qu_walk, .int fu_edited, .ref qu_edits, .int fu_written, .ref qu_said, .int fu_at, .int fu_end, .int fu_began, .int fu_many])), (qu_links, .inl (cI, 2, .inl au_links)), (qu_from, .inl (cI, 24, .inl au_from)), (qu_to, .inl (cI, 24, .inl au_to))]
def w_Mo_linked_83 (Q : Int32 → Unit → Prop) (K_9 : Int32 → Int32 → Prop) (p1 : Int32) (p2 : Int32) (p3 : Int32) (au_links : Nat → Int32) (au_from : Nat → Int32) (au_to : Nat → Int32) (x5 : Int32) (s0 : Int32) : Prop := ∀ x5_1 : Int32, x5_1 = x5 + 1 → (K_9 s0 x5_1)
def w_Mo_linked_78 (Q : Int32 → Unit → Prop) (K_9 : Int32 → Int32 → Prop) (p1 : Int32) (p2 : Int32) (p3 : Int32) (au_links : Nat → Int32) (au_from : Nat → Int32) (au_to : Nat → Int32) (x5 : Int32) : Prop := w_Mo_linked_83 Q K_9 p1 p2 p3 au_links au_from au_to x5 1
def w_Mo_linked_82 (Q : Int32 → Unit → Prop) (K_9 : Int32 → Int32 → Prop) (p1 : Int32) (p2 : Int32) (p3 : Int32) (au_links : Nat → Int32) (au_from : Nat → Int32) (au_to : Nat → Int32) (x5 : Int32) : Prop := w_Mo_linked_83 Q K_9 p1 p2 p3 au_links au_from au_to x5 0
def w_Mo_linked_52 (Q : Int32 → Unit → Prop) (K_9 : Int32 → Int32 → Prop) (p1 : Int32) (p2 : Int32) (p3 : Int32) (au_links : Nat → Int32) (au_from : Nat → Int32) (au_to : Nat → Int32) (x5 : Int32) : Prop := vp_in x5 24 ∧ (∀ y_3 : Int32, y_3 = au_to x5.toNatClampNeg → (∀ x_4 : Int32, x_4 = p2 ^^^ 1 → (((y_3 = x_4 → (vp_in x5 24 ∧ (∀ y_7 : Int32, y_7 = au_from x5.toNatClampNeg → (∀ x_8 : Int32, x_8 = p3 ^^^ 1 → (((y_7 = x_8 → (w_Mo_linked_78 Q K_9 p1 p2 p3 au_links au_from au_to x5)) ∧ (¬ y_7 = x_8 → (w_Mo_linked_82 Q K_9 p1 p2 p3 au_links au_from au_to x5)))))))) ∧ (¬ y_3 = x_4 → (w_Mo_linked_82 Q K_9 p1 p2 p3 au_links au_from au_to x5))))))
def w_Mo_linked_9B (Q : Int32 → Unit → Prop)  (K_9 : Int32 → Int32 → Prop) (p1 : Int32) (p2 : Int32) (p3 : Int32) (au_links : Nat → Int32) (au_from : Nat → Int32) (au_to : Nat → Int32) (x4 : Int32) (x5 : Int32) : Prop := vp_in p1 2 ∧ (∀ x_11 : Int32, x_11 = (12 * p1) + (au_links p1.toNatClampNeg) → (((x_11 ≤ x5 → ((narrow .boolean (.int x4) = .int x4 ∧ Q x4 ()))) ∧ (¬ x_11 ≤ x5 → (((x4 = 0 → (vp_in x5 24 ∧ (∀ y_15 : Int32, y_15 = au_from x5.toNatClampNeg → (((y_15 = p2 → (vp_in x5 24 ∧ (∀ y_18 : Int32, y_18 = au_to x5.toNatClampNeg → (((y_18 = p3 → (w_Mo_linked_78 Q K_9 p1 p2 p3 au_links au_from au_to x5)) ∧ (¬ y_18 = p3 → (w_Mo_linked_52 Q K_9 p1 p2 p3 au_links au_from au_to x5))))))) ∧ (¬ y_15 = p2 → (w_Mo_linked_52 Q K_9 p1 p2 p3 au_links au_from au_to x5))))))) ∧ (¬ x4 = 0 → (w_Mo_linked_78 Q K_9 p1 p2 p3 au_links au_from au_to x5))))))))
def w_Mo_linked_9 (Q : Int32 → Unit → Prop)  (p1 : Int32) (p2 : Int32) (p3 : Int32) (au_links : Nat → Int32) (au_from : Nat → Int32) (au_to : Nat → Int32) : Nat → Int32 → Int32 → Prop
  | 0 => fun _ _ => False
  | n + 1 => fun x4 x5 => w_Mo_linked_9B Q  (w_Mo_linked_9 Q  p1 p2 p3 au_links au_from au_to n) p1 p2 p3 au_links au_from au_to x4 x5
def wp_Mo_linked (Q : Int32 → Unit → Prop) (p1 : Int32) (p2 : Int32) (p3 : Int32) (au_links : Nat → Int32) (au_from : Nat → Int32) (au_to : Nat → Int32) : Prop := ∀ x_20 : Int32, x_20 = 12 * p1 → (∃ fu_9 : Nat, w_Mo_linked_9 Q p1 p2 p3 au_links au_from au_to fu_9 0 x_20)
abbrev rm_Mo_linked : Room := { frames := 0, cells := 0, slots := 0, locals := 0 }
set_option maxHeartbeats 4000000 in
set_option maxRecDepth 100000 in
theorem k_Mo_linked (l : Launch) (dC : Nat → ClassId) (dI : Nat → Nat → Nat) (cI cC cB : ClassId) (sz : Nat) (qu : Nat) (qu_links : Nat) (qu_from : Nat) (qu_to : Nat) (qu_text : Nat) (qu_segments : Nat) (qu_names : Nat) (qu_nameSize : Nat) (qu_bases : Nat) (qu_length : Nat) (qu_paths : Nat) (qu_titles : Nat) (qu_titleSize : Nat) (qu_steps : Nat) (qu_step : Nat) (qu_sideOf : Nat) (qu_within : Nat) (qu_read : Nat) (qu_cost : Nat) (qu_walk : Nat) (qu_edits : Nat) (qu_said : Nat) (fu_size : Int32) (fu_places : Int32) (fu_reads : Int32) (fu_there : Int32) (fu_total : Int32) (fu_walked : Int32) (fu_edited : Int32) (fu_written : Int32) (fu_at : Int32) (fu_end : Int32) (fu_began : Int32) (fu_many : Int32) (au_links : Nat → Int32) (au_from : Nat → Int32) (au_to : Nat → Int32) (p1 : Int32) (p2 : Int32) (p3 : Int32) {Q : Int32 → Unit → Prop} (h : wp_Mo_linked Q p1 p2 p3 au_links au_from au_to) :
    CTi l y_Mo_linked (wM y_Mo_linked c_Mo_linked 6 (some .boolean)) rm_Mo_linked 0 0 (dC, dI) (tysL cI cC cB) [.ref qu, .int p1, .int p2, .int p3] (W_Mo_linked cI cC cB qu qu_links qu_from qu_to qu_text qu_segments qu_names qu_nameSize qu_bases qu_length qu_paths qu_titles qu_titleSize qu_steps qu_step qu_sideOf qu_within qu_read qu_cost qu_walk qu_edits qu_said fu_size fu_places fu_reads fu_there fu_total fu_walked fu_edited fu_written fu_at fu_end fu_began fu_many au_links au_from au_to) sz Q (fun (v : Unit) (_ : Unit) => (W_Mo_linked cI cC cB qu qu_links qu_from qu_to qu_text qu_segments qu_names qu_nameSize qu_bases qu_length qu_paths qu_titles qu_titleSize qu_steps qu_step qu_sideOf qu_within qu_read qu_cost qu_walk qu_edits qu_said fu_size fu_places fu_reads fu_there fu_total fu_walked fu_edited fu_written fu_at fu_end fu_began fu_many au_links au_from au_to)) := by
  refine CTi.std (by decide) (Nat.le_of_ble_eq_true rfl) ?_
  intro p e s m args below meth c A ls QF C0 hP hD hl hS hsz hret
  obtain ⟨hx, hb, hr, hml, hown, hts, hlocks, hN, hA, hK, hnm⟩ := id C0
  have hown : s.vm.findClass R_Mo = some m.cls := hown
  have hl : lv_has ls 6 [(0, .ref qu), (1, .int p1), (2, .int p2), (3, .int p3)] := hl
  clear hsz
  have blk_83 : ∀ (K_9 : Int32 → Int32 → Prop) (hK_9 : ∀ (x4 : Int32) (x5 : Int32) (H : Heap) (locs : List Loc) (ls : Array Slot), K_9 x4 x5 → va_P (dC, dI) cls (W_Mo_linked cI cC cB qu qu_links qu_from qu_to qu_text qu_segments qu_names qu_nameSize qu_bases qu_length qu_paths qu_titles qu_titleSize qu_steps qu_step qu_sideOf qu_within qu_read qu_cost qu_walk qu_edits qu_said fu_size fu_places fu_reads fu_there fu_total fu_walked fu_edited fu_written fu_at fu_end fu_began fu_many au_links au_from au_to) H → va_D A (W_Mo_linked cI cC cB qu qu_links qu_from qu_to qu_text qu_segments qu_names qu_nameSize qu_bases qu_length qu_paths qu_titles qu_titleSize qu_steps qu_step qu_sideOf qu_within qu_read qu_cost qu_walk qu_edits qu_said fu_size fu_places fu_reads fu_there fu_total fu_walked fu_edited fu_written fu_at fu_end fu_began fu_many au_links au_from au_to) → va_S A s.heap H locs → lv_has ls 6 [(0, .ref qu), (1, .int p1), (2, .int p2), (3, .int p3), (4, .int x4), (5, .int x5)] → W p l e rm_Mo_linked s m args below meth c H locs 0 0 QF (F0 m 9 ls [])) (x5 : Int32) (s0 : Int32) (H : Heap) (locs : List Loc) (ls : Array Slot), w_Mo_linked_83 Q K_9 p1 p2 p3 au_links au_from au_to x5 s0 → va_P (dC, dI) cls (W_Mo_linked cI cC cB qu qu_links qu_from qu_to qu_text qu_segments qu_names qu_nameSize qu_bases qu_length qu_paths qu_titles qu_titleSize qu_steps qu_step qu_sideOf qu_within qu_read qu_cost qu_walk qu_edits qu_said fu_size fu_places fu_reads fu_there fu_total fu_walked fu_edited fu_written fu_at fu_end fu_began fu_many au_links au_from au_to) H → va_D A (W_Mo_linked cI cC cB qu qu_links qu_from qu_to qu_text qu_segments qu_names qu_nameSize qu_bases qu_length qu_paths qu_titles qu_titleSize qu_steps qu_step qu_sideOf qu_within qu_read qu_cost qu_walk qu_edits qu_said fu_size fu_places fu_reads fu_there fu_total fu_walked fu_edited fu_written fu_at fu_end fu_began fu_many au_links au_from au_to) → va_S A s.heap H locs → lv_has ls 6 [(0, .ref qu), (1, .int p1), (2, .int p2), (3, .int p3), (5, .int x5)] → W p l e rm_Mo_linked s m args below meth c H locs 0 0 QF (F0 m 83 ls [.int s0]) := by
    intro K_9 hK_9 x5 s0 H locs ls h hP hD hS hl
    unfold w_Mo_linked_83 at h
    refine lv_istore (lv' := [(4, .int s0), (0, .ref qu), (1, .int p1), (2, .int p2), (3, .int p3), (5, .int x5)]) hx hb d_Mo_linked_83 hl (by decide) rfl (fun ls hl => ?_)
    obtain ⟨x5_1, ex5_1⟩ : ∃ y : Int32, y = x5 + 1 := ⟨_, rfl⟩
    have h := h x5_1 ex5_1
    refine lv_iinc (v := x5_1) (lv' := [(5, .int x5_1), (4, .int s0), (0, .ref qu), (1, .int p1), (2, .int p2), (3, .int p3)]) hx hb d_Mo_linked_85 hl (k := 5) rfl (by rw [ex5_1]; rfl) (by decide) rfl (fun ls hl => ?_)
    refine lv_goto (tgt := 9) hx hb d_Mo_linked_88 (by decide) ?_
    exact hK_9 _ _ _ _ _ h hP hD hS (lv_sub hl [2, 3, 4, 5, 1, 0] rfl)
  have blk_78 : ∀ (K_9 : Int32 → Int32 → Prop) (hK_9 : ∀ (x4 : Int32) (x5 : Int32) (H : Heap) (locs : List Loc) (ls : Array Slot), K_9 x4 x5 → va_P (dC, dI) cls (W_Mo_linked cI cC cB qu qu_links qu_from qu_to qu_text qu_segments qu_names qu_nameSize qu_bases qu_length qu_paths qu_titles qu_titleSize qu_steps qu_step qu_sideOf qu_within qu_read qu_cost qu_walk qu_edits qu_said fu_size fu_places fu_reads fu_there fu_total fu_walked fu_edited fu_written fu_at fu_end fu_began fu_many au_links au_from au_to) H → va_D A (W_Mo_linked cI cC cB qu qu_links qu_from qu_to qu_text qu_segments qu_names qu_nameSize qu_bases qu_length qu_paths qu_titles qu_titleSize qu_steps qu_step qu_sideOf qu_within qu_read qu_cost qu_walk qu_edits qu_said fu_size fu_places fu_reads fu_there fu_total fu_walked fu_edited fu_written fu_at fu_end fu_began fu_many au_links au_from au_to) → va_S A s.heap H locs → lv_has ls 6 [(0, .ref qu), (1, .int p1), (2, .int p2), (3, .int p3), (4, .int x4), (5, .int x5)] → W p l e rm_Mo_linked s m args below meth c H locs 0 0 QF (F0 m 9 ls [])) (x5 : Int32) (H : Heap) (locs : List Loc) (ls : Array Slot), w_Mo_linked_78 Q K_9 p1 p2 p3 au_links au_from au_to x5 → va_P (dC, dI) cls (W_Mo_linked cI cC cB qu qu_links qu_from qu_to qu_text qu_segments qu_names qu_nameSize qu_bases qu_length qu_paths qu_titles qu_titleSize qu_steps qu_step qu_sideOf qu_within qu_read qu_cost qu_walk qu_edits qu_said fu_size fu_places fu_reads fu_there fu_total fu_walked fu_edited fu_written fu_at fu_end fu_began fu_many au_links au_from au_to) H → va_D A (W_Mo_linked cI cC cB qu qu_links qu_from qu_to qu_text qu_segments qu_names qu_nameSize qu_bases qu_length qu_paths qu_titles qu_titleSize qu_steps qu_step qu_sideOf qu_within qu_read qu_cost qu_walk qu_edits qu_said fu_size fu_places fu_reads fu_there fu_total fu_walked fu_edited fu_written fu_at fu_end fu_began fu_many au_links au_from au_to) → va_S A s.heap H locs → lv_has ls 6 [(0, .ref qu), (1, .int p1), (2, .int p2), (3, .int p3), (5, .int x5)] → W p l e rm_Mo_linked s m args below meth c H locs 0 0 QF (F0 m 78 ls []) := by
    intro K_9 hK_9 x5 H locs ls h hP hD hS hl
    unfold w_Mo_linked_78 at h
    refine lv_iconst (v := 1) hx hb d_Mo_linked_78 (by decide) ?_
    refine lv_goto (tgt := 83) hx hb d_Mo_linked_79 (by decide) ?_
    exact blk_83 _ hK_9 _ _ _ _ _ h hP hD hS (lv_sub hl [0, 1, 2, 3, 4] rfl)
  have blk_82 : ∀ (K_9 : Int32 → Int32 → Prop) (hK_9 : ∀ (x4 : Int32) (x5 : Int32) (H : Heap) (locs : List Loc) (ls : Array Slot), K_9 x4 x5 → va_P (dC, dI) cls (W_Mo_linked cI cC cB qu qu_links qu_from qu_to qu_text qu_segments qu_names qu_nameSize qu_bases qu_length qu_paths qu_titles qu_titleSize qu_steps qu_step qu_sideOf qu_within qu_read qu_cost qu_walk qu_edits qu_said fu_size fu_places fu_reads fu_there fu_total fu_walked fu_edited fu_written fu_at fu_end fu_began fu_many au_links au_from au_to) H → va_D A (W_Mo_linked cI cC cB qu qu_links qu_from qu_to qu_text qu_segments qu_names qu_nameSize qu_bases qu_length qu_paths qu_titles qu_titleSize qu_steps qu_step qu_sideOf qu_within qu_read qu_cost qu_walk qu_edits qu_said fu_size fu_places fu_reads fu_there fu_total fu_walked fu_edited fu_written fu_at fu_end fu_began fu_many au_links au_from au_to) → va_S A s.heap H locs → lv_has ls 6 [(0, .ref qu), (1, .int p1), (2, .int p2), (3, .int p3), (4, .int x4), (5, .int x5)] → W p l e rm_Mo_linked s m args below meth c H locs 0 0 QF (F0 m 9 ls [])) (x5 : Int32) (H : Heap) (locs : List Loc) (ls : Array Slot), w_Mo_linked_82 Q K_9 p1 p2 p3 au_links au_from au_to x5 → va_P (dC, dI) cls (W_Mo_linked cI cC cB qu qu_links qu_from qu_to qu_text qu_segments qu_names qu_nameSize qu_bases qu_length qu_paths qu_titles qu_titleSize qu_steps qu_step qu_sideOf qu_within qu_read qu_cost qu_walk qu_edits qu_said fu_size fu_places fu_reads fu_there fu_total fu_walked fu_edited fu_written fu_at fu_end fu_began fu_many au_links au_from au_to) H → va_D A (W_Mo_linked cI cC cB qu qu_links qu_from qu_to qu_text qu_segments qu_names qu_nameSize qu_bases qu_length qu_paths qu_titles qu_titleSize qu_steps qu_step qu_sideOf qu_within qu_read qu_cost qu_walk qu_edits qu_said fu_size fu_places fu_reads fu_there fu_total fu_walked fu_edited fu_written fu_at fu_end fu_began fu_many au_links au_from au_to) → va_S A s.heap H locs → lv_has ls 6 [(0, .ref qu), (1, .int p1), (2, .int p2), (3, .int p3), (5, .int x5)] → W p l e rm_Mo_linked s m args below meth c H locs 0 0 QF (F0 m 82 ls []) := by
    intro K_9 hK_9 x5 H locs ls h hP hD hS hl
    unfold w_Mo_linked_82 at h
    refine lv_iconst (v := 0) hx hb d_Mo_linked_82 (by decide) ?_
    exact blk_83 _ hK_9 _ _ _ _ _ h hP hD hS (lv_sub hl [0, 1, 2, 3, 4] rfl)
  have blk_52 : ∀ (K_9 : Int32 → Int32 → Prop) (hK_9 : ∀ (x4 : Int32) (x5 : Int32) (H : Heap) (locs : List Loc) (ls : Array Slot), K_9 x4 x5 → va_P (dC, dI) cls (W_Mo_linked cI cC cB qu qu_links qu_from qu_to qu_text qu_segments qu_names qu_nameSize qu_bases qu_length qu_paths qu_titles qu_titleSize qu_steps qu_step qu_sideOf qu_within qu_read qu_cost qu_walk qu_edits qu_said fu_size fu_places fu_reads fu_there fu_total fu_walked fu_edited fu_written fu_at fu_end fu_began fu_many au_links au_from au_to) H → va_D A (W_Mo_linked cI cC cB qu qu_links qu_from qu_to qu_text qu_segments qu_names qu_nameSize qu_bases qu_length qu_paths qu_titles qu_titleSize qu_steps qu_step qu_sideOf qu_within qu_read qu_cost qu_walk qu_edits qu_said fu_size fu_places fu_reads fu_there fu_total fu_walked fu_edited fu_written fu_at fu_end fu_began fu_many au_links au_from au_to) → va_S A s.heap H locs → lv_has ls 6 [(0, .ref qu), (1, .int p1), (2, .int p2), (3, .int p3), (4, .int x4), (5, .int x5)] → W p l e rm_Mo_linked s m args below meth c H locs 0 0 QF (F0 m 9 ls [])) (x5 : Int32) (H : Heap) (locs : List Loc) (ls : Array Slot), w_Mo_linked_52 Q K_9 p1 p2 p3 au_links au_from au_to x5 → va_P (dC, dI) cls (W_Mo_linked cI cC cB qu qu_links qu_from qu_to qu_text qu_segments qu_names qu_nameSize qu_bases qu_length qu_paths qu_titles qu_titleSize qu_steps qu_step qu_sideOf qu_within qu_read qu_cost qu_walk qu_edits qu_said fu_size fu_places fu_reads fu_there fu_total fu_walked fu_edited fu_written fu_at fu_end fu_began fu_many au_links au_from au_to) H → va_D A (W_Mo_linked cI cC cB qu qu_links qu_from qu_to qu_text qu_segments qu_names qu_nameSize qu_bases qu_length qu_paths qu_titles qu_titleSize qu_steps qu_step qu_sideOf qu_within qu_read qu_cost qu_walk qu_edits qu_said fu_size fu_places fu_reads fu_there fu_total fu_walked fu_edited fu_written fu_at fu_end fu_began fu_many au_links au_from au_to) → va_S A s.heap H locs → lv_has ls 6 [(0, .ref qu), (1, .int p1), (2, .int p2), (3, .int p3), (5, .int x5)] → W p l e rm_Mo_linked s m args below meth c H locs 0 0 QF (F0 m 52 ls []) := by
    intro K_9 hK_9 x5 H locs ls h hP hD hS hl
    unfold w_Mo_linked_52 at h
    refine lv_aload_n hx hb d_Mo_linked_52 rfl (lv_at hl 0 rfl) ?_
    refine va_get (D := (dC, dI)) (ci := 6) (v := .ref qu_to) (C := R_Mo) (T := T_Mo) (N := 33) hx hb hts in_Mo hown hK hP 0 rfl rfl 9 (by decide) (hts _ w_304) (fun _ h9 => h9) rfl d_Mo_linked_53 ?_
    refine lv_iload hx hb d_Mo_linked_56 (lv_at hl 4 rfl) ?_
    have hi_2 := h.1
    have h := h.2
    refine va_iald hx hb hK hP 3 0 rfl rfl hi_2 d_Mo_linked_58 ?_
    refine lv_topi (fun y_3 ey_3 => ?_)
    have h := h y_3 ey_3
    refine lv_iload_n hx hb d_Mo_linked_59 rfl (lv_at hl 2 rfl) ?_
    refine lv_iconst (v := 1) hx hb d_Mo_linked_60 (by decide) ?_
    refine lv_ixor hx hb d_Mo_linked_61 ?_
    refine lv_topi (fun x_4 ex_4 => ?_)
    have h := h x_4 ex_4
    refine lv_icmp_ne (tgt := 82) hx hb d_Mo_linked_62 (by decide) (fun c_5 => ?_) (fun c_5 => ?_)
    · have h := h.2 c_5
      exact blk_82 _ hK_9 _ _ _ _ h hP hD hS (lv_sub hl [0, 1, 2, 3, 4] rfl)
    · have h := h.1 c_5
      refine lv_aload_n hx hb d_Mo_linked_65 rfl (lv_at hl 0 rfl) ?_
      refine va_get (D := (dC, dI)) (ci := 6) (v := .ref qu_from) (C := R_Mo) (T := T_Mo) (N := 33) hx hb hts in_Mo hown hK hP 0 rfl rfl 8 (by decide) (hts _ w_305) (fun _ h9 => h9) rfl d_Mo_linked_66 ?_
      refine lv_iload hx hb d_Mo_linked_69 (lv_at hl 4 rfl) ?_
      have hi_6 := h.1
      have h := h.2
      refine va_iald hx hb hK hP 2 0 rfl rfl hi_6 d_Mo_linked_71 ?_
      refine lv_topi (fun y_7 ey_7 => ?_)
      have h := h y_7 ey_7
      refine lv_iload_n hx hb d_Mo_linked_72 rfl (lv_at hl 3 rfl) ?_
      refine lv_iconst (v := 1) hx hb d_Mo_linked_73 (by decide) ?_
      refine lv_ixor hx hb d_Mo_linked_74 ?_
      refine lv_topi (fun x_8 ex_8 => ?_)
      have h := h x_8 ex_8
      refine lv_icmp_ne (tgt := 82) hx hb d_Mo_linked_75 (by decide) (fun c_9 => ?_) (fun c_9 => ?_)
      · have h := h.2 c_9
        exact blk_82 _ hK_9 _ _ _ _ h hP hD hS (lv_sub hl [0, 1, 2, 3, 4] rfl)
      · have h := h.1 c_9
        exact blk_78 _ hK_9 _ _ _ _ h hP hD hS (lv_sub hl [0, 1, 2, 3, 4] rfl)
  have blk_9 : ∀  (n : Nat) (x4 : Int32) (x5 : Int32) (H : Heap) (locs : List Loc) (ls : Array Slot), w_Mo_linked_9 Q  p1 p2 p3 au_links au_from au_to n x4 x5 → va_P (dC, dI) cls (W_Mo_linked cI cC cB qu qu_links qu_from qu_to qu_text qu_segments qu_names qu_nameSize qu_bases qu_length qu_paths qu_titles qu_titleSize qu_steps qu_step qu_sideOf qu_within qu_read qu_cost qu_walk qu_edits qu_said fu_size fu_places fu_reads fu_there fu_total fu_walked fu_edited fu_written fu_at fu_end fu_began fu_many au_links au_from au_to) H → va_D A (W_Mo_linked cI cC cB qu qu_links qu_from qu_to qu_text qu_segments qu_names qu_nameSize qu_bases qu_length qu_paths qu_titles qu_titleSize qu_steps qu_step qu_sideOf qu_within qu_read qu_cost qu_walk qu_edits qu_said fu_size fu_places fu_reads fu_there fu_total fu_walked fu_edited fu_written fu_at fu_end fu_began fu_many au_links au_from au_to) → va_S A s.heap H locs → lv_has ls 6 [(0, .ref qu), (1, .int p1), (2, .int p2), (3, .int p3), (4, .int x4), (5, .int x5)] → W p l e rm_Mo_linked s m args below meth c H locs 0 0 QF (F0 m 9 ls []) := by
    intro  n
    induction n with
    | zero => intro x4 x5 H locs ls h; exact (show False from h).elim
    | succ n ih =>
      intro x4 x5 H locs ls h hP hD hS hl
      have h : w_Mo_linked_9B Q  (w_Mo_linked_9 Q  p1 p2 p3 au_links au_from au_to n) p1 p2 p3 au_links au_from au_to x4 x5 := h
      generalize w_Mo_linked_9 Q  p1 p2 p3 au_links au_from au_to n = K_9 at h ih
      unfold w_Mo_linked_9B at h
      refine lv_iload hx hb d_Mo_linked_9 (lv_at hl 5 rfl) ?_
      refine lv_bipush (v := 12) hx hb d_Mo_linked_11 (by decide) ?_
      refine lv_iload_n hx hb d_Mo_linked_13 rfl (lv_at hl 1 rfl) ?_
      refine lv_imul hx hb d_Mo_linked_14 ?_
      refine lv_aload_n hx hb d_Mo_linked_15 rfl (lv_at hl 0 rfl) ?_
      refine va_get (D := (dC, dI)) (ci := 6) (v := .ref qu_links) (C := R_Mo) (T := T_Mo) (N := 33) hx hb hts in_Mo hown hK hP 0 rfl rfl 7 (by decide) (hts _ w_306) (fun _ h9 => h9) rfl d_Mo_linked_16 ?_
      refine lv_iload_n hx hb d_Mo_linked_19 rfl (lv_at hl 1 rfl) ?_
      have hi_10 := h.1
      have h := h.2
      refine va_iald hx hb hK hP 1 0 rfl rfl hi_10 d_Mo_linked_20 ?_
      refine lv_iadd hx hb d_Mo_linked_21 ?_
      refine lv_topi (fun x_11 ex_11 => ?_)
      have h := h x_11 ex_11
      refine lv_icmp_ge (tgt := 91) hx hb d_Mo_linked_22 (by decide) (fun c_12 => ?_) (fun c_12 => ?_)
      · have h := h.1 c_12
        refine lv_iload hx hb d_Mo_linked_91 (lv_at hl 4 rfl) ?_
        exact hret () () x4 _ _ _ _ h.1 h.2 hP hD hS d_Mo_linked_93
      · have h := h.2 c_12
        refine lv_iload hx hb d_Mo_linked_25 (lv_at hl 4 rfl) ?_
        refine lv_if_ne (tgt := 78) hx hb d_Mo_linked_27 (by decide) (fun c_13 => ?_) (fun c_13 => ?_)
        · have h := h.2 c_13
          exact blk_78 _ ih _ _ _ _ h hP hD hS (lv_sub hl [0, 1, 2, 3, 5] rfl)
        · have h := h.1 c_13
          refine lv_aload_n hx hb d_Mo_linked_30 rfl (lv_at hl 0 rfl) ?_
          refine va_get (D := (dC, dI)) (ci := 6) (v := .ref qu_from) (C := R_Mo) (T := T_Mo) (N := 33) hx hb hts in_Mo hown hK hP 0 rfl rfl 8 (by decide) (hts _ w_305) (fun _ h9 => h9) rfl d_Mo_linked_31 ?_
          refine lv_iload hx hb d_Mo_linked_34 (lv_at hl 5 rfl) ?_
          have hi_14 := h.1
          have h := h.2
          refine va_iald hx hb hK hP 2 0 rfl rfl hi_14 d_Mo_linked_36 ?_
          refine lv_topi (fun y_15 ey_15 => ?_)
          have h := h y_15 ey_15
          refine lv_iload_n hx hb d_Mo_linked_37 rfl (lv_at hl 2 rfl) ?_
          refine lv_icmp_ne (tgt := 52) hx hb d_Mo_linked_38 (by decide) (fun c_16 => ?_) (fun c_16 => ?_)
          · have h := h.2 c_16
            exact blk_52 _ ih _ _ _ _ h hP hD hS (lv_sub hl [0, 1, 2, 3, 5] rfl)
          · have h := h.1 c_16
            refine lv_aload_n hx hb d_Mo_linked_41 rfl (lv_at hl 0 rfl) ?_
            refine va_get (D := (dC, dI)) (ci := 6) (v := .ref qu_to) (C := R_Mo) (T := T_Mo) (N := 33) hx hb hts in_Mo hown hK hP 0 rfl rfl 9 (by decide) (hts _ w_304) (fun _ h9 => h9) rfl d_Mo_linked_42 ?_
            refine lv_iload hx hb d_Mo_linked_45 (lv_at hl 5 rfl) ?_
            have hi_17 := h.1
            have h := h.2
            refine va_iald hx hb hK hP 3 0 rfl rfl hi_17 d_Mo_linked_47 ?_
            refine lv_topi (fun y_18 ey_18 => ?_)
            have h := h y_18 ey_18
            refine lv_iload_n hx hb d_Mo_linked_48 rfl (lv_at hl 3 rfl) ?_
            refine lv_icmp_eq (tgt := 78) hx hb d_Mo_linked_49 (by decide) (fun c_19 => ?_) (fun c_19 => ?_)
            · have h := h.1 c_19
              exact blk_78 _ ih _ _ _ _ h hP hD hS (lv_sub hl [0, 1, 2, 3, 5] rfl)
            · have h := h.2 c_19
              exact blk_52 _ ih _ _ _ _ h hP hD hS (lv_sub hl [0, 1, 2, 3, 5] rfl)
  unfold wp_Mo_linked at h
  refine lv_iconst (v := 0) hx hb d_Mo_linked_0 (by decide) ?_
  refine lv_istore (lv' := [(4, .int 0), (0, .ref qu), (1, .int p1), (2, .int p2), (3, .int p3)]) hx hb d_Mo_linked_1 hl (by decide) rfl (fun ls hl => ?_)
  refine lv_bipush (v := 12) hx hb d_Mo_linked_3 (by decide) ?_
  refine lv_iload_n hx hb d_Mo_linked_5 rfl (lv_at hl 2 rfl) ?_
  refine lv_imul hx hb d_Mo_linked_6 ?_
  refine lv_topi (fun x_20 ex_20 => ?_)
  have h := h x_20 ex_20
  refine lv_istore (lv' := [(5, .int x_20), (4, .int 0), (0, .ref qu), (1, .int p1), (2, .int p2), (3, .int p3)]) hx hb d_Mo_linked_7 hl (by decide) rfl (fun ls hl => ?_)
  obtain ⟨fu_9, h⟩ := h
  exact blk_9  _ _ _ _ _ _ h hP hD hS (lv_sub hl [2, 3, 4, 5, 1, 0] rfl)
abbrev W_Mo_linkLine (cI cC cB : ClassId) (qu : Nat) (qu_text : Nat) (qu_segments : Nat) (qu_names : Nat) (qu_nameSize : Nat) (qu_links : Nat) (qu_from : Nat) (qu_to : Nat) (qu_bases : Nat) (qu_length : Nat) (qu_paths : Nat) (qu_titles : Nat) (qu_titleSize : Nat) (qu_steps : Nat) (qu_step : Nat) (qu_sideOf : Nat) (qu_within : Nat) (qu_read : Nat) (qu_cost : Nat) (qu_walk : Nat) (qu_edits : Nat) (qu_said : Nat) (fu_size : Int32) (fu_places : Int32) (fu_reads : Int32) (fu_there : Int32) (fu_total : Int32) (fu_walked : Int32) (fu_edited : Int32) (fu_written : Int32) (fu_at : Int32) (fu_end : Int32) (fu_began : Int32) (fu_many : Int32) (au_text : Nat → Int32) (au_segments : Nat → Int32) (au_names : Nat → Int32) (au_nameSize : Nat → Int32) (au_links : Nat → Int32) (au_from : Nat → Int32) (au_to : Nat → Int32) : va_W := [(qu, .inr (6, [.int fu_size, .ref qu_text, .ref qu_segments, .ref qu_names, .ref qu_nameSize, .ref qu_bases, .ref qu_length, .ref qu_links, .ref qu_from, .ref qu_to, .ref qu_paths, .ref qu_titles, .ref qu_titleSize, .ref qu_steps, .ref qu_step, .int fu_places, .ref qu_sideOf, .ref qu_within, .int fu_reads, .ref qu_read, .ref qu_cost, .int fu_there, .int fu_total, .int fu_walked, .ref qu_walk, .int fu_edited, .ref qu_edits, .int fu_written, .ref qu_said, .int fu_at, .int fu_end, .int fu_began, .int fu_many])), (qu_text, .inl (cC, 400, .inl au_text)), (qu_segments, .inl (cI, 2, .inl au_segments)), (qu_names, .inl (cC, 48, .inl au_names)), (qu_nameSize, .inl (cI, 16, .inl au_nameSize)), (qu_links, .inl (cI, 2, .inl au_links)), (qu_from, .inl (cI, 24, .inl au_from)), (qu_to, .inl (cI, 24, .inl au_to))]
def wp_Mo_linkLine (Q : Int32 → (Int32 × Int32 × Int32 × (Nat → Int32) × (Nat → Int32) × (Nat → Int32)) → Prop)  (fu_at : Int32) (fu_end : Int32) (fu_began : Int32) (fu_many : Int32) (au_text : Nat → Int32) (au_segments : Nat → Int32) (au_names : Nat → Int32) (au_nameSize : Nat → Int32) (au_links : Nat → Int32) (au_from : Nat → Int32) (au_to : Nat → Int32) : Prop := wp_Mo_eat (fun r_2 v_1 => ((r_2 = 0 → (Q 0 (v_1, fu_began, fu_many, au_links, au_from, au_to))) ∧ (¬ r_2 = 0 → (wp_Mo_eat (fun r_5 v_4 => ((r_5 = 0 → (Q 0 (v_4, fu_began, fu_many, au_links, au_from, au_to))) ∧ (¬ r_5 = 0 → (wp_Mo_namedSide (fun r_8 v_7 => ((r_8 < 0 → (Q 0 (v_7.1, v_7.2.1, v_7.2.2, au_links, au_from, au_to))) ∧ (¬ r_8 < 0 → (wp_Mo_eat (fun r_11 v_10 => ((r_11 = 0 → (Q 0 (v_10, v_7.2.1, v_7.2.2, au_links, au_from, au_to))) ∧ (¬ r_11 = 0 → (wp_Mo_namedSide (fun r_14 v_13 => ((r_14 < 0 → (Q 0 (v_13.1, v_13.2.1, v_13.2.2, au_links, au_from, au_to))) ∧ (¬ r_14 < 0 → (wp_Mo_eat (fun r_17 v_16 => ((r_17 = 0 → (Q 0 (v_16, v_13.2.1, v_13.2.2, au_links, au_from, au_to))) ∧ (¬ r_17 = 0 → (wp_Mo_eat (fun r_20 v_19 => ((r_20 = 0 → (Q 0 (v_19, v_13.2.1, v_13.2.2, au_links, au_from, au_to))) ∧ (¬ r_20 = 0 → (wp_Mo_eat (fun r_23 v_22 => ((r_23 = 0 → (Q 0 (v_22, v_13.2.1, v_13.2.2, au_links, au_from, au_to))) ∧ (¬ r_23 = 0 → (((v_22 = fu_end → (wp_Mo_linked (fun r_27 v_26 => ((r_27 = 0 → (vp_in (1 : Int32) 2 ∧ (∀ y_30 : Int32, y_30 = au_links (1 : Int32).toNatClampNeg → (((y_30 = 12 → (Q 0 (v_22, v_13.2.1, v_13.2.2, au_links, au_from, au_to))) ∧ (¬ y_30 = 12 → (vp_in (1 : Int32) 2 ∧ (∀ x_33 : Int32, x_33 = 12 + (au_links (1 : Int32).toNatClampNeg) → (vp_in x_33 24 ∧ (∀ au_from_35 : Nat → Int32, au_from_35 = upd au_from x_33.toNatClampNeg r_8 → (vp_in (1 : Int32) 2 ∧ (∀ x_37 : Int32, x_37 = 12 + (au_links (1 : Int32).toNatClampNeg) → (vp_in x_37 24 ∧ (∀ au_to_39 : Nat → Int32, au_to_39 = upd au_to x_37.toNatClampNeg r_14 → (vp_in (1 : Int32) 2 ∧ (∀ x_41 : Int32, x_41 = (au_links (1 : Int32).toNatClampNeg) + 1 → (vp_in (1 : Int32) 2 ∧ (∀ au_links_43 : Nat → Int32, au_links_43 = upd au_links (1 : Int32).toNatClampNeg x_41 → (Q 1 (v_22, v_13.2.1, v_13.2.2, au_links_43, au_from_35, au_to_39)))))))))))))))))))) ∧ (¬ r_27 = 0 → (Q 0 (v_22, v_13.2.1, v_13.2.2, au_links, au_from, au_to))))) 1 r_8 r_14 au_links au_from au_to)) ∧ (¬ v_22 = fu_end → (Q 0 (v_22, v_13.2.1, v_13.2.2, au_links, au_from, au_to)))))))) 77 v_19 fu_end au_text)))) 48 v_16 fu_end au_text)))) 9 v_13.1 fu_end au_text)))) 1 v_10 fu_end v_7.2.1 v_7.2.2 au_text au_segments au_names au_nameSize)))) 9 v_7.1 fu_end au_text)))) 1 v_4 fu_end fu_began fu_many au_text au_segments au_names au_nameSize)))) 9 v_1 fu_end au_text)))) 76 fu_at fu_end au_text
abbrev rm_Mo_linkLine : Room := { frames := 3, cells := 0, slots := 0, locals := 66 }
set_option maxHeartbeats 4000000 in
set_option maxRecDepth 100000 in
theorem k_Mo_linkLine (l : Launch) (dC : Nat → ClassId) (dI : Nat → Nat → Nat) (cI cC cB : ClassId) (sz : Nat) (qu : Nat) (qu_text : Nat) (qu_segments : Nat) (qu_names : Nat) (qu_nameSize : Nat) (qu_links : Nat) (qu_from : Nat) (qu_to : Nat) (qu_bases : Nat) (qu_length : Nat) (qu_paths : Nat) (qu_titles : Nat) (qu_titleSize : Nat) (qu_steps : Nat) (qu_step : Nat) (qu_sideOf : Nat) (qu_within : Nat) (qu_read : Nat) (qu_cost : Nat) (qu_walk : Nat) (qu_edits : Nat) (qu_said : Nat) (fu_size : Int32) (fu_places : Int32) (fu_reads : Int32) (fu_there : Int32) (fu_total : Int32) (fu_walked : Int32) (fu_edited : Int32) (fu_written : Int32) (fu_at : Int32) (fu_end : Int32) (fu_began : Int32) (fu_many : Int32) (au_text : Nat → Int32) (au_segments : Nat → Int32) (au_names : Nat → Int32) (au_nameSize : Nat → Int32) (au_links : Nat → Int32) (au_from : Nat → Int32) (au_to : Nat → Int32)  {Q : Int32 → (Int32 × Int32 × Int32 × (Nat → Int32) × (Nat → Int32) × (Nat → Int32)) → Prop} (h : wp_Mo_linkLine Q  fu_at fu_end fu_began fu_many au_text au_segments au_names au_nameSize au_links au_from au_to) :
    CTi l y_Mo_linkLine (wM y_Mo_linkLine c_Mo_linkLine 4 (some .boolean)) rm_Mo_linkLine 0 0 (dC, dI) (tysL cI cC cB) [.ref qu] (W_Mo_linkLine cI cC cB qu qu_text qu_segments qu_names qu_nameSize qu_links qu_from qu_to qu_bases qu_length qu_paths qu_titles qu_titleSize qu_steps qu_step qu_sideOf qu_within qu_read qu_cost qu_walk qu_edits qu_said fu_size fu_places fu_reads fu_there fu_total fu_walked fu_edited fu_written fu_at fu_end fu_began fu_many au_text au_segments au_names au_nameSize au_links au_from au_to) sz Q (fun (v : Int32 × Int32 × Int32 × (Nat → Int32) × (Nat → Int32) × (Nat → Int32)) (_ : Unit) => (W_Mo_linkLine cI cC cB qu qu_text qu_segments qu_names qu_nameSize qu_links qu_from qu_to qu_bases qu_length qu_paths qu_titles qu_titleSize qu_steps qu_step qu_sideOf qu_within qu_read qu_cost qu_walk qu_edits qu_said fu_size fu_places fu_reads fu_there fu_total fu_walked fu_edited fu_written v.1 fu_end v.2.1 v.2.2.1 au_text au_segments au_names au_nameSize v.2.2.2.1 v.2.2.2.2.1 v.2.2.2.2.2)) := by
  refine CTi.std (by decide) (Nat.le_of_ble_eq_true rfl) ?_
  intro p e s m args below meth c A ls QF C0 hP hD hl hS hsz hret
  obtain ⟨hx, hb, hr, hml, hown, hts, hlocks, hN, hA, hK, hnm⟩ := id C0
  have hown : s.vm.findClass R_Mo = some m.cls := hown
  have hl : lv_has ls 4 [(0, .ref qu)] := hl
  clear hsz
  unfold wp_Mo_linkLine at h
  refine lv_bipush (v := 9) hx hb d_Mo_linkLine_0 (by decide) ?_
  refine lv_istore_n (lv' := [(1, .int 9), (0, .ref qu)]) hx hb d_Mo_linkLine_2 rfl hl (by decide) rfl (fun ls hl => ?_)
  refine lv_aload_n hx hb d_Mo_linkLine_3 rfl (lv_at hl 1 rfl) ?_
  refine lv_bipush (v := 76) hx hb d_Mo_linkLine_4 (by decide) ?_
  refine call_V_i (As := [.int 76]) (rest := []) C0 hP hD hS [0, 1] [2, 3, 4, 5, 6, 7] [6, 7, 0, 1, 2, 3, 4, 5] [(qu_segments, .inl (cI, 2, .inl au_segments)), (qu_names, .inl (cC, 48, .inl au_names)), (qu_nameSize, .inl (cI, 16, .inl au_nameSize)), (qu_links, .inl (cI, 2, .inl au_links)), (qu_from, .inl (cI, 24, .inl au_from)), (qu_to, .inl (cI, 24, .inl au_to))] (fun (v : Int32) (_ : Unit) => (W_Mo_linkLine cI cC cB qu qu_text qu_segments qu_names qu_nameSize qu_links qu_from qu_to qu_bases qu_length qu_paths qu_titles qu_titleSize qu_steps qu_step qu_sideOf qu_within qu_read qu_cost qu_walk qu_edits qu_said fu_size fu_places fu_reads fu_there fu_total fu_walked fu_edited fu_written v fu_end fu_began fu_many au_text au_segments au_names au_nameSize au_links au_from au_to)) (ci := 6) rfl rfl (k_Mo_eat l dC dI cI cC cB _ qu qu_text qu_segments qu_names qu_nameSize qu_bases qu_length qu_links qu_from qu_to qu_paths qu_titles qu_titleSize qu_steps qu_step qu_sideOf qu_within qu_read qu_cost qu_walk qu_edits qu_said fu_size fu_places fu_reads fu_there fu_total fu_walked fu_edited fu_written fu_at fu_end fu_began fu_many au_text 76 h) (g_V w_278 w_279 w_280 w_281 w_277) 1 rfl (by decide +kernel) rfl rfl ⟨Nat.le_of_ble_eq_true rfl, Nat.le_of_ble_eq_true rfl⟩ rfl rfl (by decide) (by decide) (by decide) (by decide) (fun _ _ => rfl) hl.1 rfl (Nat.le_of_ble_eq_true rfl) d_Mo_linkLine_6 ⟨Nat.le_of_ble_eq_true rfl, Nat.le_of_ble_eq_true rfl⟩ (fun r_2 v_1 _ H locs h hP hD hS => ?_)
  have hP : va_P (dC, dI) cls (W_Mo_linkLine cI cC cB qu qu_text qu_segments qu_names qu_nameSize qu_links qu_from qu_to qu_bases qu_length qu_paths qu_titles qu_titleSize qu_steps qu_step qu_sideOf qu_within qu_read qu_cost qu_walk qu_edits qu_said fu_size fu_places fu_reads fu_there fu_total fu_walked fu_edited fu_written v_1 fu_end fu_began fu_many au_text au_segments au_names au_nameSize au_links au_from au_to) H := hP
  have hD : va_D A (W_Mo_linkLine cI cC cB qu qu_text qu_segments qu_names qu_nameSize qu_links qu_from qu_to qu_bases qu_length qu_paths qu_titles qu_titleSize qu_steps qu_step qu_sideOf qu_within qu_read qu_cost qu_walk qu_edits qu_said fu_size fu_places fu_reads fu_there fu_total fu_walked fu_edited fu_written v_1 fu_end fu_began fu_many au_text au_segments au_names au_nameSize au_links au_from au_to) := hD
  refine lv_if_eq (tgt := 20) hx hb d_Mo_linkLine_9 (by decide) (fun c_3 => ?_) (fun c_3 => ?_)
  · have h := h.1 c_3
    refine lv_iconst (v := 0) hx hb d_Mo_linkLine_20 (by decide) ?_
    exact hret (v_1, fu_began, fu_many, au_links, au_from, au_to) () 0 _ _ _ _ rfl h hP hD hS d_Mo_linkLine_21
  · have h := h.2 c_3
    refine lv_aload_n hx hb d_Mo_linkLine_12 rfl (lv_at hl 1 rfl) ?_
    refine lv_iload_n hx hb d_Mo_linkLine_13 rfl (lv_at hl 0 rfl) ?_
    refine call_V_i (As := [.int 9]) (rest := []) C0 hP hD hS [0, 1] [2, 3, 4, 5, 6, 7] [6, 7, 0, 1, 2, 3, 4, 5] [(qu_segments, .inl (cI, 2, .inl au_segments)), (qu_names, .inl (cC, 48, .inl au_names)), (qu_nameSize, .inl (cI, 16, .inl au_nameSize)), (qu_links, .inl (cI, 2, .inl au_links)), (qu_from, .inl (cI, 24, .inl au_from)), (qu_to, .inl (cI, 24, .inl au_to))] (fun (v : Int32) (_ : Unit) => (W_Mo_linkLine cI cC cB qu qu_text qu_segments qu_names qu_nameSize qu_links qu_from qu_to qu_bases qu_length qu_paths qu_titles qu_titleSize qu_steps qu_step qu_sideOf qu_within qu_read qu_cost qu_walk qu_edits qu_said fu_size fu_places fu_reads fu_there fu_total fu_walked fu_edited fu_written v fu_end fu_began fu_many au_text au_segments au_names au_nameSize au_links au_from au_to)) (ci := 6) rfl rfl (k_Mo_eat l dC dI cI cC cB _ qu qu_text qu_segments qu_names qu_nameSize qu_bases qu_length qu_links qu_from qu_to qu_paths qu_titles qu_titleSize qu_steps qu_step qu_sideOf qu_within qu_read qu_cost qu_walk qu_edits qu_said fu_size fu_places fu_reads fu_there fu_total fu_walked fu_edited fu_written v_1 fu_end fu_began fu_many au_text 9 h) (g_V w_278 w_279 w_280 w_281 w_277) 1 rfl (by decide +kernel) rfl rfl ⟨Nat.le_of_ble_eq_true rfl, Nat.le_of_ble_eq_true rfl⟩ rfl rfl (by decide) (by decide) (by decide) (by decide) (fun _ _ => rfl) hl.1 rfl (Nat.le_of_ble_eq_true rfl) d_Mo_linkLine_14 ⟨Nat.le_of_ble_eq_true rfl, Nat.le_of_ble_eq_true rfl⟩ (fun r_5 v_4 _ H locs h hP hD hS => ?_)
    have hP : va_P (dC, dI) cls (W_Mo_linkLine cI cC cB qu qu_text qu_segments qu_names qu_nameSize qu_links qu_from qu_to qu_bases qu_length qu_paths qu_titles qu_titleSize qu_steps qu_step qu_sideOf qu_within qu_read qu_cost qu_walk qu_edits qu_said fu_size fu_places fu_reads fu_there fu_total fu_walked fu_edited fu_written v_4 fu_end fu_began fu_many au_text au_segments au_names au_nameSize au_links au_from au_to) H := hP
    have hD : va_D A (W_Mo_linkLine cI cC cB qu qu_text qu_segments qu_names qu_nameSize qu_links qu_from qu_to qu_bases qu_length qu_paths qu_titles qu_titleSize qu_steps qu_step qu_sideOf qu_within qu_read qu_cost qu_walk qu_edits qu_said fu_size fu_places fu_reads fu_there fu_total fu_walked fu_edited fu_written v_4 fu_end fu_began fu_many au_text au_segments au_names au_nameSize au_links au_from au_to) := hD
    refine lv_if_ne (tgt := 22) hx hb d_Mo_linkLine_17 (by decide) (fun c_6 => ?_) (fun c_6 => ?_)
    · have h := h.2 c_6
      refine lv_aload_n hx hb d_Mo_linkLine_22 rfl (lv_at hl 1 rfl) ?_
      refine lv_iconst (v := 1) hx hb d_Mo_linkLine_23 (by decide) ?_
      refine call_V_i (As := [.int 1]) (rest := []) C0 hP hD hS [0, 1, 2, 3, 4] [5, 6, 7] [3, 4, 5, 6, 7, 0, 1, 2] [(qu_links, .inl (cI, 2, .inl au_links)), (qu_from, .inl (cI, 24, .inl au_from)), (qu_to, .inl (cI, 24, .inl au_to))] (fun (v : Int32 × Int32 × Int32) (_ : Unit) => (W_Mo_linkLine cI cC cB qu qu_text qu_segments qu_names qu_nameSize qu_links qu_from qu_to qu_bases qu_length qu_paths qu_titles qu_titleSize qu_steps qu_step qu_sideOf qu_within qu_read qu_cost qu_walk qu_edits qu_said fu_size fu_places fu_reads fu_there fu_total fu_walked fu_edited fu_written v.1 fu_end v.2.1 v.2.2 au_text au_segments au_names au_nameSize au_links au_from au_to)) (ci := 6) rfl rfl (k_Mo_namedSide l dC dI cI cC cB _ qu qu_text qu_segments qu_names qu_nameSize qu_bases qu_length qu_links qu_from qu_to qu_paths qu_titles qu_titleSize qu_steps qu_step qu_sideOf qu_within qu_read qu_cost qu_walk qu_edits qu_said fu_size fu_places fu_reads fu_there fu_total fu_walked fu_edited fu_written v_4 fu_end fu_began fu_many au_text au_segments au_names au_nameSize 1 h) (g_V w_312 w_313 w_314 w_281 w_311) 1 rfl (by decide +kernel) rfl rfl ⟨Nat.le_of_ble_eq_true rfl, Nat.le_of_ble_eq_true rfl⟩ rfl rfl (by decide) (by decide) (by decide) (by decide) (fun _ _ => rfl) hl.1 rfl (Nat.le_of_ble_eq_true rfl) d_Mo_linkLine_24 ⟨Nat.le_of_ble_eq_true rfl, Nat.le_of_ble_eq_true rfl⟩ (fun r_8 v_7 _ H locs h hP hD hS => ?_)
      have hP : va_P (dC, dI) cls (W_Mo_linkLine cI cC cB qu qu_text qu_segments qu_names qu_nameSize qu_links qu_from qu_to qu_bases qu_length qu_paths qu_titles qu_titleSize qu_steps qu_step qu_sideOf qu_within qu_read qu_cost qu_walk qu_edits qu_said fu_size fu_places fu_reads fu_there fu_total fu_walked fu_edited fu_written v_7.1 fu_end v_7.2.1 v_7.2.2 au_text au_segments au_names au_nameSize au_links au_from au_to) H := hP
      have hD : va_D A (W_Mo_linkLine cI cC cB qu qu_text qu_segments qu_names qu_nameSize qu_links qu_from qu_to qu_bases qu_length qu_paths qu_titles qu_titleSize qu_steps qu_step qu_sideOf qu_within qu_read qu_cost qu_walk qu_edits qu_said fu_size fu_places fu_reads fu_there fu_total fu_walked fu_edited fu_written v_7.1 fu_end v_7.2.1 v_7.2.2 au_text au_segments au_names au_nameSize au_links au_from au_to) := hD
      refine lv_istore_n (lv' := [(2, .int r_8), (1, .int 9), (0, .ref qu)]) hx hb d_Mo_linkLine_27 rfl hl (by decide) rfl (fun ls hl => ?_)
      refine lv_iload_n hx hb d_Mo_linkLine_28 rfl (lv_at hl 0 rfl) ?_
      refine lv_if_lt (tgt := 40) hx hb d_Mo_linkLine_29 (by decide) (fun c_9 => ?_) (fun c_9 => ?_)
      · have h := h.1 c_9
        refine lv_iconst (v := 0) hx hb d_Mo_linkLine_40 (by decide) ?_
        exact hret (v_7.1, v_7.2.1, v_7.2.2, au_links, au_from, au_to) () 0 _ _ _ _ rfl h hP hD hS d_Mo_linkLine_41
      · have h := h.2 c_9
        refine lv_aload_n hx hb d_Mo_linkLine_32 rfl (lv_at hl 2 rfl) ?_
        refine lv_iload_n hx hb d_Mo_linkLine_33 rfl (lv_at hl 1 rfl) ?_
        refine call_V_i (As := [.int 9]) (rest := []) C0 hP hD hS [0, 1] [2, 3, 4, 5, 6, 7] [6, 7, 0, 1, 2, 3, 4, 5] [(qu_segments, .inl (cI, 2, .inl au_segments)), (qu_names, .inl (cC, 48, .inl au_names)), (qu_nameSize, .inl (cI, 16, .inl au_nameSize)), (qu_links, .inl (cI, 2, .inl au_links)), (qu_from, .inl (cI, 24, .inl au_from)), (qu_to, .inl (cI, 24, .inl au_to))] (fun (v : Int32) (_ : Unit) => (W_Mo_linkLine cI cC cB qu qu_text qu_segments qu_names qu_nameSize qu_links qu_from qu_to qu_bases qu_length qu_paths qu_titles qu_titleSize qu_steps qu_step qu_sideOf qu_within qu_read qu_cost qu_walk qu_edits qu_said fu_size fu_places fu_reads fu_there fu_total fu_walked fu_edited fu_written v fu_end v_7.2.1 v_7.2.2 au_text au_segments au_names au_nameSize au_links au_from au_to)) (ci := 6) rfl rfl (k_Mo_eat l dC dI cI cC cB _ qu qu_text qu_segments qu_names qu_nameSize qu_bases qu_length qu_links qu_from qu_to qu_paths qu_titles qu_titleSize qu_steps qu_step qu_sideOf qu_within qu_read qu_cost qu_walk qu_edits qu_said fu_size fu_places fu_reads fu_there fu_total fu_walked fu_edited fu_written v_7.1 fu_end v_7.2.1 v_7.2.2 au_text 9 h) (g_V w_278 w_279 w_280 w_281 w_277) 1 rfl (by decide +kernel) rfl rfl ⟨Nat.le_of_ble_eq_true rfl, Nat.le_of_ble_eq_true rfl⟩ rfl rfl (by decide) (by decide) (by decide) (by decide) (fun _ _ => rfl) hl.1 rfl (Nat.le_of_ble_eq_true rfl) d_Mo_linkLine_34 ⟨Nat.le_of_ble_eq_true rfl, Nat.le_of_ble_eq_true rfl⟩ (fun r_11 v_10 _ H locs h hP hD hS => ?_)
        have hP : va_P (dC, dI) cls (W_Mo_linkLine cI cC cB qu qu_text qu_segments qu_names qu_nameSize qu_links qu_from qu_to qu_bases qu_length qu_paths qu_titles qu_titleSize qu_steps qu_step qu_sideOf qu_within qu_read qu_cost qu_walk qu_edits qu_said fu_size fu_places fu_reads fu_there fu_total fu_walked fu_edited fu_written v_10 fu_end v_7.2.1 v_7.2.2 au_text au_segments au_names au_nameSize au_links au_from au_to) H := hP
        have hD : va_D A (W_Mo_linkLine cI cC cB qu qu_text qu_segments qu_names qu_nameSize qu_links qu_from qu_to qu_bases qu_length qu_paths qu_titles qu_titleSize qu_steps qu_step qu_sideOf qu_within qu_read qu_cost qu_walk qu_edits qu_said fu_size fu_places fu_reads fu_there fu_total fu_walked fu_edited fu_written v_10 fu_end v_7.2.1 v_7.2.2 au_text au_segments au_names au_nameSize au_links au_from au_to) := hD
        refine lv_if_ne (tgt := 42) hx hb d_Mo_linkLine_37 (by decide) (fun c_12 => ?_) (fun c_12 => ?_)
        · have h := h.2 c_12
          refine lv_aload_n hx hb d_Mo_linkLine_42 rfl (lv_at hl 2 rfl) ?_
          refine lv_iconst (v := 1) hx hb d_Mo_linkLine_43 (by decide) ?_
          refine call_V_i (As := [.int 1]) (rest := []) C0 hP hD hS [0, 1, 2, 3, 4] [5, 6, 7] [3, 4, 5, 6, 7, 0, 1, 2] [(qu_links, .inl (cI, 2, .inl au_links)), (qu_from, .inl (cI, 24, .inl au_from)), (qu_to, .inl (cI, 24, .inl au_to))] (fun (v : Int32 × Int32 × Int32) (_ : Unit) => (W_Mo_linkLine cI cC cB qu qu_text qu_segments qu_names qu_nameSize qu_links qu_from qu_to qu_bases qu_length qu_paths qu_titles qu_titleSize qu_steps qu_step qu_sideOf qu_within qu_read qu_cost qu_walk qu_edits qu_said fu_size fu_places fu_reads fu_there fu_total fu_walked fu_edited fu_written v.1 fu_end v.2.1 v.2.2 au_text au_segments au_names au_nameSize au_links au_from au_to)) (ci := 6) rfl rfl (k_Mo_namedSide l dC dI cI cC cB _ qu qu_text qu_segments qu_names qu_nameSize qu_bases qu_length qu_links qu_from qu_to qu_paths qu_titles qu_titleSize qu_steps qu_step qu_sideOf qu_within qu_read qu_cost qu_walk qu_edits qu_said fu_size fu_places fu_reads fu_there fu_total fu_walked fu_edited fu_written v_10 fu_end v_7.2.1 v_7.2.2 au_text au_segments au_names au_nameSize 1 h) (g_V w_312 w_313 w_314 w_281 w_311) 1 rfl (by decide +kernel) rfl rfl ⟨Nat.le_of_ble_eq_true rfl, Nat.le_of_ble_eq_true rfl⟩ rfl rfl (by decide) (by decide) (by decide) (by decide) (fun _ _ => rfl) hl.1 rfl (Nat.le_of_ble_eq_true rfl) d_Mo_linkLine_44 ⟨Nat.le_of_ble_eq_true rfl, Nat.le_of_ble_eq_true rfl⟩ (fun r_14 v_13 _ H locs h hP hD hS => ?_)
          have hP : va_P (dC, dI) cls (W_Mo_linkLine cI cC cB qu qu_text qu_segments qu_names qu_nameSize qu_links qu_from qu_to qu_bases qu_length qu_paths qu_titles qu_titleSize qu_steps qu_step qu_sideOf qu_within qu_read qu_cost qu_walk qu_edits qu_said fu_size fu_places fu_reads fu_there fu_total fu_walked fu_edited fu_written v_13.1 fu_end v_13.2.1 v_13.2.2 au_text au_segments au_names au_nameSize au_links au_from au_to) H := hP
          have hD : va_D A (W_Mo_linkLine cI cC cB qu qu_text qu_segments qu_names qu_nameSize qu_links qu_from qu_to qu_bases qu_length qu_paths qu_titles qu_titleSize qu_steps qu_step qu_sideOf qu_within qu_read qu_cost qu_walk qu_edits qu_said fu_size fu_places fu_reads fu_there fu_total fu_walked fu_edited fu_written v_13.1 fu_end v_13.2.1 v_13.2.2 au_text au_segments au_names au_nameSize au_links au_from au_to) := hD
          refine lv_istore_n (lv' := [(3, .int r_14), (2, .int r_8), (1, .int 9), (0, .ref qu)]) hx hb d_Mo_linkLine_47 rfl hl (by decide) rfl (fun ls hl => ?_)
          refine lv_iload_n hx hb d_Mo_linkLine_48 rfl (lv_at hl 0 rfl) ?_
          refine lv_if_lt (tgt := 110) hx hb d_Mo_linkLine_49 (by decide) (fun c_15 => ?_) (fun c_15 => ?_)
          · have h := h.1 c_15
            refine lv_iconst (v := 0) hx hb d_Mo_linkLine_110 (by decide) ?_
            exact hret (v_13.1, v_13.2.1, v_13.2.2, au_links, au_from, au_to) () 0 _ _ _ _ rfl h hP hD hS d_Mo_linkLine_111
          · have h := h.2 c_15
            refine lv_aload_n hx hb d_Mo_linkLine_52 rfl (lv_at hl 3 rfl) ?_
            refine lv_iload_n hx hb d_Mo_linkLine_53 rfl (lv_at hl 2 rfl) ?_
            refine call_V_i (As := [.int 9]) (rest := []) C0 hP hD hS [0, 1] [2, 3, 4, 5, 6, 7] [6, 7, 0, 1, 2, 3, 4, 5] [(qu_segments, .inl (cI, 2, .inl au_segments)), (qu_names, .inl (cC, 48, .inl au_names)), (qu_nameSize, .inl (cI, 16, .inl au_nameSize)), (qu_links, .inl (cI, 2, .inl au_links)), (qu_from, .inl (cI, 24, .inl au_from)), (qu_to, .inl (cI, 24, .inl au_to))] (fun (v : Int32) (_ : Unit) => (W_Mo_linkLine cI cC cB qu qu_text qu_segments qu_names qu_nameSize qu_links qu_from qu_to qu_bases qu_length qu_paths qu_titles qu_titleSize qu_steps qu_step qu_sideOf qu_within qu_read qu_cost qu_walk qu_edits qu_said fu_size fu_places fu_reads fu_there fu_total fu_walked fu_edited fu_written v fu_end v_13.2.1 v_13.2.2 au_text au_segments au_names au_nameSize au_links au_from au_to)) (ci := 6) rfl rfl (k_Mo_eat l dC dI cI cC cB _ qu qu_text qu_segments qu_names qu_nameSize qu_bases qu_length qu_links qu_from qu_to qu_paths qu_titles qu_titleSize qu_steps qu_step qu_sideOf qu_within qu_read qu_cost qu_walk qu_edits qu_said fu_size fu_places fu_reads fu_there fu_total fu_walked fu_edited fu_written v_13.1 fu_end v_13.2.1 v_13.2.2 au_text 9 h) (g_V w_278 w_279 w_280 w_281 w_277) 1 rfl (by decide +kernel) rfl rfl ⟨Nat.le_of_ble_eq_true rfl, Nat.le_of_ble_eq_true rfl⟩ rfl rfl (by decide) (by decide) (by decide) (by decide) (fun _ _ => rfl) hl.1 rfl (Nat.le_of_ble_eq_true rfl) d_Mo_linkLine_54 ⟨Nat.le_of_ble_eq_true rfl, Nat.le_of_ble_eq_true rfl⟩ (fun r_17 v_16 _ H locs h hP hD hS => ?_)
            have hP : va_P (dC, dI) cls (W_Mo_linkLine cI cC cB qu qu_text qu_segments qu_names qu_nameSize qu_links qu_from qu_to qu_bases qu_length qu_paths qu_titles qu_titleSize qu_steps qu_step qu_sideOf qu_within qu_read qu_cost qu_walk qu_edits qu_said fu_size fu_places fu_reads fu_there fu_total fu_walked fu_edited fu_written v_16 fu_end v_13.2.1 v_13.2.2 au_text au_segments au_names au_nameSize au_links au_from au_to) H := hP
            have hD : va_D A (W_Mo_linkLine cI cC cB qu qu_text qu_segments qu_names qu_nameSize qu_links qu_from qu_to qu_bases qu_length qu_paths qu_titles qu_titleSize qu_steps qu_step qu_sideOf qu_within qu_read qu_cost qu_walk qu_edits qu_said fu_size fu_places fu_reads fu_there fu_total fu_walked fu_edited fu_written v_16 fu_end v_13.2.1 v_13.2.2 au_text au_segments au_names au_nameSize au_links au_from au_to) := hD
            refine lv_if_eq (tgt := 110) hx hb d_Mo_linkLine_57 (by decide) (fun c_18 => ?_) (fun c_18 => ?_)
            · have h := h.1 c_18
              refine lv_iconst (v := 0) hx hb d_Mo_linkLine_110 (by decide) ?_
              exact hret (v_16, v_13.2.1, v_13.2.2, au_links, au_from, au_to) () 0 _ _ _ _ rfl h hP hD hS d_Mo_linkLine_111
            · have h := h.2 c_18
              refine lv_aload_n hx hb d_Mo_linkLine_60 rfl (lv_at hl 3 rfl) ?_
              refine lv_bipush (v := 48) hx hb d_Mo_linkLine_61 (by decide) ?_
              refine call_V_i (As := [.int 48]) (rest := []) C0 hP hD hS [0, 1] [2, 3, 4, 5, 6, 7] [6, 7, 0, 1, 2, 3, 4, 5] [(qu_segments, .inl (cI, 2, .inl au_segments)), (qu_names, .inl (cC, 48, .inl au_names)), (qu_nameSize, .inl (cI, 16, .inl au_nameSize)), (qu_links, .inl (cI, 2, .inl au_links)), (qu_from, .inl (cI, 24, .inl au_from)), (qu_to, .inl (cI, 24, .inl au_to))] (fun (v : Int32) (_ : Unit) => (W_Mo_linkLine cI cC cB qu qu_text qu_segments qu_names qu_nameSize qu_links qu_from qu_to qu_bases qu_length qu_paths qu_titles qu_titleSize qu_steps qu_step qu_sideOf qu_within qu_read qu_cost qu_walk qu_edits qu_said fu_size fu_places fu_reads fu_there fu_total fu_walked fu_edited fu_written v fu_end v_13.2.1 v_13.2.2 au_text au_segments au_names au_nameSize au_links au_from au_to)) (ci := 6) rfl rfl (k_Mo_eat l dC dI cI cC cB _ qu qu_text qu_segments qu_names qu_nameSize qu_bases qu_length qu_links qu_from qu_to qu_paths qu_titles qu_titleSize qu_steps qu_step qu_sideOf qu_within qu_read qu_cost qu_walk qu_edits qu_said fu_size fu_places fu_reads fu_there fu_total fu_walked fu_edited fu_written v_16 fu_end v_13.2.1 v_13.2.2 au_text 48 h) (g_V w_278 w_279 w_280 w_281 w_277) 1 rfl (by decide +kernel) rfl rfl ⟨Nat.le_of_ble_eq_true rfl, Nat.le_of_ble_eq_true rfl⟩ rfl rfl (by decide) (by decide) (by decide) (by decide) (fun _ _ => rfl) hl.1 rfl (Nat.le_of_ble_eq_true rfl) d_Mo_linkLine_63 ⟨Nat.le_of_ble_eq_true rfl, Nat.le_of_ble_eq_true rfl⟩ (fun r_20 v_19 _ H locs h hP hD hS => ?_)
              have hP : va_P (dC, dI) cls (W_Mo_linkLine cI cC cB qu qu_text qu_segments qu_names qu_nameSize qu_links qu_from qu_to qu_bases qu_length qu_paths qu_titles qu_titleSize qu_steps qu_step qu_sideOf qu_within qu_read qu_cost qu_walk qu_edits qu_said fu_size fu_places fu_reads fu_there fu_total fu_walked fu_edited fu_written v_19 fu_end v_13.2.1 v_13.2.2 au_text au_segments au_names au_nameSize au_links au_from au_to) H := hP
              have hD : va_D A (W_Mo_linkLine cI cC cB qu qu_text qu_segments qu_names qu_nameSize qu_links qu_from qu_to qu_bases qu_length qu_paths qu_titles qu_titleSize qu_steps qu_step qu_sideOf qu_within qu_read qu_cost qu_walk qu_edits qu_said fu_size fu_places fu_reads fu_there fu_total fu_walked fu_edited fu_written v_19 fu_end v_13.2.1 v_13.2.2 au_text au_segments au_names au_nameSize au_links au_from au_to) := hD
              refine lv_if_eq (tgt := 110) hx hb d_Mo_linkLine_66 (by decide) (fun c_21 => ?_) (fun c_21 => ?_)
              · have h := h.1 c_21
                refine lv_iconst (v := 0) hx hb d_Mo_linkLine_110 (by decide) ?_
                exact hret (v_19, v_13.2.1, v_13.2.2, au_links, au_from, au_to) () 0 _ _ _ _ rfl h hP hD hS d_Mo_linkLine_111
              · have h := h.2 c_21
                refine lv_aload_n hx hb d_Mo_linkLine_69 rfl (lv_at hl 3 rfl) ?_
                refine lv_bipush (v := 77) hx hb d_Mo_linkLine_70 (by decide) ?_
                refine call_V_i (As := [.int 77]) (rest := []) C0 hP hD hS [0, 1] [2, 3, 4, 5, 6, 7] [6, 7, 0, 1, 2, 3, 4, 5] [(qu_segments, .inl (cI, 2, .inl au_segments)), (qu_names, .inl (cC, 48, .inl au_names)), (qu_nameSize, .inl (cI, 16, .inl au_nameSize)), (qu_links, .inl (cI, 2, .inl au_links)), (qu_from, .inl (cI, 24, .inl au_from)), (qu_to, .inl (cI, 24, .inl au_to))] (fun (v : Int32) (_ : Unit) => (W_Mo_linkLine cI cC cB qu qu_text qu_segments qu_names qu_nameSize qu_links qu_from qu_to qu_bases qu_length qu_paths qu_titles qu_titleSize qu_steps qu_step qu_sideOf qu_within qu_read qu_cost qu_walk qu_edits qu_said fu_size fu_places fu_reads fu_there fu_total fu_walked fu_edited fu_written v fu_end v_13.2.1 v_13.2.2 au_text au_segments au_names au_nameSize au_links au_from au_to)) (ci := 6) rfl rfl (k_Mo_eat l dC dI cI cC cB _ qu qu_text qu_segments qu_names qu_nameSize qu_bases qu_length qu_links qu_from qu_to qu_paths qu_titles qu_titleSize qu_steps qu_step qu_sideOf qu_within qu_read qu_cost qu_walk qu_edits qu_said fu_size fu_places fu_reads fu_there fu_total fu_walked fu_edited fu_written v_19 fu_end v_13.2.1 v_13.2.2 au_text 77 h) (g_V w_278 w_279 w_280 w_281 w_277) 1 rfl (by decide +kernel) rfl rfl ⟨Nat.le_of_ble_eq_true rfl, Nat.le_of_ble_eq_true rfl⟩ rfl rfl (by decide) (by decide) (by decide) (by decide) (fun _ _ => rfl) hl.1 rfl (Nat.le_of_ble_eq_true rfl) d_Mo_linkLine_72 ⟨Nat.le_of_ble_eq_true rfl, Nat.le_of_ble_eq_true rfl⟩ (fun r_23 v_22 _ H locs h hP hD hS => ?_)
                have hP : va_P (dC, dI) cls (W_Mo_linkLine cI cC cB qu qu_text qu_segments qu_names qu_nameSize qu_links qu_from qu_to qu_bases qu_length qu_paths qu_titles qu_titleSize qu_steps qu_step qu_sideOf qu_within qu_read qu_cost qu_walk qu_edits qu_said fu_size fu_places fu_reads fu_there fu_total fu_walked fu_edited fu_written v_22 fu_end v_13.2.1 v_13.2.2 au_text au_segments au_names au_nameSize au_links au_from au_to) H := hP
                have hD : va_D A (W_Mo_linkLine cI cC cB qu qu_text qu_segments qu_names qu_nameSize qu_links qu_from qu_to qu_bases qu_length qu_paths qu_titles qu_titleSize qu_steps qu_step qu_sideOf qu_within qu_read qu_cost qu_walk qu_edits qu_said fu_size fu_places fu_reads fu_there fu_total fu_walked fu_edited fu_written v_22 fu_end v_13.2.1 v_13.2.2 au_text au_segments au_names au_nameSize au_links au_from au_to) := hD
                refine lv_if_eq (tgt := 110) hx hb d_Mo_linkLine_75 (by decide) (fun c_24 => ?_) (fun c_24 => ?_)
                · have h := h.1 c_24
                  refine lv_iconst (v := 0) hx hb d_Mo_linkLine_110 (by decide) ?_
                  exact hret (v_22, v_13.2.1, v_13.2.2, au_links, au_from, au_to) () 0 _ _ _ _ rfl h hP hD hS d_Mo_linkLine_111
                · have h := h.2 c_24
                  refine lv_aload_n hx hb d_Mo_linkLine_78 rfl (lv_at hl 3 rfl) ?_
                  refine va_get (D := (dC, dI)) (ci := 6) (v := .int v_22) (C := R_Mo) (T := T_Mo) (N := 33) hx hb hts in_Mo hown hK hP 0 rfl rfl 29 (by decide) (hts _ w_274) (fun _ h9 => h9) rfl d_Mo_linkLine_79 ?_
                  refine lv_aload_n hx hb d_Mo_linkLine_82 rfl (lv_at hl 3 rfl) ?_
                  refine va_get (D := (dC, dI)) (ci := 6) (v := .int fu_end) (C := R_Mo) (T := T_Mo) (N := 33) hx hb hts in_Mo hown hK hP 0 rfl rfl 30 (by decide) (hts _ w_275) (fun _ h9 => h9) rfl d_Mo_linkLine_83 ?_
                  refine lv_icmp_ne (tgt := 110) hx hb d_Mo_linkLine_86 (by decide) (fun c_25 => ?_) (fun c_25 => ?_)
                  · have h := h.2 c_25
                    refine lv_iconst (v := 0) hx hb d_Mo_linkLine_110 (by decide) ?_
                    exact hret (v_22, v_13.2.1, v_13.2.2, au_links, au_from, au_to) () 0 _ _ _ _ rfl h hP hD hS d_Mo_linkLine_111
                  · have h := h.1 c_25
                    refine lv_aload_n hx hb d_Mo_linkLine_89 rfl (lv_at hl 3 rfl) ?_
                    refine lv_iconst (v := 1) hx hb d_Mo_linkLine_90 (by decide) ?_
                    refine lv_iload_n hx hb d_Mo_linkLine_91 rfl (lv_at hl 1 rfl) ?_
                    refine lv_iload_n hx hb d_Mo_linkLine_92 rfl (lv_at hl 0 rfl) ?_
                    refine call_V_i (As := [.int 1, .int r_8, .int r_14]) (rest := []) C0 hP hD hS [0, 5, 6, 7] [1, 2, 3, 4] [4, 0, 1, 2, 3, 5, 6, 7] [(qu_text, .inl (cC, 400, .inl au_text)), (qu_segments, .inl (cI, 2, .inl au_segments)), (qu_names, .inl (cC, 48, .inl au_names)), (qu_nameSize, .inl (cI, 16, .inl au_nameSize))] (fun (v : Unit) (_ : Unit) => (W_Mo_linkLine cI cC cB qu qu_text qu_segments qu_names qu_nameSize qu_links qu_from qu_to qu_bases qu_length qu_paths qu_titles qu_titleSize qu_steps qu_step qu_sideOf qu_within qu_read qu_cost qu_walk qu_edits qu_said fu_size fu_places fu_reads fu_there fu_total fu_walked fu_edited fu_written v_22 fu_end v_13.2.1 v_13.2.2 au_text au_segments au_names au_nameSize au_links au_from au_to)) (ci := 6) rfl rfl (k_Mo_linked l dC dI cI cC cB _ qu qu_links qu_from qu_to qu_text qu_segments qu_names qu_nameSize qu_bases qu_length qu_paths qu_titles qu_titleSize qu_steps qu_step qu_sideOf qu_within qu_read qu_cost qu_walk qu_edits qu_said fu_size fu_places fu_reads fu_there fu_total fu_walked fu_edited fu_written v_22 fu_end v_13.2.1 v_13.2.2 au_links au_from au_to 1 r_8 r_14 h) (g_V w_308 w_309 w_310 w_281 w_307) 3 rfl (by decide +kernel) rfl rfl ⟨Nat.le_of_ble_eq_true rfl, Nat.le_of_ble_eq_true rfl⟩ rfl rfl (by decide) (by decide) (by decide) (by decide) (fun _ _ => rfl) hl.1 rfl (Nat.le_of_ble_eq_true rfl) d_Mo_linkLine_93 ⟨Nat.le_of_ble_eq_true rfl, Nat.le_of_ble_eq_true rfl⟩ (fun r_27 v_26 _ H locs h hP hD hS => ?_)
                    have hP : va_P (dC, dI) cls (W_Mo_linkLine cI cC cB qu qu_text qu_segments qu_names qu_nameSize qu_links qu_from qu_to qu_bases qu_length qu_paths qu_titles qu_titleSize qu_steps qu_step qu_sideOf qu_within qu_read qu_cost qu_walk qu_edits qu_said fu_size fu_places fu_reads fu_there fu_total fu_walked fu_edited fu_written v_22 fu_end v_13.2.1 v_13.2.2 au_text au_segments au_names au_nameSize au_links au_from au_to) H := hP
                    have hD : va_D A (W_Mo_linkLine cI cC cB qu qu_text qu_segments qu_names qu_nameSize qu_links qu_from qu_to qu_bases qu_length qu_paths qu_titles qu_titleSize qu_steps qu_step qu_sideOf qu_within qu_read qu_cost qu_walk qu_edits qu_said fu_size fu_places fu_reads fu_there fu_total fu_walked fu_edited fu_written v_22 fu_end v_13.2.1 v_13.2.2 au_text au_segments au_names au_nameSize au_links au_from au_to) := hD
                    refine lv_if_ne (tgt := 110) hx hb d_Mo_linkLine_96 (by decide) (fun c_28 => ?_) (fun c_28 => ?_)
                    · have h := h.2 c_28
                      refine lv_iconst (v := 0) hx hb d_Mo_linkLine_110 (by decide) ?_
                      exact hret (v_22, v_13.2.1, v_13.2.2, au_links, au_from, au_to) () 0 _ _ _ _ rfl h hP hD hS d_Mo_linkLine_111
                    · have h := h.1 c_28
                      refine lv_aload_n hx hb d_Mo_linkLine_99 rfl (lv_at hl 3 rfl) ?_
                      refine va_get (D := (dC, dI)) (ci := 6) (v := .ref qu_links) (C := R_Mo) (T := T_Mo) (N := 33) hx hb hts in_Mo hown hK hP 0 rfl rfl 7 (by decide) (hts _ w_306) (fun _ h9 => h9) rfl d_Mo_linkLine_100 ?_
                      refine lv_iconst (v := 1) hx hb d_Mo_linkLine_103 (by decide) ?_
                      have hi_29 := h.1
                      have h := h.2
                      refine va_iald hx hb hK hP 5 0 rfl rfl hi_29 d_Mo_linkLine_104 ?_
                      refine lv_topi (fun y_30 ey_30 => ?_)
                      have h := h y_30 ey_30
                      refine lv_bipush (v := 12) hx hb d_Mo_linkLine_105 (by decide) ?_
                      refine lv_icmp_ne (tgt := 112) hx hb d_Mo_linkLine_107 (by decide) (fun c_31 => ?_) (fun c_31 => ?_)
                      · have h := h.2 c_31
                        refine lv_aload_n hx hb d_Mo_linkLine_112 rfl (lv_at hl 3 rfl) ?_
                        refine va_get (D := (dC, dI)) (ci := 6) (v := .ref qu_from) (C := R_Mo) (T := T_Mo) (N := 33) hx hb hts in_Mo hown hK hP 0 rfl rfl 8 (by decide) (hts _ w_305) (fun _ h9 => h9) rfl d_Mo_linkLine_113 ?_
                        refine lv_bipush (v := 12) hx hb d_Mo_linkLine_116 (by decide) ?_
                        refine lv_aload_n hx hb d_Mo_linkLine_118 rfl (lv_at hl 3 rfl) ?_
                        refine va_get (D := (dC, dI)) (ci := 6) (v := .ref qu_links) (C := R_Mo) (T := T_Mo) (N := 33) hx hb hts in_Mo hown hK hP 0 rfl rfl 7 (by decide) (hts _ w_306) (fun _ h9 => h9) rfl d_Mo_linkLine_119 ?_
                        refine lv_iconst (v := 1) hx hb d_Mo_linkLine_122 (by decide) ?_
                        have hi_32 := h.1
                        have h := h.2
                        refine va_iald hx hb hK hP 5 0 rfl rfl hi_32 d_Mo_linkLine_123 ?_
                        refine lv_iadd hx hb d_Mo_linkLine_124 ?_
                        refine lv_topi (fun x_33 ex_33 => ?_)
                        have h := h x_33 ex_33
                        refine lv_iload_n hx hb d_Mo_linkLine_125 rfl (lv_at hl 1 rfl) ?_
                        have hi_34 := h.1
                        have h := h.2
                        refine va_iast hx hb hK hP hD hS 6 0 rfl rfl hi_34 d_Mo_linkLine_126 (fun H locs hP hD hS => ?_)
                        obtain ⟨au_from_35, eau_from_35⟩ : ∃ z : Nat → Int32, z = upd au_from x_33.toNatClampNeg r_8 := ⟨_, rfl⟩
                        have h := h au_from_35 eau_from_35
                        have hP : va_P (dC, dI) cls (W_Mo_linkLine cI cC cB qu qu_text qu_segments qu_names qu_nameSize qu_links qu_from qu_to qu_bases qu_length qu_paths qu_titles qu_titleSize qu_steps qu_step qu_sideOf qu_within qu_read qu_cost qu_walk qu_edits qu_said fu_size fu_places fu_reads fu_there fu_total fu_walked fu_edited fu_written v_22 fu_end v_13.2.1 v_13.2.2 au_text au_segments au_names au_nameSize au_links au_from_35 au_to) H := by rw [eau_from_35]; exact hP
                        have hD : va_D A (W_Mo_linkLine cI cC cB qu qu_text qu_segments qu_names qu_nameSize qu_links qu_from qu_to qu_bases qu_length qu_paths qu_titles qu_titleSize qu_steps qu_step qu_sideOf qu_within qu_read qu_cost qu_walk qu_edits qu_said fu_size fu_places fu_reads fu_there fu_total fu_walked fu_edited fu_written v_22 fu_end v_13.2.1 v_13.2.2 au_text au_segments au_names au_nameSize au_links au_from_35 au_to) := by rw [eau_from_35]; exact hD
                        refine lv_aload_n hx hb d_Mo_linkLine_127 rfl (lv_at hl 3 rfl) ?_
                        refine va_get (D := (dC, dI)) (ci := 6) (v := .ref qu_to) (C := R_Mo) (T := T_Mo) (N := 33) hx hb hts in_Mo hown hK hP 0 rfl rfl 9 (by decide) (hts _ w_304) (fun _ h9 => h9) rfl d_Mo_linkLine_128 ?_
                        refine lv_bipush (v := 12) hx hb d_Mo_linkLine_131 (by decide) ?_
                        refine lv_aload_n hx hb d_Mo_linkLine_133 rfl (lv_at hl 3 rfl) ?_
                        refine va_get (D := (dC, dI)) (ci := 6) (v := .ref qu_links) (C := R_Mo) (T := T_Mo) (N := 33) hx hb hts in_Mo hown hK hP 0 rfl rfl 7 (by decide) (hts _ w_306) (fun _ h9 => h9) rfl d_Mo_linkLine_134 ?_
                        refine lv_iconst (v := 1) hx hb d_Mo_linkLine_137 (by decide) ?_
                        have hi_36 := h.1
                        have h := h.2
                        refine va_iald hx hb hK hP 5 0 rfl rfl hi_36 d_Mo_linkLine_138 ?_
                        refine lv_iadd hx hb d_Mo_linkLine_139 ?_
                        refine lv_topi (fun x_37 ex_37 => ?_)
                        have h := h x_37 ex_37
                        refine lv_iload_n hx hb d_Mo_linkLine_140 rfl (lv_at hl 0 rfl) ?_
                        have hi_38 := h.1
                        have h := h.2
                        refine va_iast hx hb hK hP hD hS 7 0 rfl rfl hi_38 d_Mo_linkLine_141 (fun H locs hP hD hS => ?_)
                        obtain ⟨au_to_39, eau_to_39⟩ : ∃ z : Nat → Int32, z = upd au_to x_37.toNatClampNeg r_14 := ⟨_, rfl⟩
                        have h := h au_to_39 eau_to_39
                        have hP : va_P (dC, dI) cls (W_Mo_linkLine cI cC cB qu qu_text qu_segments qu_names qu_nameSize qu_links qu_from qu_to qu_bases qu_length qu_paths qu_titles qu_titleSize qu_steps qu_step qu_sideOf qu_within qu_read qu_cost qu_walk qu_edits qu_said fu_size fu_places fu_reads fu_there fu_total fu_walked fu_edited fu_written v_22 fu_end v_13.2.1 v_13.2.2 au_text au_segments au_names au_nameSize au_links au_from_35 au_to_39) H := by rw [eau_to_39]; exact hP
                        have hD : va_D A (W_Mo_linkLine cI cC cB qu qu_text qu_segments qu_names qu_nameSize qu_links qu_from qu_to qu_bases qu_length qu_paths qu_titles qu_titleSize qu_steps qu_step qu_sideOf qu_within qu_read qu_cost qu_walk qu_edits qu_said fu_size fu_places fu_reads fu_there fu_total fu_walked fu_edited fu_written v_22 fu_end v_13.2.1 v_13.2.2 au_text au_segments au_names au_nameSize au_links au_from_35 au_to_39) := by rw [eau_to_39]; exact hD
                        refine lv_aload_n hx hb d_Mo_linkLine_142 rfl (lv_at hl 3 rfl) ?_
                        refine va_get (D := (dC, dI)) (ci := 6) (v := .ref qu_links) (C := R_Mo) (T := T_Mo) (N := 33) hx hb hts in_Mo hown hK hP 0 rfl rfl 7 (by decide) (hts _ w_306) (fun _ h9 => h9) rfl d_Mo_linkLine_143 ?_
                        refine lv_iconst (v := 1) hx hb d_Mo_linkLine_146 (by decide) ?_
                        refine lv_dup2_11 hx hb d_Mo_linkLine_147 rfl rfl ?_
                        have hi_40 := h.1
                        have h := h.2
                        refine va_iald hx hb hK hP 5 0 rfl rfl hi_40 d_Mo_linkLine_148 ?_
                        refine lv_iconst (v := 1) hx hb d_Mo_linkLine_149 (by decide) ?_
                        refine lv_iadd hx hb d_Mo_linkLine_150 ?_
                        refine lv_topi (fun x_41 ex_41 => ?_)
                        have h := h x_41 ex_41
                        have hi_42 := h.1
                        have h := h.2
                        refine va_iast hx hb hK hP hD hS 5 0 rfl rfl hi_42 d_Mo_linkLine_151 (fun H locs hP hD hS => ?_)
                        obtain ⟨au_links_43, eau_links_43⟩ : ∃ z : Nat → Int32, z = upd au_links (1 : Int32).toNatClampNeg x_41 := ⟨_, rfl⟩
                        have h := h au_links_43 eau_links_43
                        have hP : va_P (dC, dI) cls (W_Mo_linkLine cI cC cB qu qu_text qu_segments qu_names qu_nameSize qu_links qu_from qu_to qu_bases qu_length qu_paths qu_titles qu_titleSize qu_steps qu_step qu_sideOf qu_within qu_read qu_cost qu_walk qu_edits qu_said fu_size fu_places fu_reads fu_there fu_total fu_walked fu_edited fu_written v_22 fu_end v_13.2.1 v_13.2.2 au_text au_segments au_names au_nameSize au_links_43 au_from_35 au_to_39) H := by rw [eau_links_43]; exact hP
                        have hD : va_D A (W_Mo_linkLine cI cC cB qu qu_text qu_segments qu_names qu_nameSize qu_links qu_from qu_to qu_bases qu_length qu_paths qu_titles qu_titleSize qu_steps qu_step qu_sideOf qu_within qu_read qu_cost qu_walk qu_edits qu_said fu_size fu_places fu_reads fu_there fu_total fu_walked fu_edited fu_written v_22 fu_end v_13.2.1 v_13.2.2 au_text au_segments au_names au_nameSize au_links_43 au_from_35 au_to_39) := by rw [eau_links_43]; exact hD
                        refine lv_iconst (v := 1) hx hb d_Mo_linkLine_152 (by decide) ?_
                        exact hret (v_22, v_13.2.1, v_13.2.2, au_links_43, au_from_35, au_to_39) () 1 _ _ _ _ rfl h hP hD hS d_Mo_linkLine_153
                      · have h := h.1 c_31
                        refine lv_iconst (v := 0) hx hb d_Mo_linkLine_110 (by decide) ?_
                        exact hret (v_22, v_13.2.1, v_13.2.2, au_links, au_from, au_to) () 0 _ _ _ _ rfl h hP hD hS d_Mo_linkLine_111
        · have h := h.1 c_12
          refine lv_iconst (v := 0) hx hb d_Mo_linkLine_40 (by decide) ?_
          exact hret (v_10, v_7.2.1, v_7.2.2, au_links, au_from, au_to) () 0 _ _ _ _ rfl h hP hD hS d_Mo_linkLine_41
    · have h := h.1 c_6
      refine lv_iconst (v := 0) hx hb d_Mo_linkLine_20 (by decide) ?_
      exact hret (v_4, fu_began, fu_many, au_links, au_from, au_to) () 0 _ _ _ _ rfl h hP hD hS d_Mo_linkLine_21
abbrev W_Mo_titled (cI cC cB : ClassId) (qu : Nat) (qu_text : Nat) (qu_paths : Nat) (qu_titles : Nat) (qu_titleSize : Nat) (qu_segments : Nat) (qu_names : Nat) (qu_nameSize : Nat) (qu_bases : Nat) (qu_length : Nat) (qu_links : Nat) (qu_from : Nat) (qu_to : Nat) (qu_steps : Nat) (qu_step : Nat) (qu_sideOf : Nat) (qu_within : Nat) (qu_read : Nat) (qu_cost : Nat) (qu_walk : Nat) (qu_edits : Nat) (qu_said : Nat) (fu_size : Int32) (fu_places : Int32) (fu_reads : Int32) (fu_there : Int32) (fu_total : Int32) (fu_walked : Int32) (fu_edited : Int32) (fu_written : Int32) (fu_at : Int32) (fu_end : Int32) (fu_began : Int32) (fu_many : Int32) (au_text : Nat → Int32) (au_paths : Nat → Int32) (au_titles : Nat → Int32) (au_titleSize : Nat → Int32) : va_W := [(qu, .inr (6, [.int fu_size, .ref qu_text, .ref qu_segments, .ref qu_names, .ref qu_nameSize, .ref qu_bases, .ref qu_length, .ref qu_links, .ref qu_from, .ref qu_to, .ref qu_paths, .ref qu_titles, .ref qu_titleSize, .ref qu_steps, .ref qu_step, .int fu_places, .ref qu_sideOf, .ref qu_within, .int fu_reads, .ref qu_read, .ref qu_cost, .int fu_there, .int fu_total, .int fu_walked, .ref qu_walk, .int fu_edited, .ref qu_edits, .int fu_written, .ref qu_said, .int fu_at, .int fu_end, .int fu_began, .int fu_many])), (qu_text, .inl (cC, 400, .inl au_text)), (qu_paths, .inl (cI, 2, .inl au_paths)), (qu_titles, .inl (cC, 24, .inl au_titles)), (qu_titleSize, .inl (cI, 8, .inl au_titleSize))]
def w_Mo_titled_86 (Q : Int32 → Unit → Prop) (K_2 : Int32 → Prop) (fu_began : Int32) (fu_many : Int32) (au_text : Nat → Int32) (au_paths : Nat → Int32) (au_titles : Nat → Int32) (au_titleSize : Nat → Int32) (x1 : Int32) (x2 : Int32) : Prop := ((x2 = 0 → (∀ x1_2 : Int32, x1_2 = x1 + 1 → (K_2 x1_2))) ∧ (¬ x2 = 0 → (Q 1 ())))
def w_Mo_titled_79 (Q : Int32 → Unit → Prop) (K_2 : Int32 → Prop) (K_35 : Int32 → Int32 → Int32 → Prop) (fu_began : Int32) (fu_many : Int32) (au_text : Nat → Int32) (au_paths : Nat → Int32) (au_titles : Nat → Int32) (au_titleSize : Nat → Int32) (x1 : Int32) (x3 : Int32) (s0 : Int32) : Prop := ∀ x3_3 : Int32, x3_3 = x3 + 1 → (K_35 x1 s0 x3_3)
def w_Mo_titled_35B (Q : Int32 → Unit → Prop) (K_2 : Int32 → Prop) (K_35 : Int32 → Int32 → Int32 → Prop) (fu_began : Int32) (fu_many : Int32) (au_text : Nat → Int32) (au_paths : Nat → Int32) (au_titles : Nat → Int32) (au_titleSize : Nat → Int32) (x1 : Int32) (x2 : Int32) (x3 : Int32) : Prop := ((fu_many ≤ x3 → (w_Mo_titled_86 Q K_2 fu_began fu_many au_text au_paths au_titles au_titleSize x1 x2)) ∧ (¬ fu_many ≤ x3 → (((x2 = 0 → (w_Mo_titled_86 Q K_2 fu_began fu_many au_text au_paths au_titles au_titleSize x1 x2)) ∧ (¬ x2 = 0 → (∀ x_6 : Int32, x_6 = (12 + (3 * x1)) + x3 → (vp_in x_6 24 ∧ (∀ y_8 : Int32, y_8 = au_titles x_6.toNatClampNeg → (∀ x_9 : Int32, x_9 = fu_began + x3 → (vp_in x_9 400 ∧ (∀ y_11 : Int32, y_11 = au_text x_9.toNatClampNeg → (((y_8 = y_11 → (w_Mo_titled_79 Q K_2 K_35 fu_began fu_many au_text au_paths au_titles au_titleSize x1 x3 1)) ∧ (¬ y_8 = y_11 → (w_Mo_titled_79 Q K_2 K_35 fu_began fu_many au_text au_paths au_titles au_titleSize x1 x3 0)))))))))))))))
def w_Mo_titled_35 (Q : Int32 → Unit → Prop) (K_2 : Int32 → Prop) (fu_began : Int32) (fu_many : Int32) (au_text : Nat → Int32) (au_paths : Nat → Int32) (au_titles : Nat → Int32) (au_titleSize : Nat → Int32) : Nat → Int32 → Int32 → Int32 → Prop
  | 0 => fun _ _ _ => False
  | n + 1 => fun x1 x2 x3 => w_Mo_titled_35B Q K_2 (w_Mo_titled_35 Q K_2 fu_began fu_many au_text au_paths au_titles au_titleSize n) fu_began fu_many au_text au_paths au_titles au_titleSize x1 x2 x3
def w_Mo_titled_32 (Q : Int32 → Unit → Prop) (K_2 : Int32 → Prop) (fu_began : Int32) (fu_many : Int32) (au_text : Nat → Int32) (au_paths : Nat → Int32) (au_titles : Nat → Int32) (au_titleSize : Nat → Int32) (x1 : Int32) (s0 : Int32) : Prop := ∃ fu_35 : Nat, w_Mo_titled_35 Q K_2 fu_began fu_many au_text au_paths au_titles au_titleSize fu_35 x1 s0 0
def w_Mo_titled_2B (Q : Int32 → Unit → Prop)  (K_2 : Int32 → Prop) (fu_began : Int32) (fu_many : Int32) (au_text : Nat → Int32) (au_paths : Nat → Int32) (au_titles : Nat → Int32) (au_titleSize : Nat → Int32) (x1 : Int32) : Prop := vp_in (1 : Int32) 2 ∧ (∀ y_14 : Int32, y_14 = au_paths (1 : Int32).toNatClampNeg → (((y_14 ≤ x1 → (Q 0 ())) ∧ (¬ y_14 ≤ x1 → (∀ x_16 : Int32, x_16 = 4 + x1 → (vp_in x_16 8 ∧ (∀ y_18 : Int32, y_18 = au_titleSize x_16.toNatClampNeg → (((y_18 = fu_many → (w_Mo_titled_32 Q K_2 fu_began fu_many au_text au_paths au_titles au_titleSize x1 1)) ∧ (¬ y_18 = fu_many → (w_Mo_titled_32 Q K_2 fu_began fu_many au_text au_paths au_titles au_titleSize x1 0)))))))))))
def w_Mo_titled_2 (Q : Int32 → Unit → Prop)  (fu_began : Int32) (fu_many : Int32) (au_text : Nat → Int32) (au_paths : Nat → Int32) (au_titles : Nat → Int32) (au_titleSize : Nat → Int32) : Nat → Int32 → Prop
  | 0 => fun _ => False
  | n + 1 => fun x1 => w_Mo_titled_2B Q  (w_Mo_titled_2 Q  fu_began fu_many au_text au_paths au_titles au_titleSize n) fu_began fu_many au_text au_paths au_titles au_titleSize x1
def wp_Mo_titled (Q : Int32 → Unit → Prop)  (fu_began : Int32) (fu_many : Int32) (au_text : Nat → Int32) (au_paths : Nat → Int32) (au_titles : Nat → Int32) (au_titleSize : Nat → Int32) : Prop := ∃ fu_2 : Nat, w_Mo_titled_2 Q fu_began fu_many au_text au_paths au_titles au_titleSize fu_2 0
abbrev rm_Mo_titled : Room := { frames := 0, cells := 0, slots := 0, locals := 0 }
set_option maxHeartbeats 4000000 in
set_option maxRecDepth 100000 in
theorem k_Mo_titled (l : Launch) (dC : Nat → ClassId) (dI : Nat → Nat → Nat) (cI cC cB : ClassId) (sz : Nat) (qu : Nat) (qu_text : Nat) (qu_paths : Nat) (qu_titles : Nat) (qu_titleSize : Nat) (qu_segments : Nat) (qu_names : Nat) (qu_nameSize : Nat) (qu_bases : Nat) (qu_length : Nat) (qu_links : Nat) (qu_from : Nat) (qu_to : Nat) (qu_steps : Nat) (qu_step : Nat) (qu_sideOf : Nat) (qu_within : Nat) (qu_read : Nat) (qu_cost : Nat) (qu_walk : Nat) (qu_edits : Nat) (qu_said : Nat) (fu_size : Int32) (fu_places : Int32) (fu_reads : Int32) (fu_there : Int32) (fu_total : Int32) (fu_walked : Int32) (fu_edited : Int32) (fu_written : Int32) (fu_at : Int32) (fu_end : Int32) (fu_began : Int32) (fu_many : Int32) (au_text : Nat → Int32) (au_paths : Nat → Int32) (au_titles : Nat → Int32) (au_titleSize : Nat → Int32)  {Q : Int32 → Unit → Prop} (h : wp_Mo_titled Q  fu_began fu_many au_text au_paths au_titles au_titleSize) :
    CTi l y_Mo_titled (wM y_Mo_titled c_Mo_titled 4 (some .boolean)) rm_Mo_titled 0 0 (dC, dI) (tysL cI cC cB) [.ref qu] (W_Mo_titled cI cC cB qu qu_text qu_paths qu_titles qu_titleSize qu_segments qu_names qu_nameSize qu_bases qu_length qu_links qu_from qu_to qu_steps qu_step qu_sideOf qu_within qu_read qu_cost qu_walk qu_edits qu_said fu_size fu_places fu_reads fu_there fu_total fu_walked fu_edited fu_written fu_at fu_end fu_began fu_many au_text au_paths au_titles au_titleSize) sz Q (fun (v : Unit) (_ : Unit) => (W_Mo_titled cI cC cB qu qu_text qu_paths qu_titles qu_titleSize qu_segments qu_names qu_nameSize qu_bases qu_length qu_links qu_from qu_to qu_steps qu_step qu_sideOf qu_within qu_read qu_cost qu_walk qu_edits qu_said fu_size fu_places fu_reads fu_there fu_total fu_walked fu_edited fu_written fu_at fu_end fu_began fu_many au_text au_paths au_titles au_titleSize)) := by
  refine CTi.std (by decide) (Nat.le_of_ble_eq_true rfl) ?_
  intro p e s m args below meth c A ls QF C0 hP hD hl hS hsz hret
  obtain ⟨hx, hb, hr, hml, hown, hts, hlocks, hN, hA, hK, hnm⟩ := id C0
  have hown : s.vm.findClass R_Mo = some m.cls := hown
  have hl : lv_has ls 4 [(0, .ref qu)] := hl
  clear hsz
  have blk_86 : ∀ (K_2 : Int32 → Prop) (hK_2 : ∀ (x1 : Int32) (H : Heap) (locs : List Loc) (ls : Array Slot), K_2 x1 → va_P (dC, dI) cls (W_Mo_titled cI cC cB qu qu_text qu_paths qu_titles qu_titleSize qu_segments qu_names qu_nameSize qu_bases qu_length qu_links qu_from qu_to qu_steps qu_step qu_sideOf qu_within qu_read qu_cost qu_walk qu_edits qu_said fu_size fu_places fu_reads fu_there fu_total fu_walked fu_edited fu_written fu_at fu_end fu_began fu_many au_text au_paths au_titles au_titleSize) H → va_D A (W_Mo_titled cI cC cB qu qu_text qu_paths qu_titles qu_titleSize qu_segments qu_names qu_nameSize qu_bases qu_length qu_links qu_from qu_to qu_steps qu_step qu_sideOf qu_within qu_read qu_cost qu_walk qu_edits qu_said fu_size fu_places fu_reads fu_there fu_total fu_walked fu_edited fu_written fu_at fu_end fu_began fu_many au_text au_paths au_titles au_titleSize) → va_S A s.heap H locs → lv_has ls 4 [(0, .ref qu), (1, .int x1)] → W p l e rm_Mo_titled s m args below meth c H locs 0 0 QF (F0 m 2 ls [])) (x1 : Int32) (x2 : Int32) (H : Heap) (locs : List Loc) (ls : Array Slot), w_Mo_titled_86 Q K_2 fu_began fu_many au_text au_paths au_titles au_titleSize x1 x2 → va_P (dC, dI) cls (W_Mo_titled cI cC cB qu qu_text qu_paths qu_titles qu_titleSize qu_segments qu_names qu_nameSize qu_bases qu_length qu_links qu_from qu_to qu_steps qu_step qu_sideOf qu_within qu_read qu_cost qu_walk qu_edits qu_said fu_size fu_places fu_reads fu_there fu_total fu_walked fu_edited fu_written fu_at fu_end fu_began fu_many au_text au_paths au_titles au_titleSize) H → va_D A (W_Mo_titled cI cC cB qu qu_text qu_paths qu_titles qu_titleSize qu_segments qu_names qu_nameSize qu_bases qu_length qu_links qu_from qu_to qu_steps qu_step qu_sideOf qu_within qu_read qu_cost qu_walk qu_edits qu_said fu_size fu_places fu_reads fu_there fu_total fu_walked fu_edited fu_written fu_at fu_end fu_began fu_many au_text au_paths au_titles au_titleSize) → va_S A s.heap H locs → lv_has ls 4 [(0, .ref qu), (1, .int x1), (2, .int x2)] → W p l e rm_Mo_titled s m args below meth c H locs 0 0 QF (F0 m 86 ls []) := by
    intro K_2 hK_2 x1 x2 H locs ls h hP hD hS hl
    unfold w_Mo_titled_86 at h
    refine lv_iload_n hx hb d_Mo_titled_86 rfl (lv_at hl 2 rfl) ?_
    refine lv_if_eq (tgt := 92) hx hb d_Mo_titled_87 (by decide) (fun c_1 => ?_) (fun c_1 => ?_)
    · have h := h.1 c_1
      obtain ⟨x1_2, ex1_2⟩ : ∃ y : Int32, y = x1 + 1 := ⟨_, rfl⟩
      have h := h x1_2 ex1_2
      refine lv_iinc (v := x1_2) (lv' := [(1, .int x1_2), (0, .ref qu), (2, .int x2)]) hx hb d_Mo_titled_92 hl (k := 1) rfl (by rw [ex1_2]; rfl) (by decide) rfl (fun ls hl => ?_)
      refine lv_goto (tgt := 2) hx hb d_Mo_titled_95 (by decide) ?_
      exact hK_2 _ _ _ _ h hP hD hS (lv_sub hl [1, 0] rfl)
    · have h := h.2 c_1
      refine lv_iconst (v := 1) hx hb d_Mo_titled_90 (by decide) ?_
      exact hret () () 1 _ _ _ _ rfl h hP hD hS d_Mo_titled_91
  have blk_79 : ∀ (K_2 : Int32 → Prop) (hK_2 : ∀ (x1 : Int32) (H : Heap) (locs : List Loc) (ls : Array Slot), K_2 x1 → va_P (dC, dI) cls (W_Mo_titled cI cC cB qu qu_text qu_paths qu_titles qu_titleSize qu_segments qu_names qu_nameSize qu_bases qu_length qu_links qu_from qu_to qu_steps qu_step qu_sideOf qu_within qu_read qu_cost qu_walk qu_edits qu_said fu_size fu_places fu_reads fu_there fu_total fu_walked fu_edited fu_written fu_at fu_end fu_began fu_many au_text au_paths au_titles au_titleSize) H → va_D A (W_Mo_titled cI cC cB qu qu_text qu_paths qu_titles qu_titleSize qu_segments qu_names qu_nameSize qu_bases qu_length qu_links qu_from qu_to qu_steps qu_step qu_sideOf qu_within qu_read qu_cost qu_walk qu_edits qu_said fu_size fu_places fu_reads fu_there fu_total fu_walked fu_edited fu_written fu_at fu_end fu_began fu_many au_text au_paths au_titles au_titleSize) → va_S A s.heap H locs → lv_has ls 4 [(0, .ref qu), (1, .int x1)] → W p l e rm_Mo_titled s m args below meth c H locs 0 0 QF (F0 m 2 ls [])) (K_35 : Int32 → Int32 → Int32 → Prop) (hK_35 : ∀ (x1 : Int32) (x2 : Int32) (x3 : Int32) (H : Heap) (locs : List Loc) (ls : Array Slot), K_35 x1 x2 x3 → va_P (dC, dI) cls (W_Mo_titled cI cC cB qu qu_text qu_paths qu_titles qu_titleSize qu_segments qu_names qu_nameSize qu_bases qu_length qu_links qu_from qu_to qu_steps qu_step qu_sideOf qu_within qu_read qu_cost qu_walk qu_edits qu_said fu_size fu_places fu_reads fu_there fu_total fu_walked fu_edited fu_written fu_at fu_end fu_began fu_many au_text au_paths au_titles au_titleSize) H → va_D A (W_Mo_titled cI cC cB qu qu_text qu_paths qu_titles qu_titleSize qu_segments qu_names qu_nameSize qu_bases qu_length qu_links qu_from qu_to qu_steps qu_step qu_sideOf qu_within qu_read qu_cost qu_walk qu_edits qu_said fu_size fu_places fu_reads fu_there fu_total fu_walked fu_edited fu_written fu_at fu_end fu_began fu_many au_text au_paths au_titles au_titleSize) → va_S A s.heap H locs → lv_has ls 4 [(0, .ref qu), (1, .int x1), (2, .int x2), (3, .int x3)] → W p l e rm_Mo_titled s m args below meth c H locs 0 0 QF (F0 m 35 ls [])) (x1 : Int32) (x3 : Int32) (s0 : Int32) (H : Heap) (locs : List Loc) (ls : Array Slot), w_Mo_titled_79 Q K_2 K_35 fu_began fu_many au_text au_paths au_titles au_titleSize x1 x3 s0 → va_P (dC, dI) cls (W_Mo_titled cI cC cB qu qu_text qu_paths qu_titles qu_titleSize qu_segments qu_names qu_nameSize qu_bases qu_length qu_links qu_from qu_to qu_steps qu_step qu_sideOf qu_within qu_read qu_cost qu_walk qu_edits qu_said fu_size fu_places fu_reads fu_there fu_total fu_walked fu_edited fu_written fu_at fu_end fu_began fu_many au_text au_paths au_titles au_titleSize) H → va_D A (W_Mo_titled cI cC cB qu qu_text qu_paths qu_titles qu_titleSize qu_segments qu_names qu_nameSize qu_bases qu_length qu_links qu_from qu_to qu_steps qu_step qu_sideOf qu_within qu_read qu_cost qu_walk qu_edits qu_said fu_size fu_places fu_reads fu_there fu_total fu_walked fu_edited fu_written fu_at fu_end fu_began fu_many au_text au_paths au_titles au_titleSize) → va_S A s.heap H locs → lv_has ls 4 [(0, .ref qu), (1, .int x1), (3, .int x3)] → W p l e rm_Mo_titled s m args below meth c H locs 0 0 QF (F0 m 79 ls [.int s0]) := by
    intro K_2 hK_2 K_35 hK_35 x1 x3 s0 H locs ls h hP hD hS hl
    unfold w_Mo_titled_79 at h
    refine lv_istore_n (lv' := [(2, .int s0), (0, .ref qu), (1, .int x1), (3, .int x3)]) hx hb d_Mo_titled_79 rfl hl (by decide) rfl (fun ls hl => ?_)
    obtain ⟨x3_3, ex3_3⟩ : ∃ y : Int32, y = x3 + 1 := ⟨_, rfl⟩
    have h := h x3_3 ex3_3
    refine lv_iinc (v := x3_3) (lv' := [(3, .int x3_3), (2, .int s0), (0, .ref qu), (1, .int x1)]) hx hb d_Mo_titled_80 hl (k := 3) rfl (by rw [ex3_3]; rfl) (by decide) rfl (fun ls hl => ?_)
    refine lv_goto (tgt := 35) hx hb d_Mo_titled_83 (by decide) ?_
    exact hK_35 _ _ _ _ _ _ h hP hD hS (lv_sub hl [2, 3, 1, 0] rfl)
  have blk_35 : ∀ (K_2 : Int32 → Prop) (hK_2 : ∀ (x1 : Int32) (H : Heap) (locs : List Loc) (ls : Array Slot), K_2 x1 → va_P (dC, dI) cls (W_Mo_titled cI cC cB qu qu_text qu_paths qu_titles qu_titleSize qu_segments qu_names qu_nameSize qu_bases qu_length qu_links qu_from qu_to qu_steps qu_step qu_sideOf qu_within qu_read qu_cost qu_walk qu_edits qu_said fu_size fu_places fu_reads fu_there fu_total fu_walked fu_edited fu_written fu_at fu_end fu_began fu_many au_text au_paths au_titles au_titleSize) H → va_D A (W_Mo_titled cI cC cB qu qu_text qu_paths qu_titles qu_titleSize qu_segments qu_names qu_nameSize qu_bases qu_length qu_links qu_from qu_to qu_steps qu_step qu_sideOf qu_within qu_read qu_cost qu_walk qu_edits qu_said fu_size fu_places fu_reads fu_there fu_total fu_walked fu_edited fu_written fu_at fu_end fu_began fu_many au_text au_paths au_titles au_titleSize) → va_S A s.heap H locs → lv_has ls 4 [(0, .ref qu), (1, .int x1)] → W p l e rm_Mo_titled s m args below meth c H locs 0 0 QF (F0 m 2 ls [])) (n : Nat) (x1 : Int32) (x2 : Int32) (x3 : Int32) (H : Heap) (locs : List Loc) (ls : Array Slot), w_Mo_titled_35 Q K_2 fu_began fu_many au_text au_paths au_titles au_titleSize n x1 x2 x3 → va_P (dC, dI) cls (W_Mo_titled cI cC cB qu qu_text qu_paths qu_titles qu_titleSize qu_segments qu_names qu_nameSize qu_bases qu_length qu_links qu_from qu_to qu_steps qu_step qu_sideOf qu_within qu_read qu_cost qu_walk qu_edits qu_said fu_size fu_places fu_reads fu_there fu_total fu_walked fu_edited fu_written fu_at fu_end fu_began fu_many au_text au_paths au_titles au_titleSize) H → va_D A (W_Mo_titled cI cC cB qu qu_text qu_paths qu_titles qu_titleSize qu_segments qu_names qu_nameSize qu_bases qu_length qu_links qu_from qu_to qu_steps qu_step qu_sideOf qu_within qu_read qu_cost qu_walk qu_edits qu_said fu_size fu_places fu_reads fu_there fu_total fu_walked fu_edited fu_written fu_at fu_end fu_began fu_many au_text au_paths au_titles au_titleSize) → va_S A s.heap H locs → lv_has ls 4 [(0, .ref qu), (1, .int x1), (2, .int x2), (3, .int x3)] → W p l e rm_Mo_titled s m args below meth c H locs 0 0 QF (F0 m 35 ls []) := by
    intro K_2 hK_2 n
    induction n with
    | zero => intro x1 x2 x3 H locs ls h; exact (show False from h).elim
    | succ n ih =>
      intro x1 x2 x3 H locs ls h hP hD hS hl
      have h : w_Mo_titled_35B Q K_2 (w_Mo_titled_35 Q K_2 fu_began fu_many au_text au_paths au_titles au_titleSize n) fu_began fu_many au_text au_paths au_titles au_titleSize x1 x2 x3 := h
      generalize w_Mo_titled_35 Q K_2 fu_began fu_many au_text au_paths au_titles au_titleSize n = K_35 at h ih
      unfold w_Mo_titled_35B at h
      refine lv_iload_n hx hb d_Mo_titled_35 rfl (lv_at hl 3 rfl) ?_
      refine lv_aload_n hx hb d_Mo_titled_36 rfl (lv_at hl 0 rfl) ?_
      refine va_get (D := (dC, dI)) (ci := 6) (v := .int fu_many) (C := R_Mo) (T := T_Mo) (N := 33) hx hb hts in_Mo hown hK hP 0 rfl rfl 32 (by decide) (hts _ w_289) (fun _ h9 => h9) rfl d_Mo_titled_37 ?_
      refine lv_icmp_ge (tgt := 86) hx hb d_Mo_titled_40 (by decide) (fun c_4 => ?_) (fun c_4 => ?_)
      · have h := h.1 c_4
        exact blk_86 _ hK_2 _ _ _ _ _ h hP hD hS (lv_sub hl [0, 1, 2] rfl)
      · have h := h.2 c_4
        refine lv_iload_n hx hb d_Mo_titled_43 rfl (lv_at hl 2 rfl) ?_
        refine lv_if_eq (tgt := 86) hx hb d_Mo_titled_44 (by decide) (fun c_5 => ?_) (fun c_5 => ?_)
        · have h := h.1 c_5
          exact blk_86 _ hK_2 _ _ _ _ _ h hP hD hS (lv_sub hl [0, 1, 2] rfl)
        · have h := h.2 c_5
          refine lv_aload_n hx hb d_Mo_titled_47 rfl (lv_at hl 0 rfl) ?_
          refine va_get (D := (dC, dI)) (ci := 6) (v := .ref qu_titles) (C := R_Mo) (T := T_Mo) (N := 33) hx hb hts in_Mo hown hK hP 0 rfl rfl 11 (by decide) (hts _ w_316) (fun _ h9 => h9) rfl d_Mo_titled_48 ?_
          refine lv_bipush (v := 12) hx hb d_Mo_titled_51 (by decide) ?_
          refine lv_iconst (v := 3) hx hb d_Mo_titled_53 (by decide) ?_
          refine lv_iload_n hx hb d_Mo_titled_54 rfl (lv_at hl 1 rfl) ?_
          refine lv_imul hx hb d_Mo_titled_55 ?_
          refine lv_iadd hx hb d_Mo_titled_56 ?_
          refine lv_iload_n hx hb d_Mo_titled_57 rfl (lv_at hl 3 rfl) ?_
          refine lv_iadd hx hb d_Mo_titled_58 ?_
          refine lv_topi (fun x_6 ex_6 => ?_)
          have h := h x_6 ex_6
          have hi_7 := h.1
          have h := h.2
          refine va_cald hx hb hK hP 3 1 rfl rfl hi_7 d_Mo_titled_59 ?_
          refine lv_topi (fun y_8 ey_8 => ?_)
          have h := h y_8 ey_8
          refine lv_aload_n hx hb d_Mo_titled_60 rfl (lv_at hl 0 rfl) ?_
          refine va_get (D := (dC, dI)) (ci := 6) (v := .ref qu_text) (C := R_Mo) (T := T_Mo) (N := 33) hx hb hts in_Mo hown hK hP 0 rfl rfl 1 (by decide) (hts _ w_273) (fun _ h9 => h9) rfl d_Mo_titled_61 ?_
          refine lv_aload_n hx hb d_Mo_titled_64 rfl (lv_at hl 0 rfl) ?_
          refine va_get (D := (dC, dI)) (ci := 6) (v := .int fu_began) (C := R_Mo) (T := T_Mo) (N := 33) hx hb hts in_Mo hown hK hP 0 rfl rfl 31 (by decide) (hts _ w_288) (fun _ h9 => h9) rfl d_Mo_titled_65 ?_
          refine lv_iload_n hx hb d_Mo_titled_68 rfl (lv_at hl 3 rfl) ?_
          refine lv_iadd hx hb d_Mo_titled_69 ?_
          refine lv_topi (fun x_9 ex_9 => ?_)
          have h := h x_9 ex_9
          have hi_10 := h.1
          have h := h.2
          refine va_cald hx hb hK hP 1 1 rfl rfl hi_10 d_Mo_titled_70 ?_
          refine lv_topi (fun y_11 ey_11 => ?_)
          have h := h y_11 ey_11
          refine lv_icmp_ne (tgt := 78) hx hb d_Mo_titled_71 (by decide) (fun c_12 => ?_) (fun c_12 => ?_)
          · have h := h.2 c_12
            refine lv_iconst (v := 0) hx hb d_Mo_titled_78 (by decide) ?_
            exact blk_79 _ hK_2 _ ih _ _ _ _ _ _ h hP hD hS (lv_sub hl [0, 1, 3] rfl)
          · have h := h.1 c_12
            refine lv_iconst (v := 1) hx hb d_Mo_titled_74 (by decide) ?_
            refine lv_goto (tgt := 79) hx hb d_Mo_titled_75 (by decide) ?_
            exact blk_79 _ hK_2 _ ih _ _ _ _ _ _ h hP hD hS (lv_sub hl [0, 1, 3] rfl)
  have blk_32 : ∀ (K_2 : Int32 → Prop) (hK_2 : ∀ (x1 : Int32) (H : Heap) (locs : List Loc) (ls : Array Slot), K_2 x1 → va_P (dC, dI) cls (W_Mo_titled cI cC cB qu qu_text qu_paths qu_titles qu_titleSize qu_segments qu_names qu_nameSize qu_bases qu_length qu_links qu_from qu_to qu_steps qu_step qu_sideOf qu_within qu_read qu_cost qu_walk qu_edits qu_said fu_size fu_places fu_reads fu_there fu_total fu_walked fu_edited fu_written fu_at fu_end fu_began fu_many au_text au_paths au_titles au_titleSize) H → va_D A (W_Mo_titled cI cC cB qu qu_text qu_paths qu_titles qu_titleSize qu_segments qu_names qu_nameSize qu_bases qu_length qu_links qu_from qu_to qu_steps qu_step qu_sideOf qu_within qu_read qu_cost qu_walk qu_edits qu_said fu_size fu_places fu_reads fu_there fu_total fu_walked fu_edited fu_written fu_at fu_end fu_began fu_many au_text au_paths au_titles au_titleSize) → va_S A s.heap H locs → lv_has ls 4 [(0, .ref qu), (1, .int x1)] → W p l e rm_Mo_titled s m args below meth c H locs 0 0 QF (F0 m 2 ls [])) (x1 : Int32) (s0 : Int32) (H : Heap) (locs : List Loc) (ls : Array Slot), w_Mo_titled_32 Q K_2 fu_began fu_many au_text au_paths au_titles au_titleSize x1 s0 → va_P (dC, dI) cls (W_Mo_titled cI cC cB qu qu_text qu_paths qu_titles qu_titleSize qu_segments qu_names qu_nameSize qu_bases qu_length qu_links qu_from qu_to qu_steps qu_step qu_sideOf qu_within qu_read qu_cost qu_walk qu_edits qu_said fu_size fu_places fu_reads fu_there fu_total fu_walked fu_edited fu_written fu_at fu_end fu_began fu_many au_text au_paths au_titles au_titleSize) H → va_D A (W_Mo_titled cI cC cB qu qu_text qu_paths qu_titles qu_titleSize qu_segments qu_names qu_nameSize qu_bases qu_length qu_links qu_from qu_to qu_steps qu_step qu_sideOf qu_within qu_read qu_cost qu_walk qu_edits qu_said fu_size fu_places fu_reads fu_there fu_total fu_walked fu_edited fu_written fu_at fu_end fu_began fu_many au_text au_paths au_titles au_titleSize) → va_S A s.heap H locs → lv_has ls 4 [(0, .ref qu), (1, .int x1)] → W p l e rm_Mo_titled s m args below meth c H locs 0 0 QF (F0 m 32 ls [.int s0]) := by
    intro K_2 hK_2 x1 s0 H locs ls h hP hD hS hl
    unfold w_Mo_titled_32 at h
    refine lv_istore_n (lv' := [(2, .int s0), (0, .ref qu), (1, .int x1)]) hx hb d_Mo_titled_32 rfl hl (by decide) rfl (fun ls hl => ?_)
    refine lv_iconst (v := 0) hx hb d_Mo_titled_33 (by decide) ?_
    refine lv_istore_n (lv' := [(3, .int 0), (2, .int s0), (0, .ref qu), (1, .int x1)]) hx hb d_Mo_titled_34 rfl hl (by decide) rfl (fun ls hl => ?_)
    obtain ⟨fu_35, h⟩ := h
    exact blk_35 _ hK_2 _ _ _ _ _ _ _ h hP hD hS (lv_sub hl [2, 3, 1, 0] rfl)
  have blk_2 : ∀  (n : Nat) (x1 : Int32) (H : Heap) (locs : List Loc) (ls : Array Slot), w_Mo_titled_2 Q  fu_began fu_many au_text au_paths au_titles au_titleSize n x1 → va_P (dC, dI) cls (W_Mo_titled cI cC cB qu qu_text qu_paths qu_titles qu_titleSize qu_segments qu_names qu_nameSize qu_bases qu_length qu_links qu_from qu_to qu_steps qu_step qu_sideOf qu_within qu_read qu_cost qu_walk qu_edits qu_said fu_size fu_places fu_reads fu_there fu_total fu_walked fu_edited fu_written fu_at fu_end fu_began fu_many au_text au_paths au_titles au_titleSize) H → va_D A (W_Mo_titled cI cC cB qu qu_text qu_paths qu_titles qu_titleSize qu_segments qu_names qu_nameSize qu_bases qu_length qu_links qu_from qu_to qu_steps qu_step qu_sideOf qu_within qu_read qu_cost qu_walk qu_edits qu_said fu_size fu_places fu_reads fu_there fu_total fu_walked fu_edited fu_written fu_at fu_end fu_began fu_many au_text au_paths au_titles au_titleSize) → va_S A s.heap H locs → lv_has ls 4 [(0, .ref qu), (1, .int x1)] → W p l e rm_Mo_titled s m args below meth c H locs 0 0 QF (F0 m 2 ls []) := by
    intro  n
    induction n with
    | zero => intro x1 H locs ls h; exact (show False from h).elim
    | succ n ih =>
      intro x1 H locs ls h hP hD hS hl
      have h : w_Mo_titled_2B Q  (w_Mo_titled_2 Q  fu_began fu_many au_text au_paths au_titles au_titleSize n) fu_began fu_many au_text au_paths au_titles au_titleSize x1 := h
      generalize w_Mo_titled_2 Q  fu_began fu_many au_text au_paths au_titles au_titleSize n = K_2 at h ih
      unfold w_Mo_titled_2B at h
      refine lv_iload_n hx hb d_Mo_titled_2 rfl (lv_at hl 1 rfl) ?_
      refine lv_aload_n hx hb d_Mo_titled_3 rfl (lv_at hl 0 rfl) ?_
      refine va_get (D := (dC, dI)) (ci := 6) (v := .ref qu_paths) (C := R_Mo) (T := T_Mo) (N := 33) hx hb hts in_Mo hown hK hP 0 rfl rfl 10 (by decide) (hts _ w_283) (fun _ h9 => h9) rfl d_Mo_titled_4 ?_
      refine lv_iconst (v := 1) hx hb d_Mo_titled_7 (by decide) ?_
      have hi_13 := h.1
      have h := h.2
      refine va_iald hx hb hK hP 2 0 rfl rfl hi_13 d_Mo_titled_8 ?_
      refine lv_topi (fun y_14 ey_14 => ?_)
      have h := h y_14 ey_14
      refine lv_icmp_ge (tgt := 98) hx hb d_Mo_titled_9 (by decide) (fun c_15 => ?_) (fun c_15 => ?_)
      · have h := h.1 c_15
        refine lv_iconst (v := 0) hx hb d_Mo_titled_98 (by decide) ?_
        exact hret () () 0 _ _ _ _ rfl h hP hD hS d_Mo_titled_99
      · have h := h.2 c_15
        refine lv_aload_n hx hb d_Mo_titled_12 rfl (lv_at hl 0 rfl) ?_
        refine va_get (D := (dC, dI)) (ci := 6) (v := .ref qu_titleSize) (C := R_Mo) (T := T_Mo) (N := 33) hx hb hts in_Mo hown hK hP 0 rfl rfl 12 (by decide) (hts _ w_315) (fun _ h9 => h9) rfl d_Mo_titled_13 ?_
        refine lv_iconst (v := 4) hx hb d_Mo_titled_16 (by decide) ?_
        refine lv_iload_n hx hb d_Mo_titled_17 rfl (lv_at hl 1 rfl) ?_
        refine lv_iadd hx hb d_Mo_titled_18 ?_
        refine lv_topi (fun x_16 ex_16 => ?_)
        have h := h x_16 ex_16
        have hi_17 := h.1
        have h := h.2
        refine va_iald hx hb hK hP 4 0 rfl rfl hi_17 d_Mo_titled_19 ?_
        refine lv_topi (fun y_18 ey_18 => ?_)
        have h := h y_18 ey_18
        refine lv_aload_n hx hb d_Mo_titled_20 rfl (lv_at hl 0 rfl) ?_
        refine va_get (D := (dC, dI)) (ci := 6) (v := .int fu_many) (C := R_Mo) (T := T_Mo) (N := 33) hx hb hts in_Mo hown hK hP 0 rfl rfl 32 (by decide) (hts _ w_289) (fun _ h9 => h9) rfl d_Mo_titled_21 ?_
        refine lv_icmp_ne (tgt := 31) hx hb d_Mo_titled_24 (by decide) (fun c_19 => ?_) (fun c_19 => ?_)
        · have h := h.2 c_19
          refine lv_iconst (v := 0) hx hb d_Mo_titled_31 (by decide) ?_
          exact blk_32 _ ih _ _ _ _ _ h hP hD hS (lv_sub hl [0, 1] rfl)
        · have h := h.1 c_19
          refine lv_iconst (v := 1) hx hb d_Mo_titled_27 (by decide) ?_
          refine lv_goto (tgt := 32) hx hb d_Mo_titled_28 (by decide) ?_
          exact blk_32 _ ih _ _ _ _ _ h hP hD hS (lv_sub hl [0, 1] rfl)
  unfold wp_Mo_titled at h
  refine lv_iconst (v := 0) hx hb d_Mo_titled_0 (by decide) ?_
  refine lv_istore_n (lv' := [(1, .int 0), (0, .ref qu)]) hx hb d_Mo_titled_1 rfl hl (by decide) rfl (fun ls hl => ?_)
  obtain ⟨fu_2, h⟩ := h
  exact blk_2  _ _ _ _ _ h hP hD hS (lv_sub hl [1, 0] rfl)
