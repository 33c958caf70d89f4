abbrev W_Mo_eat (cI cC cB : ClassId) (qu : Nat) (qu_text : Nat) (qu_segments : Nat) (qu_names : Nat) (qu_nameSize : Nat) (qu_bases : Nat) (qu_length : Nat) (qu_links : Nat) (qu_from : Nat) (qu_to : Nat) (qu_paths : Nat) (qu_titles : Nat) (qu_titleSize : Nat) (qu_steps : Nat) (qu_step : Nat) (qu_sideOf : Nat) (qu_within : Nat) (qu_read : Nat) (qu_cost : Nat) (qu_walk : Nat) (qu_edits : Nat) (qu_said : Nat) (fu_size : Int32) (fu_places : Int32) (fu_reads : Int32) (fu_there : Int32) (fu_total : Int32) (fu_walked : Int32) (fu_edited : Int32) (fu_written : Int32) (fu_at : Int32) (fu_end : Int32) (fu_began : Int32) (fu_many : Int32) (au_text : Nat → Int32) : va_W := [(qu, .inr (6, [.int fu_size, .ref qu_text, .ref qu_segments, .ref qu_names, .ref qu_nameSize, .ref qu_bases, .ref qu_length, .ref qu_links, .ref qu_from, .ref qu_to, .ref qu_paths, .ref qu_titles, .ref qu_titleSize, .ref qu_steps, .ref qu_step, .int fu_places, .ref qu_sideOf, .ref qu_within, .int fu_reads, .ref qu_read, .ref qu_cost, .int fu_there, .int fu_total, .int fu_walked, .ref qu_walk, .int fu_edited, .ref qu_edits, .int fu_written, .ref qu_said, .int fu_at, .int fu_end, .int fu_began, .int fu_many])), (qu_text, .inl (cC, 400, .inl au_text))]
def wp_Mo_eat (Q : Int32 → Int32 → Prop) (p1 : Int32) (fu_at : Int32) (fu_end : Int32) (au_text : Nat → Int32) : Prop := ((fu_end ≤ fu_at → (Q 0 fu_at)) ∧ (¬ fu_end ≤ fu_at → (vp_in fu_at 400 ∧ (∀ y_3 : Int32, y_3 = au_text fu_at.toNatClampNeg → (((y_3 = p1 → (∀ x_5 : Int32, x_5 = fu_at + 1 → (Q 1 x_5))) ∧ (¬ y_3 = p1 → (Q 0 fu_at))))))))
abbrev rm_Mo_eat : Room := { frames := 0, cells := 0, slots := 0, locals := 0 }
set_option maxHeartbeats 4000000 in
set_option maxRecDepth 100000 in
theorem k_Mo_eat (l : Launch) (dC : Nat → ClassId) (dI : Nat → Nat → Nat) (cI cC cB : ClassId) (sz : Nat) (qu : Nat) (qu_text : Nat) (qu_segments : Nat) (qu_names : Nat) (qu_nameSize : Nat) (qu_bases : Nat) (qu_length : Nat) (qu_links : Nat) (qu_from : Nat) (qu_to : Nat) (qu_paths : Nat) (qu_titles : Nat) (qu_titleSize : Nat) (qu_steps : Nat) (qu_step : Nat) (qu_sideOf : Nat) (qu_within : Nat) (qu_read : Nat) (qu_cost : Nat) (qu_walk : Nat) (qu_edits : Nat) (qu_said : Nat) (fu_size : Int32) (fu_places : Int32) (fu_reads : Int32) (fu_there : Int32) (fu_total : Int32) (fu_walked : Int32) (fu_edited : Int32) (fu_written : Int32) (fu_at : Int32) (fu_end : Int32) (fu_began : Int32) (fu_many : Int32) (au_text : Nat → Int32) (p1 : Int32) {Q : Int32 → Int32 → Prop} (h : wp_Mo_eat Q p1 fu_at fu_end au_text) :
    CTi l y_Mo_eat (wM y_Mo_eat c_Mo_eat 2 (some .boolean)) rm_Mo_eat 0 0 (dC, dI) (tysL cI cC cB) [.ref qu, .int p1] (W_Mo_eat cI cC cB qu qu_text qu_segments qu_names qu_nameSize qu_bases qu_length qu_links qu_from qu_to qu_paths qu_titles qu_titleSize qu_steps qu_step qu_sideOf qu_within qu_read qu_cost qu_walk qu_edits qu_said fu_size fu_places fu_reads fu_there fu_total fu_walked fu_edited fu_written fu_at fu_end fu_began fu_many au_text) sz Q (fun (v : Int32) (b : Unit) => (W_Mo_eat cI cC cB qu qu_text qu_segments qu_names qu_nameSize qu_bases qu_length qu_links qu_from qu_to qu_paths qu_titles qu_titleSize qu_steps qu_step qu_sideOf qu_within qu_read qu_cost qu_walk qu_edits qu_said fu_size fu_places fu_reads fu_there fu_total fu_walked fu_edited fu_written v fu_end fu_began fu_many au_text)) := by
  refine CTi.std (by decide) (Nat.le_of_ble_eq_true rfl) ?_
  intro p e s m args below meth c A ls QF C0 hP hD hl hS hsz hnm hret
  obtain ⟨hx, hb, hr, hml, hown, hts, hlocks, hN, hA, hK⟩ := id C0
  have hown : s.vm.findClass R_Mo = some m.cls := hown
  have hl : lv_has ls 2 [(0, .ref qu), (1, .int p1)] := hl
  clear hsz hnm
  unfold wp_Mo_eat at h
  refine lv_aload_n hx hb d_Mo_eat_0 rfl (lv_at hl 0 rfl) ?_
  refine va_get (D := (dC, dI)) (ci := 6) (v := .int fu_at) (C := R_Mo) (T := T_Mo) (N := 33) hx hb hts in_Mo hown hK hP 0 rfl rfl 29 (by decide) (hts _ w_411) (fun _ h9 => h9) rfl d_Mo_eat_1 ?_
  refine lv_aload_n hx hb d_Mo_eat_4 rfl (lv_at hl 0 rfl) ?_
  refine va_get (D := (dC, dI)) (ci := 6) (v := .int fu_end) (C := R_Mo) (T := T_Mo) (N := 33) hx hb hts in_Mo hown hK hP 0 rfl rfl 30 (by decide) (hts _ w_412) (fun _ h9 => h9) rfl d_Mo_eat_5 ?_
  refine lv_icmp_ge (tgt := 24) hx hb d_Mo_eat_8 (by decide) (fun c_1 => ?_) (fun c_1 => ?_)
  · have h := h.1 c_1
    refine lv_iconst (v := 0) hx hb d_Mo_eat_24 (by decide) ?_
    exact hret fu_at () 0 _ _ _ _ rfl h hP hD hS d_Mo_eat_25
  · have h := h.2 c_1
    refine lv_aload_n hx hb d_Mo_eat_11 rfl (lv_at hl 0 rfl) ?_
    refine va_get (D := (dC, dI)) (ci := 6) (v := .ref qu_text) (C := R_Mo) (T := T_Mo) (N := 33) hx hb hts in_Mo hown hK hP 0 rfl rfl 1 (by decide) (hts _ w_410) (fun _ h9 => h9) rfl d_Mo_eat_12 ?_
    refine lv_aload_n hx hb d_Mo_eat_15 rfl (lv_at hl 0 rfl) ?_
    refine va_get (D := (dC, dI)) (ci := 6) (v := .int fu_at) (C := R_Mo) (T := T_Mo) (N := 33) hx hb hts in_Mo hown hK hP 0 rfl rfl 29 (by decide) (hts _ w_411) (fun _ h9 => h9) rfl d_Mo_eat_16 ?_
    have hi_2 := h.1
    have h := h.2
    refine va_cald hx hb hK hP 1 1 rfl rfl hi_2 d_Mo_eat_19 ?_
    refine lv_topi (fun y_3 ey_3 => ?_)
    have h := h y_3 ey_3
    refine lv_iload_n hx hb d_Mo_eat_20 rfl (lv_at hl 1 rfl) ?_
    refine lv_icmp_eq (tgt := 26) hx hb d_Mo_eat_21 (by decide) (fun c_4 => ?_) (fun c_4 => ?_)
    · have h := h.1 c_4
      refine lv_aload_n hx hb d_Mo_eat_26 rfl (lv_at hl 0 rfl) ?_
      refine lv_dup hx hb d_Mo_eat_27 rfl ?_
      refine va_get (D := (dC, dI)) (ci := 6) (v := .int fu_at) (C := R_Mo) (T := T_Mo) (N := 33) hx hb hts in_Mo hown hK hP 0 rfl rfl 29 (by decide) (hts _ w_411) (fun _ h9 => h9) rfl d_Mo_eat_28 ?_
      refine lv_iconst (v := 1) hx hb d_Mo_eat_31 (by decide) ?_
      refine lv_iadd hx hb d_Mo_eat_32 ?_
      refine lv_topi (fun x_5 ex_5 => ?_)
      have h := h x_5 ex_5
      refine va_put (D := (dC, dI)) (ci := 6) (v := .int x_5) (ty := .int) (C := R_Mo) (T := T_Mo) (N := 33) hx hb hts in_Mo t_Mo t_Mo_ok n_Mo hown hK hP hD hS 0 rfl rfl 29 (by decide) (hts _ w_411) (fun _ h9 => h9) rfl (by decide +kernel) rfl rfl (Nat.le_of_ble_eq_true rfl) d_Mo_eat_33 (fun H locs hP hD hS => ?_)
      have hP : va_P (dC, dI) cls (W_Mo_eat cI cC cB qu qu_text qu_segments qu_names qu_nameSize qu_bases qu_length qu_links qu_from qu_to qu_paths qu_titles qu_titleSize qu_steps qu_step qu_sideOf qu_within qu_read qu_cost qu_walk qu_edits qu_said fu_size fu_places fu_reads fu_there fu_total fu_walked fu_edited fu_written x_5 fu_end fu_began fu_many au_text) H := hP
      have hD : va_D A (W_Mo_eat cI cC cB qu qu_text qu_segments qu_names qu_nameSize qu_bases qu_length qu_links qu_from qu_to qu_paths qu_titles qu_titleSize qu_steps qu_step qu_sideOf qu_within qu_read qu_cost qu_walk qu_edits qu_said fu_size fu_places fu_reads fu_there fu_total fu_walked fu_edited fu_written x_5 fu_end fu_began fu_many au_text) := hD
      refine lv_iconst (v := 1) hx hb d_Mo_eat_36 (by decide) ?_
      exact hret x_5 () 1 _ _ _ _ rfl h hP hD hS d_Mo_eat_37
    · have h := h.2 c_4
      refine lv_iconst (v := 0) hx hb d_Mo_eat_24 (by decide) ?_
      exact hret fu_at () 0 _ _ _ _ rfl h hP hD hS d_Mo_eat_25
def w_Mo_inName_24 (Q : Int32 → Unit → Prop)    : Prop := Q 1 ()
def w_Mo_inName_12 (Q : Int32 → Unit → Prop)  (p0 : Int32)  : Prop := ((p0 < 48 → (Q 0 ())) ∧ (¬ p0 < 48 → (((57 < p0 → (Q 0 ())) ∧ (¬ 57 < p0 → (w_Mo_inName_24 Q  ))))))
def wp_Mo_inName (Q : Int32 → Unit → Prop) (p0 : Int32)  : Prop := ((p0 < 97 → (w_Mo_inName_12 Q p0 )) ∧ (¬ p0 < 97 → (((p0 ≤ 122 → (w_Mo_inName_24 Q  )) ∧ (¬ p0 ≤ 122 → (w_Mo_inName_12 Q p0 ))))))
abbrev rm_Mo_inName : Room := { frames := 0, cells := 0, slots := 0, locals := 0 }
set_option maxHeartbeats 4000000 in
set_option maxRecDepth 100000 in
theorem k_Mo_inName (l : Launch) (dC : Nat → ClassId) (dI : Nat → Nat → Nat) (cI cC cB : ClassId) (sz : Nat)   (p0 : Int32) {Q : Int32 → Unit → Prop} (h : wp_Mo_inName Q p0 ) :
    CTi l y_Mo_inName (wM y_Mo_inName c_Mo_inName 1 (some .boolean)) rm_Mo_inName 0 0 (dC, dI) (tysL cI cC cB) [.int p0] [] sz Q (fun (v : Unit) (b : Unit) => []) := by
  refine CTi.std (by decide) (Nat.le_of_ble_eq_true rfl) ?_
  intro p e s m args below meth c A ls QF C0 hP hD hl hS hsz hnm hret
  obtain ⟨hx, hb, hr, hml, hown, hts, hlocks, hN, hA, hK⟩ := id C0
  have hown : s.vm.findClass R_Mo = some m.cls := hown
  have hl : lv_has ls 1 [(0, .int p0)] := hl
  clear hsz hnm
  have blk_24 : ∀    (H : Heap) (locs : List Loc) (ls : Array Slot), w_Mo_inName_24 Q    → va_P (dC, dI) cls [] H → va_D A [] → va_S A s.heap H locs → lv_has ls 1 [] → W p l e rm_Mo_inName s m args below meth c H locs 0 0 QF (F0 m 24 ls []) := by
    intro    H locs ls h hP hD hS hl
    unfold w_Mo_inName_24 at h
    refine lv_iconst (v := 1) hx hb d_Mo_inName_24 (by decide) ?_
    refine lv_goto (tgt := 29) hx hb d_Mo_inName_25 (by decide) ?_
    exact hret () () 1 _ _ _ _ rfl h hP hD hS d_Mo_inName_29
  have blk_12 : ∀    (H : Heap) (locs : List Loc) (ls : Array Slot), w_Mo_inName_12 Q  p0  → va_P (dC, dI) cls [] H → va_D A [] → va_S A s.heap H locs → lv_has ls 1 [(0, .int p0)] → W p l e rm_Mo_inName s m args below meth c H locs 0 0 QF (F0 m 12 ls []) := by
    intro    H locs ls h hP hD hS hl
    unfold w_Mo_inName_12 at h
    refine lv_iload_n hx hb d_Mo_inName_12 rfl (lv_at hl 0 rfl) ?_
    refine lv_bipush (v := 48) hx hb d_Mo_inName_13 (by decide) ?_
    refine lv_icmp_lt (tgt := 28) hx hb d_Mo_inName_15 (by decide) (fun c_1 => ?_) (fun c_1 => ?_)
    · have h := h.1 c_1
      refine lv_iconst (v := 0) hx hb d_Mo_inName_28 (by decide) ?_
      exact hret () () 0 _ _ _ _ rfl h hP hD hS d_Mo_inName_29
    · have h := h.2 c_1
      refine lv_iload_n hx hb d_Mo_inName_18 rfl (lv_at hl 0 rfl) ?_
      refine lv_bipush (v := 57) hx hb d_Mo_inName_19 (by decide) ?_
      refine lv_icmp_gt (tgt := 28) hx hb d_Mo_inName_21 (by decide) (fun c_2 => ?_) (fun c_2 => ?_)
      · have h := h.1 c_2
        refine lv_iconst (v := 0) hx hb d_Mo_inName_28 (by decide) ?_
        exact hret () () 0 _ _ _ _ rfl h hP hD hS d_Mo_inName_29
      · have h := h.2 c_2
        exact blk_24  _ _ _ h hP hD hS (lv_sub hl [] rfl)
  unfold wp_Mo_inName at h
  refine lv_iload_n hx hb d_Mo_inName_0 rfl (lv_at hl 0 rfl) ?_
  refine lv_bipush (v := 97) hx hb d_Mo_inName_1 (by decide) ?_
  refine lv_icmp_lt (tgt := 12) hx hb d_Mo_inName_3 (by decide) (fun c_3 => ?_) (fun c_3 => ?_)
  · have h := h.1 c_3
    exact blk_12  _ _ _ h hP hD hS (lv_sub hl [0] rfl)
  · have h := h.2 c_3
    refine lv_iload_n hx hb d_Mo_inName_6 rfl (lv_at hl 0 rfl) ?_
    refine lv_bipush (v := 122) hx hb d_Mo_inName_7 (by decide) ?_
    refine lv_icmp_le (tgt := 24) hx hb d_Mo_inName_9 (by decide) (fun c_4 => ?_) (fun c_4 => ?_)
    · have h := h.1 c_4
      exact blk_24  _ _ _ h hP hD hS (lv_sub hl [] rfl)
    · have h := h.2 c_4
      exact blk_12  _ _ _ h hP hD hS (lv_sub hl [0] rfl)
abbrev W_Mo_eatName (cI cC cB : ClassId) (qu : Nat) (qu_text : Nat) (qu_segments : Nat) (qu_names : Nat) (qu_nameSize : Nat) (qu_bases : Nat) (qu_length : Nat) (qu_links : Nat) (qu_from : Nat) (qu_to : Nat) (qu_paths : Nat) (qu_titles : Nat) (qu_titleSize : Nat) (qu_steps : Nat) (qu_step : Nat) (qu_sideOf : Nat) (qu_within : Nat) (qu_read : Nat) (qu_cost : Nat) (qu_walk : Nat) (qu_edits : Nat) (qu_said : Nat) (fu_size : Int32) (fu_places : Int32) (fu_reads : Int32) (fu_there : Int32) (fu_total : Int32) (fu_walked : Int32) (fu_edited : Int32) (fu_written : Int32) (fu_at : Int32) (fu_end : Int32) (fu_began : Int32) (fu_many : Int32) (au_text : Nat → Int32) : va_W := [(qu, .inr (6, [.int fu_size, .ref qu_text, .ref qu_segments, .ref qu_names, .ref qu_nameSize, .ref qu_bases, .ref qu_length, .ref qu_links, .ref qu_from, .ref qu_to, .ref qu_paths, .ref qu_titles, .ref qu_titleSize, .ref qu_steps, .ref qu_step, .int fu_places, .ref qu_sideOf, .ref qu_within, .int fu_reads, .ref qu_read, .ref qu_cost, .int fu_there, .int fu_total, .int fu_walked, .ref qu_walk, .int fu_edited, .ref qu_edits, .int fu_written, .ref qu_said, .int fu_at, .int fu_end, .int fu_began, .int fu_many])), (qu_text, .inl (cC, 400, .inl au_text))]
def w_Mo_eatName_47 (Q : Int32 → (Int32 × Int32 × Int32) → Prop)  (fu_end : Int32) (au_text : Nat → Int32) (fu_at : Int32) (fu_began : Int32) (fu_many : Int32) : Prop := ∀ x_1 : Int32, x_1 = fu_at - fu_began → (((x_1 < 1 → (Q 0 (fu_at, fu_began, x_1))) ∧ (¬ x_1 < 1 → (((3 < x_1 → (Q 0 (fu_at, fu_began, x_1))) ∧ (¬ 3 < x_1 → (Q 1 (fu_at, fu_began, x_1))))))))
def w_Mo_eatName_8B (Q : Int32 → (Int32 × Int32 × Int32) → Prop)  (K_8 : Int32 → Int32 → Int32 → Prop) (fu_end : Int32) (au_text : Nat → Int32) (fu_at : Int32) (fu_began : Int32) (fu_many : Int32) : Prop := ((fu_end ≤ fu_at → (w_Mo_eatName_47 Q fu_end au_text fu_at fu_began fu_many)) ∧ (¬ fu_end ≤ fu_at → (vp_in fu_at 400 ∧ (∀ y_6 : Int32, y_6 = au_text fu_at.toNatClampNeg → (wp_Mo_inName (fun r_8 v_7 => ((r_8 = 0 → (w_Mo_eatName_47 Q fu_end au_text fu_at fu_began fu_many)) ∧ (¬ r_8 = 0 → (∀ x_10 : Int32, x_10 = fu_at + 1 → (K_8 x_10 fu_began fu_many))))) y_6)))))
def w_Mo_eatName_8 (Q : Int32 → (Int32 × Int32 × Int32) → Prop)  (fu_end : Int32) (au_text : Nat → Int32) : Nat → Int32 → Int32 → Int32 → Prop
  | 0 => fun _ _ _ => False
  | n + 1 => fun fu_at fu_began fu_many => w_Mo_eatName_8B Q  (w_Mo_eatName_8 Q  fu_end au_text n) fu_end au_text fu_at fu_began fu_many
def wp_Mo_eatName (Q : Int32 → (Int32 × Int32 × Int32) → Prop)  (fu_at : Int32) (fu_end : Int32) (fu_began : Int32) (fu_many : Int32) (au_text : Nat → Int32) : Prop := ∃ fu_8 : Nat, w_Mo_eatName_8 Q fu_end au_text fu_8 fu_at fu_at fu_many
abbrev rm_Mo_eatName : Room := { frames := 1, cells := 0, slots := 0, locals := 20 }
set_option maxHeartbeats 4000000 in
set_option maxRecDepth 100000 in
theorem k_Mo_eatName (l : Launch) (dC : Nat → ClassId) (dI : Nat → Nat → Nat) (cI cC cB : ClassId) (sz : Nat) (qu : Nat) (qu_text : Nat) (qu_segments : Nat) (qu_names : Nat) (qu_nameSize : Nat) (qu_bases : Nat) (qu_length : Nat) (qu_links : Nat) (qu_from : Nat) (qu_to : Nat) (qu_paths : Nat) (qu_titles : Nat) (qu_titleSize : Nat) (qu_steps : Nat) (qu_step : Nat) (qu_sideOf : Nat) (qu_within : Nat) (qu_read : Nat) (qu_cost : Nat) (qu_walk : Nat) (qu_edits : Nat) (qu_said : Nat) (fu_size : Int32) (fu_places : Int32) (fu_reads : Int32) (fu_there : Int32) (fu_total : Int32) (fu_walked : Int32) (fu_edited : Int32) (fu_written : Int32) (fu_at : Int32) (fu_end : Int32) (fu_began : Int32) (fu_many : Int32) (au_text : Nat → Int32)  {Q : Int32 → (Int32 × Int32 × Int32) → Prop} (h : wp_Mo_eatName Q  fu_at fu_end fu_began fu_many au_text) :
    CTi l y_Mo_eatName (wM y_Mo_eatName c_Mo_eatName 1 (some .boolean)) rm_Mo_eatName 0 0 (dC, dI) (tysL cI cC cB) [.ref qu] (W_Mo_eatName cI cC cB qu qu_text qu_segments qu_names qu_nameSize qu_bases qu_length qu_links qu_from qu_to qu_paths qu_titles qu_titleSize qu_steps qu_step qu_sideOf qu_within qu_read qu_cost qu_walk qu_edits qu_said fu_size fu_places fu_reads fu_there fu_total fu_walked fu_edited fu_written fu_at fu_end fu_began fu_many au_text) sz Q (fun (v : Int32 × Int32 × Int32) (b : Unit) => (W_Mo_eatName cI cC cB qu qu_text qu_segments qu_names qu_nameSize qu_bases qu_length qu_links qu_from qu_to qu_paths qu_titles qu_titleSize qu_steps qu_step qu_sideOf qu_within qu_read qu_cost qu_walk qu_edits qu_said fu_size fu_places fu_reads fu_there fu_total fu_walked fu_edited fu_written v.1 fu_end v.2.1 v.2.2 au_text)) := by
  refine CTi.std (by decide) (Nat.le_of_ble_eq_true rfl) ?_
  intro p e s m args below meth c A ls QF C0 hP hD hl hS hsz hnm hret
  obtain ⟨hx, hb, hr, hml, hown, hts, hlocks, hN, hA, hK⟩ := id C0
  have hown : s.vm.findClass R_Mo = some m.cls := hown
  have hl : lv_has ls 1 [(0, .ref qu)] := hl
  clear hsz hnm
  have blk_47 : ∀  (fu_at : Int32) (fu_began : Int32) (fu_many : Int32)  (H : Heap) (locs : List Loc) (ls : Array Slot), w_Mo_eatName_47 Q  fu_end au_text fu_at fu_began fu_many → va_P (dC, dI) cls (W_Mo_eatName cI cC cB qu qu_text qu_segments qu_names qu_nameSize qu_bases qu_length qu_links qu_from qu_to qu_paths qu_titles qu_titleSize qu_steps qu_step qu_sideOf qu_within qu_read qu_cost qu_walk qu_edits qu_said fu_size fu_places fu_reads fu_there fu_total fu_walked fu_edited fu_written fu_at fu_end fu_began fu_many au_text) H → va_D A (W_Mo_eatName cI cC cB qu qu_text qu_segments qu_names qu_nameSize qu_bases qu_length qu_links qu_from qu_to qu_paths qu_titles qu_titleSize qu_steps qu_step qu_sideOf qu_within qu_read qu_cost qu_walk qu_edits qu_said fu_size fu_places fu_reads fu_there fu_total fu_walked fu_edited fu_written fu_at fu_end fu_began fu_many au_text) → va_S A s.heap H locs → lv_has ls 1 [(0, .ref qu)] → W p l e rm_Mo_eatName s m args below meth c H locs 0 0 QF (F0 m 47 ls []) := by
    intro  fu_at fu_began fu_many  H locs ls h hP hD hS hl
    unfold w_Mo_eatName_47 at h
    refine lv_aload_n hx hb d_Mo_eatName_47 rfl (lv_at hl 0 rfl) ?_
    refine lv_aload_n hx hb d_Mo_eatName_48 rfl (lv_at hl 0 rfl) ?_
    refine va_get (D := (dC, dI)) (ci := 6) (v := .int fu_at) (C := R_Mo) (T := T_Mo) (N := 33) hx hb hts in_Mo hown hK hP 0 rfl rfl 29 (by decide) (hts _ w_411) (fun _ h9 => h9) rfl d_Mo_eatName_49 ?_
    refine lv_aload_n hx hb d_Mo_eatName_52 rfl (lv_at hl 0 rfl) ?_
    refine va_get (D := (dC, dI)) (ci := 6) (v := .int fu_began) (C := R_Mo) (T := T_Mo) (N := 33) hx hb hts in_Mo hown hK hP 0 rfl rfl 31 (by decide) (hts _ w_425) (fun _ h9 => h9) rfl d_Mo_eatName_53 ?_
    refine lv_isub hx hb d_Mo_eatName_56 ?_
    refine lv_topi (fun x_1 ex_1 => ?_)
    have h := h x_1 ex_1
    refine va_put (D := (dC, dI)) (ci := 6) (v := .int x_1) (ty := .int) (C := R_Mo) (T := T_Mo) (N := 33) hx hb hts in_Mo t_Mo t_Mo_ok n_Mo hown hK hP hD hS 0 rfl rfl 32 (by decide) (hts _ w_426) (fun _ h9 => h9) rfl (by decide +kernel) rfl rfl (Nat.le_of_ble_eq_true rfl) d_Mo_eatName_57 (fun H locs hP hD hS => ?_)
    have hP : va_P (dC, dI) cls (W_Mo_eatName cI cC cB qu qu_text qu_segments qu_names qu_nameSize qu_bases qu_length qu_links qu_from qu_to qu_paths qu_titles qu_titleSize qu_steps qu_step qu_sideOf qu_within qu_read qu_cost qu_walk qu_edits qu_said fu_size fu_places fu_reads fu_there fu_total fu_walked fu_edited fu_written fu_at fu_end fu_began x_1 au_text) H := hP
    have hD : va_D A (W_Mo_eatName cI cC cB qu qu_text qu_segments qu_names qu_nameSize qu_bases qu_length qu_links qu_from qu_to qu_paths qu_titles qu_titleSize qu_steps qu_step qu_sideOf qu_within qu_read qu_cost qu_walk qu_edits qu_said fu_size fu_places fu_reads fu_there fu_total fu_walked fu_edited fu_written fu_at fu_end fu_began x_1 au_text) := hD
    refine lv_aload_n hx hb d_Mo_eatName_60 rfl (lv_at hl 0 rfl) ?_
    refine va_get (D := (dC, dI)) (ci := 6) (v := .int x_1) (C := R_Mo) (T := T_Mo) (N := 33) hx hb hts in_Mo hown hK hP 0 rfl rfl 32 (by decide) (hts _ w_426) (fun _ h9 => h9) rfl d_Mo_eatName_61 ?_
    refine lv_iconst (v := 1) hx hb d_Mo_eatName_64 (by decide) ?_
    refine lv_icmp_lt (tgt := 80) hx hb d_Mo_eatName_65 (by decide) (fun c_2 => ?_) (fun c_2 => ?_)
    · have h := h.1 c_2
      refine lv_iconst (v := 0) hx hb d_Mo_eatName_80 (by decide) ?_
      exact hret (fu_at, fu_began, x_1) () 0 _ _ _ _ rfl h hP hD hS d_Mo_eatName_81
    · have h := h.2 c_2
      refine lv_aload_n hx hb d_Mo_eatName_68 rfl (lv_at hl 0 rfl) ?_
      refine va_get (D := (dC, dI)) (ci := 6) (v := .int x_1) (C := R_Mo) (T := T_Mo) (N := 33) hx hb hts in_Mo hown hK hP 0 rfl rfl 32 (by decide) (hts _ w_426) (fun _ h9 => h9) rfl d_Mo_eatName_69 ?_
      refine lv_iconst (v := 3) hx hb d_Mo_eatName_72 (by decide) ?_
      refine lv_icmp_gt (tgt := 80) hx hb d_Mo_eatName_73 (by decide) (fun c_3 => ?_) (fun c_3 => ?_)
      · have h := h.1 c_3
        refine lv_iconst (v := 0) hx hb d_Mo_eatName_80 (by decide) ?_
        exact hret (fu_at, fu_began, x_1) () 0 _ _ _ _ rfl h hP hD hS d_Mo_eatName_81
      · have h := h.2 c_3
        refine lv_iconst (v := 1) hx hb d_Mo_eatName_76 (by decide) ?_
        refine lv_goto (tgt := 81) hx hb d_Mo_eatName_77 (by decide) ?_
        exact hret (fu_at, fu_began, x_1) () 1 _ _ _ _ rfl h hP hD hS d_Mo_eatName_81
  have blk_8 : ∀  (n : Nat) (fu_at : Int32) (fu_began : Int32) (fu_many : Int32)  (H : Heap) (locs : List Loc) (ls : Array Slot), w_Mo_eatName_8 Q  fu_end au_text n fu_at fu_began fu_many → va_P (dC, dI) cls (W_Mo_eatName cI cC cB qu qu_text qu_segments qu_names qu_nameSize qu_bases qu_length qu_links qu_from qu_to qu_paths qu_titles qu_titleSize qu_steps qu_step qu_sideOf qu_within qu_read qu_cost qu_walk qu_edits qu_said fu_size fu_places fu_reads fu_there fu_total fu_walked fu_edited fu_written fu_at fu_end fu_began fu_many au_text) H → va_D A (W_Mo_eatName cI cC cB qu qu_text qu_segments qu_names qu_nameSize qu_bases qu_length qu_links qu_from qu_to qu_paths qu_titles qu_titleSize qu_steps qu_step qu_sideOf qu_within qu_read qu_cost qu_walk qu_edits qu_said fu_size fu_places fu_reads fu_there fu_total fu_walked fu_edited fu_written fu_at fu_end fu_began fu_many au_text) → va_S A s.heap H locs → lv_has ls 1 [(0, .ref qu)] → W p l e rm_Mo_eatName s m args below meth c H locs 0 0 QF (F0 m 8 ls []) := by
    intro  n
    induction n with
    | zero => intro fu_at fu_began fu_many  H locs ls h; exact (show False from h).elim
    | succ n ih =>
      intro fu_at fu_began fu_many  H locs ls h hP hD hS hl
      have h : w_Mo_eatName_8B Q  (w_Mo_eatName_8 Q  fu_end au_text n) fu_end au_text fu_at fu_began fu_many := h
      generalize w_Mo_eatName_8 Q  fu_end au_text n = K_8 at h ih
      unfold w_Mo_eatName_8B at h
      refine lv_aload_n hx hb d_Mo_eatName_8 rfl (lv_at hl 0 rfl) ?_
      refine va_get (D := (dC, dI)) (ci := 6) (v := .int fu_at) (C := R_Mo) (T := T_Mo) (N := 33) hx hb hts in_Mo hown hK hP 0 rfl rfl 29 (by decide) (hts _ w_411) (fun _ h9 => h9) rfl d_Mo_eatName_9 ?_
      refine lv_aload_n hx hb d_Mo_eatName_12 rfl (lv_at hl 0 rfl) ?_
      refine va_get (D := (dC, dI)) (ci := 6) (v := .int fu_end) (C := R_Mo) (T := T_Mo) (N := 33) hx hb hts in_Mo hown hK hP 0 rfl rfl 30 (by decide) (hts _ w_412) (fun _ h9 => h9) rfl d_Mo_eatName_13 ?_
      refine lv_icmp_ge (tgt := 47) hx hb d_Mo_eatName_16 (by decide) (fun c_4 => ?_) (fun c_4 => ?_)
      · have h := h.1 c_4
        exact blk_47  _ _ _ _ _ _ h hP hD hS (lv_sub hl [0] rfl)
      · have h := h.2 c_4
        refine lv_aload_n hx hb d_Mo_eatName_19 rfl (lv_at hl 0 rfl) ?_
        refine va_get (D := (dC, dI)) (ci := 6) (v := .ref qu_text) (C := R_Mo) (T := T_Mo) (N := 33) hx hb hts in_Mo hown hK hP 0 rfl rfl 1 (by decide) (hts _ w_410) (fun _ h9 => h9) rfl d_Mo_eatName_20 ?_
        refine lv_aload_n hx hb d_Mo_eatName_23 rfl (lv_at hl 0 rfl) ?_
        refine va_get (D := (dC, dI)) (ci := 6) (v := .int fu_at) (C := R_Mo) (T := T_Mo) (N := 33) hx hb hts in_Mo hown hK hP 0 rfl rfl 29 (by decide) (hts _ w_411) (fun _ h9 => h9) rfl d_Mo_eatName_24 ?_
        have hi_5 := h.1
        have h := h.2
        refine va_cald hx hb hK hP 1 1 rfl rfl hi_5 d_Mo_eatName_27 ?_
        refine lv_topi (fun y_6 ey_6 => ?_)
        have h := h y_6 ey_6
        refine call_S_i (As := [.int y_6]) (rest := []) C0 hP hD hS [] [0, 1] [0, 1] [(qu, .inr (6, [.int fu_size, .ref qu_text, .ref qu_segments, .ref qu_names, .ref qu_nameSize, .ref qu_bases, .ref qu_length, .ref qu_links, .ref qu_from, .ref qu_to, .ref qu_paths, .ref qu_titles, .ref qu_titleSize, .ref qu_steps, .ref qu_step, .int fu_places, .ref qu_sideOf, .ref qu_within, .int fu_reads, .ref qu_read, .ref qu_cost, .int fu_there, .int fu_total, .int fu_walked, .ref qu_walk, .int fu_edited, .ref qu_edits, .int fu_written, .ref qu_said, .int fu_at, .int fu_end, .int fu_began, .int fu_many])), (qu_text, .inl (cC, 400, .inl au_text))] (fun (v : Unit) (b : Unit) => (W_Mo_eatName cI cC cB qu qu_text qu_segments qu_names qu_nameSize qu_bases qu_length qu_links qu_from qu_to qu_paths qu_titles qu_titleSize qu_steps qu_step qu_sideOf qu_within qu_read qu_cost qu_walk qu_edits qu_said fu_size fu_places fu_reads fu_there fu_total fu_walked fu_edited fu_written fu_at fu_end fu_began fu_many au_text)) (k_Mo_inName l dC dI cI cC cB _ y_6 h) (g_S w_428 w_429 w_418 w_427) 1 rfl (by decide +kernel) rfl rfl ⟨Nat.le_of_ble_eq_true rfl, Nat.le_of_ble_eq_true rfl⟩ rfl rfl (by decide) (by decide) (by decide) (by decide) (fun _ _ => rfl) hl.1 rfl (Nat.le_of_ble_eq_true rfl) d_Mo_eatName_28 ⟨Nat.le_of_ble_eq_true rfl, Nat.le_of_ble_eq_true rfl⟩ (fun r_8 v_7 _ H locs h hP hD hS => ?_)
        have hP : va_P (dC, dI) cls (W_Mo_eatName cI cC cB qu qu_text qu_segments qu_names qu_nameSize qu_bases qu_length qu_links qu_from qu_to qu_paths qu_titles qu_titleSize qu_steps qu_step qu_sideOf qu_within qu_read qu_cost qu_walk qu_edits qu_said fu_size fu_places fu_reads fu_there fu_total fu_walked fu_edited fu_written fu_at fu_end fu_began fu_many au_text) H := hP
        have hD : va_D A (W_Mo_eatName cI cC cB qu qu_text qu_segments qu_names qu_nameSize qu_bases qu_length qu_links qu_from qu_to qu_paths qu_titles qu_titleSize qu_steps qu_step qu_sideOf qu_within qu_read qu_cost qu_walk qu_edits qu_said fu_size fu_places fu_reads fu_there fu_total fu_walked fu_edited fu_written fu_at fu_end fu_began fu_many au_text) := hD
        refine lv_if_eq (tgt := 47) hx hb d_Mo_eatName_31 (by decide) (fun c_9 => ?_) (fun c_9 => ?_)
        · have h := h.1 c_9
          exact blk_47  _ _ _ _ _ _ h hP hD hS (lv_sub hl [0] rfl)
        · have h := h.2 c_9
          refine lv_aload_n hx hb d_Mo_eatName_34 rfl (lv_at hl 0 rfl) ?_
          refine lv_dup hx hb d_Mo_eatName_35 rfl ?_
          refine va_get (D := (dC, dI)) (ci := 6) (v := .int fu_at) (C := R_Mo) (T := T_Mo) (N := 33) hx hb hts in_Mo hown hK hP 0 rfl rfl 29 (by decide) (hts _ w_411) (fun _ h9 => h9) rfl d_Mo_eatName_36 ?_
          refine lv_iconst (v := 1) hx hb d_Mo_eatName_39 (by decide) ?_
          refine lv_iadd hx hb d_Mo_eatName_40 ?_
          refine lv_topi (fun x_10 ex_10 => ?_)
          have h := h x_10 ex_10
          refine va_put (D := (dC, dI)) (ci := 6) (v := .int x_10) (ty := .int) (C := R_Mo) (T := T_Mo) (N := 33) hx hb hts in_Mo t_Mo t_Mo_ok n_Mo hown hK hP hD hS 0 rfl rfl 29 (by decide) (hts _ w_411) (fun _ h9 => h9) rfl (by decide +kernel) rfl rfl (Nat.le_of_ble_eq_true rfl) d_Mo_eatName_41 (fun H locs hP hD hS => ?_)
          have hP : va_P (dC, dI) cls (W_Mo_eatName cI cC cB qu qu_text qu_segments qu_names qu_nameSize qu_bases qu_length qu_links qu_from qu_to qu_paths qu_titles qu_titleSize qu_steps qu_step qu_sideOf qu_within qu_read qu_cost qu_walk qu_edits qu_said fu_size fu_places fu_reads fu_there fu_total fu_walked fu_edited fu_written x_10 fu_end fu_began fu_many au_text) H := hP
          have hD : va_D A (W_Mo_eatName cI cC cB qu qu_text qu_segments qu_names qu_nameSize qu_bases qu_length qu_links qu_from qu_to qu_paths qu_titles qu_titleSize qu_steps qu_step qu_sideOf qu_within qu_read qu_cost qu_walk qu_edits qu_said fu_size fu_places fu_reads fu_there fu_total fu_walked fu_edited fu_written x_10 fu_end fu_began fu_many au_text) := hD
          refine lv_goto (tgt := 8) hx hb d_Mo_eatName_44 (by decide) ?_
          exact ih _ _ _ _ _ _ h hP hD hS (lv_sub hl [0] rfl)
  unfold wp_Mo_eatName at h
  refine lv_aload_n hx hb d_Mo_eatName_0 rfl (lv_at hl 0 rfl) ?_
  refine lv_aload_n hx hb d_Mo_eatName_1 rfl (lv_at hl 0 rfl) ?_
  refine va_get (D := (dC, dI)) (ci := 6) (v := .int fu_at) (C := R_Mo) (T := T_Mo) (N := 33) hx hb hts in_Mo hown hK hP 0 rfl rfl 29 (by decide) (hts _ w_411) (fun _ h9 => h9) rfl d_Mo_eatName_2 ?_
  refine va_put (D := (dC, dI)) (ci := 6) (v := .int fu_at) (ty := .int) (C := R_Mo) (T := T_Mo) (N := 33) hx hb hts in_Mo t_Mo t_Mo_ok n_Mo hown hK hP hD hS 0 rfl rfl 31 (by decide) (hts _ w_425) (fun _ h9 => h9) rfl (by decide +kernel) rfl rfl (Nat.le_of_ble_eq_true rfl) d_Mo_eatName_5 (fun H locs hP hD hS => ?_)
  have hP : va_P (dC, dI) cls (W_Mo_eatName cI cC cB qu qu_text qu_segments qu_names qu_nameSize qu_bases qu_length qu_links qu_from qu_to qu_paths qu_titles qu_titleSize qu_steps qu_step qu_sideOf qu_within qu_read qu_cost qu_walk qu_edits qu_said fu_size fu_places fu_reads fu_there fu_total fu_walked fu_edited fu_written fu_at fu_end fu_at fu_many au_text) H := hP
  have hD : va_D A (W_Mo_eatName cI cC cB qu qu_text qu_segments qu_names qu_nameSize qu_bases qu_length qu_links qu_from qu_to qu_paths qu_titles qu_titleSize qu_steps qu_step qu_sideOf qu_within qu_read qu_cost qu_walk qu_edits qu_said fu_size fu_places fu_reads fu_there fu_total fu_walked fu_edited fu_written fu_at fu_end fu_at fu_many au_text) := hD
  obtain ⟨fu_8, h⟩ := h
  exact blk_8  _ _ _ _ _ _ _ h hP hD hS (lv_sub hl [0] rfl)
abbrev W_Mo_segmentNamed (cI cC cB : ClassId) (qu : Nat) (qu_text : Nat) (qu_segments : Nat) (qu_names : Nat) (qu_nameSize : Nat) (qu_bases : Nat) (qu_length : Nat) (qu_links : Nat) (qu_from : Nat) (qu_to : Nat) (qu_paths : Nat) (qu_titles : Nat) (qu_titleSize : Nat) (qu_steps : Nat) (qu_step : Nat) (qu_sideOf : Nat) (qu_within : Nat) (qu_read : Nat) (qu_cost : Nat) (qu_walk : Nat) (qu_edits : Nat) (qu_said : Nat) (fu_size : Int32) (fu_places : Int32) (fu_reads : Int32) (fu_there : Int32) (fu_total : Int32) (fu_walked : Int32) (fu_edited : Int32) (fu_written : Int32) (fu_at : Int32) (fu_end : Int32) (fu_began : Int32) (fu_many : Int32) (au_text : Nat → Int32) (au_segments : Nat → Int32) (au_names : Nat → Int32) (au_nameSize : Nat → Int32) : va_W := [(qu, .inr (6, [.int fu_size, .ref qu_text, .ref qu_segments, .ref qu_names, .ref qu_nameSize, .ref qu_bases, .ref qu_length, .ref qu_links, .ref qu_from, .ref qu_to, .ref qu_paths, .ref qu_titles, .ref qu_titleSize, .ref qu_steps, .ref qu_step, .int fu_places, .ref qu_sideOf, .ref qu_within, .int fu_reads, .ref qu_read, .ref qu_cost, .int fu_there, .int fu_total, .int fu_walked, .ref qu_walk, .int fu_edited, .ref qu_edits, .int fu_written, .ref qu_said, .int fu_at, .int fu_end, .int fu_began, .int fu_many])), (qu_text, .inl (cC, 400, .inl au_text)), (qu_segments, .inl (cI, 2, .inl au_segments)), (qu_names, .inl (cC, 48, .inl au_names)), (qu_nameSize, .inl (cI, 16, .inl au_nameSize))]
def w_Mo_segmentNamed_87 (Q : Int32 → Unit → Prop) (K_2 : Int32 → Prop) (fu_began : Int32) (fu_many : Int32) (au_text : Nat → Int32) (au_segments : Nat → Int32) (au_names : Nat → Int32) (au_nameSize : Nat → Int32) (x1 : Int32) (x2 : Int32) : Prop := ((x2 = 0 → (∀ x1_2 : Int32, x1_2 = x1 + 1 → (K_2 x1_2))) ∧ (¬ x2 = 0 → (Q x1 ())))
def w_Mo_segmentNamed_80 (Q : Int32 → Unit → Prop) (K_2 : Int32 → Prop) (K_36 : Int32 → Int32 → Int32 → Prop) (fu_began : Int32) (fu_many : Int32) (au_text : Nat → Int32) (au_segments : Nat → Int32) (au_names : Nat → Int32) (au_nameSize : Nat → Int32) (x1 : Int32) (x3 : Int32) (s0 : Int32) : Prop := ∀ x3_3 : Int32, x3_3 = x3 + 1 → (K_36 x1 s0 x3_3)
def w_Mo_segmentNamed_36B (Q : Int32 → Unit → Prop) (K_2 : Int32 → Prop) (K_36 : Int32 → Int32 → Int32 → Prop) (fu_began : Int32) (fu_many : Int32) (au_text : Nat → Int32) (au_segments : Nat → Int32) (au_names : Nat → Int32) (au_nameSize : Nat → Int32) (x1 : Int32) (x2 : Int32) (x3 : Int32) : Prop := ((fu_many ≤ x3 → (w_Mo_segmentNamed_87 Q K_2 fu_began fu_many au_text au_segments au_names au_nameSize x1 x2)) ∧ (¬ fu_many ≤ x3 → (((x2 = 0 → (w_Mo_segmentNamed_87 Q K_2 fu_began fu_many au_text au_segments au_names au_nameSize x1 x2)) ∧ (¬ x2 = 0 → (∀ x_6 : Int32, x_6 = (24 + (3 * x1)) + x3 → (vp_in x_6 48 ∧ (∀ y_8 : Int32, y_8 = au_names x_6.toNatClampNeg → (∀ x_9 : Int32, x_9 = fu_began + x3 → (vp_in x_9 400 ∧ (∀ y_11 : Int32, y_11 = au_text x_9.toNatClampNeg → (((y_8 = y_11 → (w_Mo_segmentNamed_80 Q K_2 K_36 fu_began fu_many au_text au_segments au_names au_nameSize x1 x3 1)) ∧ (¬ y_8 = y_11 → (w_Mo_segmentNamed_80 Q K_2 K_36 fu_began fu_many au_text au_segments au_names au_nameSize x1 x3 0)))))))))))))))
def w_Mo_segmentNamed_36 (Q : Int32 → Unit → Prop) (K_2 : Int32 → Prop) (fu_began : Int32) (fu_many : Int32) (au_text : Nat → Int32) (au_segments : Nat → Int32) (au_names : Nat → Int32) (au_nameSize : Nat → Int32) : Nat → Int32 → Int32 → Int32 → Prop
  | 0 => fun _ _ _ => False
  | n + 1 => fun x1 x2 x3 => w_Mo_segmentNamed_36B Q K_2 (w_Mo_segmentNamed_36 Q K_2 fu_began fu_many au_text au_segments au_names au_nameSize n) fu_began fu_many au_text au_segments au_names au_nameSize x1 x2 x3
def w_Mo_segmentNamed_33 (Q : Int32 → Unit → Prop) (K_2 : Int32 → Prop) (fu_began : Int32) (fu_many : Int32) (au_text : Nat → Int32) (au_segments : Nat → Int32) (au_names : Nat → Int32) (au_nameSize : Nat → Int32) (x1 : Int32) (s0 : Int32) : Prop := ∃ fu_36 : Nat, w_Mo_segmentNamed_36 Q K_2 fu_began fu_many au_text au_segments au_names au_nameSize fu_36 x1 s0 0
def w_Mo_segmentNamed_2B (Q : Int32 → Unit → Prop)  (K_2 : Int32 → Prop) (fu_began : Int32) (fu_many : Int32) (au_text : Nat → Int32) (au_segments : Nat → Int32) (au_names : Nat → Int32) (au_nameSize : Nat → Int32) (x1 : Int32) : Prop := vp_in (1 : Int32) 2 ∧ (∀ y_14 : Int32, y_14 = au_segments (1 : Int32).toNatClampNeg → (((y_14 ≤ x1 → (Q (-1) ())) ∧ (¬ y_14 ≤ x1 → (∀ x_16 : Int32, x_16 = 8 + x1 → (vp_in x_16 16 ∧ (∀ y_18 : Int32, y_18 = au_nameSize x_16.toNatClampNeg → (((y_18 = fu_many → (w_Mo_segmentNamed_33 Q K_2 fu_began fu_many au_text au_segments au_names au_nameSize x1 1)) ∧ (¬ y_18 = fu_many → (w_Mo_segmentNamed_33 Q K_2 fu_began fu_many au_text au_segments au_names au_nameSize x1 0)))))))))))
def w_Mo_segmentNamed_2 (Q : Int32 → Unit → Prop)  (fu_began : Int32) (fu_many : Int32) (au_text : Nat → Int32) (au_segments : Nat → Int32) (au_names : Nat → Int32) (au_nameSize : Nat → Int32) : Nat → Int32 → Prop
  | 0 => fun _ => False
  | n + 1 => fun x1 => w_Mo_segmentNamed_2B Q  (w_Mo_segmentNamed_2 Q  fu_began fu_many au_text au_segments au_names au_nameSize n) fu_began fu_many au_text au_segments au_names au_nameSize x1
def wp_Mo_segmentNamed (Q : Int32 → Unit → Prop)  (fu_began : Int32) (fu_many : Int32) (au_text : Nat → Int32) (au_segments : Nat → Int32) (au_names : Nat → Int32) (au_nameSize : Nat → Int32) : Prop := ∃ fu_2 : Nat, w_Mo_segmentNamed_2 Q fu_began fu_many au_text au_segments au_names au_nameSize fu_2 0
abbrev rm_Mo_segmentNamed : Room := { frames := 0, cells := 0, slots := 0, locals := 0 }
set_option maxHeartbeats 4000000 in
set_option maxRecDepth 100000 in
theorem k_Mo_segmentNamed (l : Launch) (dC : Nat → ClassId) (dI : Nat → Nat → Nat) (cI cC cB : ClassId) (sz : Nat) (qu : Nat) (qu_text : Nat) (qu_segments : Nat) (qu_names : Nat) (qu_nameSize : Nat) (qu_bases : Nat) (qu_length : Nat) (qu_links : Nat) (qu_from : Nat) (qu_to : Nat) (qu_paths : Nat) (qu_titles : Nat) (qu_titleSize : Nat) (qu_steps : Nat) (qu_step : Nat) (qu_sideOf : Nat) (qu_within : Nat) (qu_read : Nat) (qu_cost : Nat) (qu_walk : Nat) (qu_edits : Nat) (qu_said : Nat) (fu_size : Int32) (fu_places : Int32) (fu_reads : Int32) (fu_there : Int32) (fu_total : Int32) (fu_walked : Int32) (fu_edited : Int32) (fu_written : Int32) (fu_at : Int32) (fu_end : Int32) (fu_began : Int32) (fu_many : Int32) (au_text : Nat → Int32) (au_segments : Nat → Int32) (au_names : Nat → Int32) (au_nameSize : Nat → Int32)  {Q : Int32 → Unit → Prop} (h : wp_Mo_segmentNamed Q  fu_began fu_many au_text au_segments au_names au_nameSize) :
    CTi l y_Mo_segmentNamed (wM y_Mo_segmentNamed c_Mo_segmentNamed 4 (some .int)) rm_Mo_segmentNamed 0 0 (dC, dI) (tysL cI cC cB) [.ref qu] (W_Mo_segmentNamed cI cC cB qu qu_text qu_segments qu_names qu_nameSize qu_bases qu_length qu_links qu_from qu_to qu_paths qu_titles qu_titleSize qu_steps qu_step qu_sideOf qu_within qu_read qu_cost qu_walk qu_edits qu_said fu_size fu_places fu_reads fu_there fu_total fu_walked fu_edited fu_written fu_at fu_end fu_began fu_many au_text au_segments au_names au_nameSize) sz Q (fun (v : Unit) (b : Unit) => (W_Mo_segmentNamed cI cC cB qu qu_text qu_segments qu_names qu_nameSize qu_bases qu_length qu_links qu_from qu_to qu_paths qu_titles qu_titleSize qu_steps qu_step qu_sideOf qu_within qu_read qu_cost qu_walk qu_edits qu_said fu_size fu_places fu_reads fu_there fu_total fu_walked fu_edited fu_written fu_at fu_end fu_began fu_many au_text au_segments au_names au_nameSize)) := by
  refine CTi.std (by decide) (Nat.le_of_ble_eq_true rfl) ?_
  intro p e s m args below meth c A ls QF C0 hP hD hl hS hsz hnm hret
  obtain ⟨hx, hb, hr, hml, hown, hts, hlocks, hN, hA, hK⟩ := id C0
  have hown : s.vm.findClass R_Mo = some m.cls := hown
  have hl : lv_has ls 4 [(0, .ref qu)] := hl
  clear hsz hnm
  have blk_87 : ∀ (K_2 : Int32 → Prop) (hK_2 : ∀ (x1 : Int32)  (H : Heap) (locs : List Loc) (ls : Array Slot), K_2 x1 → va_P (dC, dI) cls (W_Mo_segmentNamed cI cC cB qu qu_text qu_segments qu_names qu_nameSize qu_bases qu_length qu_links qu_from qu_to qu_paths qu_titles qu_titleSize qu_steps qu_step qu_sideOf qu_within qu_read qu_cost qu_walk qu_edits qu_said fu_size fu_places fu_reads fu_there fu_total fu_walked fu_edited fu_written fu_at fu_end fu_began fu_many au_text au_segments au_names au_nameSize) H → va_D A (W_Mo_segmentNamed cI cC cB qu qu_text qu_segments qu_names qu_nameSize qu_bases qu_length qu_links qu_from qu_to qu_paths qu_titles qu_titleSize qu_steps qu_step qu_sideOf qu_within qu_read qu_cost qu_walk qu_edits qu_said fu_size fu_places fu_reads fu_there fu_total fu_walked fu_edited fu_written fu_at fu_end fu_began fu_many au_text au_segments au_names au_nameSize) → va_S A s.heap H locs → lv_has ls 4 [(0, .ref qu), (1, .int x1)] → W p l e rm_Mo_segmentNamed s m args below meth c H locs 0 0 QF (F0 m 2 ls [])) (x1 : Int32) (x2 : Int32)  (H : Heap) (locs : List Loc) (ls : Array Slot), w_Mo_segmentNamed_87 Q K_2 fu_began fu_many au_text au_segments au_names au_nameSize x1 x2 → va_P (dC, dI) cls (W_Mo_segmentNamed cI cC cB qu qu_text qu_segments qu_names qu_nameSize qu_bases qu_length qu_links qu_from qu_to qu_paths qu_titles qu_titleSize qu_steps qu_step qu_sideOf qu_within qu_read qu_cost qu_walk qu_edits qu_said fu_size fu_places fu_reads fu_there fu_total fu_walked fu_edited fu_written fu_at fu_end fu_began fu_many au_text au_segments au_names au_nameSize) H → va_D A (W_Mo_segmentNamed cI cC cB qu qu_text qu_segments qu_names qu_nameSize qu_bases qu_length qu_links qu_from qu_to qu_paths qu_titles qu_titleSize qu_steps qu_step qu_sideOf qu_within qu_read qu_cost qu_walk qu_edits qu_said fu_size fu_places fu_reads fu_there fu_total fu_walked fu_edited fu_written fu_at fu_end fu_began fu_many au_text au_segments au_names au_nameSize) → va_S A s.heap H locs → lv_has ls 4 [(0, .ref qu), (1, .int x1), (2, .int x2)] → W p l e rm_Mo_segmentNamed s m args below meth c H locs 0 0 QF (F0 m 87 ls []) := by
    intro K_2 hK_2 x1 x2  H locs ls h hP hD hS hl
    unfold w_Mo_segmentNamed_87 at h
    refine lv_iload_n hx hb d_Mo_segmentNamed_87 rfl (lv_at hl 2 rfl) ?_
    refine lv_if_eq (tgt := 93) hx hb d_Mo_segmentNamed_88 (by decide) (fun c_1 => ?_) (fun c_1 => ?_)
    · have h := h.1 c_1
      obtain ⟨x1_2, ex1_2⟩ : ∃ y : Int32, y = x1 + 1 := ⟨_, rfl⟩
      have h := h x1_2 ex1_2
      refine lv_iinc (v := x1_2) (lv' := [(1, .int x1_2), (0, .ref qu), (2, .int x2)]) hx hb d_Mo_segmentNamed_93 hl (k := 1) rfl (by rw [ex1_2]; rfl) (by decide) rfl (fun ls hl => ?_)
      refine lv_goto (tgt := 2) hx hb d_Mo_segmentNamed_96 (by decide) ?_
      exact hK_2 _ _ _ _ h hP hD hS (lv_sub hl [1, 0] rfl)
    · have h := h.2 c_1
      refine lv_iload_n hx hb d_Mo_segmentNamed_91 rfl (lv_at hl 1 rfl) ?_
      exact hret () () x1 _ _ _ _ rfl h hP hD hS d_Mo_segmentNamed_92
  have blk_80 : ∀ (K_2 : Int32 → Prop) (hK_2 : ∀ (x1 : Int32)  (H : Heap) (locs : List Loc) (ls : Array Slot), K_2 x1 → va_P (dC, dI) cls (W_Mo_segmentNamed cI cC cB qu qu_text qu_segments qu_names qu_nameSize qu_bases qu_length qu_links qu_from qu_to qu_paths qu_titles qu_titleSize qu_steps qu_step qu_sideOf qu_within qu_read qu_cost qu_walk qu_edits qu_said fu_size fu_places fu_reads fu_there fu_total fu_walked fu_edited fu_written fu_at fu_end fu_began fu_many au_text au_segments au_names au_nameSize) H → va_D A (W_Mo_segmentNamed cI cC cB qu qu_text qu_segments qu_names qu_nameSize qu_bases qu_length qu_links qu_from qu_to qu_paths qu_titles qu_titleSize qu_steps qu_step qu_sideOf qu_within qu_read qu_cost qu_walk qu_edits qu_said fu_size fu_places fu_reads fu_there fu_total fu_walked fu_edited fu_written fu_at fu_end fu_began fu_many au_text au_segments au_names au_nameSize) → va_S A s.heap H locs → lv_has ls 4 [(0, .ref qu), (1, .int x1)] → W p l e rm_Mo_segmentNamed s m args below meth c H locs 0 0 QF (F0 m 2 ls [])) (K_36 : Int32 → Int32 → Int32 → Prop) (hK_36 : ∀ (x1 : Int32) (x2 : Int32) (x3 : Int32)  (H : Heap) (locs : List Loc) (ls : Array Slot), K_36 x1 x2 x3 → va_P (dC, dI) cls (W_Mo_segmentNamed cI cC cB qu qu_text qu_segments qu_names qu_nameSize qu_bases qu_length qu_links qu_from qu_to qu_paths qu_titles qu_titleSize qu_steps qu_step qu_sideOf qu_within qu_read qu_cost qu_walk qu_edits qu_said fu_size fu_places fu_reads fu_there fu_total fu_walked fu_edited fu_written fu_at fu_end fu_began fu_many au_text au_segments au_names au_nameSize) H → va_D A (W_Mo_segmentNamed cI cC cB qu qu_text qu_segments qu_names qu_nameSize qu_bases qu_length qu_links qu_from qu_to qu_paths qu_titles qu_titleSize qu_steps qu_step qu_sideOf qu_within qu_read qu_cost qu_walk qu_edits qu_said fu_size fu_places fu_reads fu_there fu_total fu_walked fu_edited fu_written fu_at fu_end fu_began fu_many au_text au_segments au_names au_nameSize) → va_S A s.heap H locs → lv_has ls 4 [(0, .ref qu), (1, .int x1), (2, .int x2), (3, .int x3)] → W p l e rm_Mo_segmentNamed s m args below meth c H locs 0 0 QF (F0 m 36 ls [])) (x1 : Int32) (x3 : Int32) (s0 : Int32)  (H : Heap) (locs : List Loc) (ls : Array Slot), w_Mo_segmentNamed_80 Q K_2 K_36 fu_began fu_many au_text au_segments au_names au_nameSize x1 x3 s0 → va_P (dC, dI) cls (W_Mo_segmentNamed cI cC cB qu qu_text qu_segments qu_names qu_nameSize qu_bases qu_length qu_links qu_from qu_to qu_paths qu_titles qu_titleSize qu_steps qu_step qu_sideOf qu_within qu_read qu_cost qu_walk qu_edits qu_said fu_size fu_places fu_reads fu_there fu_total fu_walked fu_edited fu_written fu_at fu_end fu_began fu_many au_text au_segments au_names au_nameSize) H → va_D A (W_Mo_segmentNamed cI cC cB qu qu_text qu_segments qu_names qu_nameSize qu_bases qu_length qu_links qu_from qu_to qu_paths qu_titles qu_titleSize qu_steps qu_step qu_sideOf qu_within qu_read qu_cost qu_walk qu_edits qu_said fu_size fu_places fu_reads fu_there fu_total fu_walked fu_edited fu_written fu_at fu_end fu_began fu_many au_text au_segments au_names au_nameSize) → va_S A s.heap H locs → lv_has ls 4 [(0, .ref qu), (1, .int x1), (3, .int x3)] → W p l e rm_Mo_segmentNamed s m args below meth c H locs 0 0 QF (F0 m 80 ls [.int s0]) := by
    intro K_2 hK_2 K_36 hK_36 x1 x3 s0  H locs ls h hP hD hS hl
    unfold w_Mo_segmentNamed_80 at h
    refine lv_istore_n (lv' := [(2, .int s0), (0, .ref qu), (1, .int x1), (3, .int x3)]) hx hb d_Mo_segmentNamed_80 rfl hl (by decide) rfl (fun ls hl => ?_)
    obtain ⟨x3_3, ex3_3⟩ : ∃ y : Int32, y = x3 + 1 := ⟨_, rfl⟩
    have h := h x3_3 ex3_3
    refine lv_iinc (v := x3_3) (lv' := [(3, .int x3_3), (2, .int s0), (0, .ref qu), (1, .int x1)]) hx hb d_Mo_segmentNamed_81 hl (k := 3) rfl (by rw [ex3_3]; rfl) (by decide) rfl (fun ls hl => ?_)
    refine lv_goto (tgt := 36) hx hb d_Mo_segmentNamed_84 (by decide) ?_
    exact hK_36 _ _ _ _ _ _ h hP hD hS (lv_sub hl [2, 3, 1, 0] rfl)
  have blk_36 : ∀ (K_2 : Int32 → Prop) (hK_2 : ∀ (x1 : Int32)  (H : Heap) (locs : List Loc) (ls : Array Slot), K_2 x1 → va_P (dC, dI) cls (W_Mo_segmentNamed cI cC cB qu qu_text qu_segments qu_names qu_nameSize qu_bases qu_length qu_links qu_from qu_to qu_paths qu_titles qu_titleSize qu_steps qu_step qu_sideOf qu_within qu_read qu_cost qu_walk qu_edits qu_said fu_size fu_places fu_reads fu_there fu_total fu_walked fu_edited fu_written fu_at fu_end fu_began fu_many au_text au_segments au_names au_nameSize) H → va_D A (W_Mo_segmentNamed cI cC cB qu qu_text qu_segments qu_names qu_nameSize qu_bases qu_length qu_links qu_from qu_to qu_paths qu_titles qu_titleSize qu_steps qu_step qu_sideOf qu_within qu_read qu_cost qu_walk qu_edits qu_said fu_size fu_places fu_reads fu_there fu_total fu_walked fu_edited fu_written fu_at fu_end fu_began fu_many au_text au_segments au_names au_nameSize) → va_S A s.heap H locs → lv_has ls 4 [(0, .ref qu), (1, .int x1)] → W p l e rm_Mo_segmentNamed s m args below meth c H locs 0 0 QF (F0 m 2 ls [])) (n : Nat) (x1 : Int32) (x2 : Int32) (x3 : Int32)  (H : Heap) (locs : List Loc) (ls : Array Slot), w_Mo_segmentNamed_36 Q K_2 fu_began fu_many au_text au_segments au_names au_nameSize n x1 x2 x3 → va_P (dC, dI) cls (W_Mo_segmentNamed cI cC cB qu qu_text qu_segments qu_names qu_nameSize qu_bases qu_length qu_links qu_from qu_to qu_paths qu_titles qu_titleSize qu_steps qu_step qu_sideOf qu_within qu_read qu_cost qu_walk qu_edits qu_said fu_size fu_places fu_reads fu_there fu_total fu_walked fu_edited fu_written fu_at fu_end fu_began fu_many au_text au_segments au_names au_nameSize) H → va_D A (W_Mo_segmentNamed cI cC cB qu qu_text qu_segments qu_names qu_nameSize qu_bases qu_length qu_links qu_from qu_to qu_paths qu_titles qu_titleSize qu_steps qu_step qu_sideOf qu_within qu_read qu_cost qu_walk qu_edits qu_said fu_size fu_places fu_reads fu_there fu_total fu_walked fu_edited fu_written fu_at fu_end fu_began fu_many au_text au_segments au_names au_nameSize) → va_S A s.heap H locs → lv_has ls 4 [(0, .ref qu), (1, .int x1), (2, .int x2), (3, .int x3)] → W p l e rm_Mo_segmentNamed s m args below meth c H locs 0 0 QF (F0 m 36 ls []) := by
    intro K_2 hK_2 n
    induction n with
    | zero => intro x1 x2 x3  H locs ls h; exact (show False from h).elim
    | succ n ih =>
      intro x1 x2 x3  H locs ls h hP hD hS hl
      have h : w_Mo_segmentNamed_36B Q K_2 (w_Mo_segmentNamed_36 Q K_2 fu_began fu_many au_text au_segments au_names au_nameSize n) fu_began fu_many au_text au_segments au_names au_nameSize x1 x2 x3 := h
      generalize w_Mo_segmentNamed_36 Q K_2 fu_began fu_many au_text au_segments au_names au_nameSize n = K_36 at h ih
      unfold w_Mo_segmentNamed_36B at h
      refine lv_iload_n hx hb d_Mo_segmentNamed_36 rfl (lv_at hl 3 rfl) ?_
      refine lv_aload_n hx hb d_Mo_segmentNamed_37 rfl (lv_at hl 0 rfl) ?_
      refine va_get (D := (dC, dI)) (ci := 6) (v := .int fu_many) (C := R_Mo) (T := T_Mo) (N := 33) hx hb hts in_Mo hown hK hP 0 rfl rfl 32 (by decide) (hts _ w_426) (fun _ h9 => h9) rfl d_Mo_segmentNamed_38 ?_
      refine lv_icmp_ge (tgt := 87) hx hb d_Mo_segmentNamed_41 (by decide) (fun c_4 => ?_) (fun c_4 => ?_)
      · have h := h.1 c_4
        exact blk_87 _ hK_2 _ _ _ _ _ h hP hD hS (lv_sub hl [0, 1, 2] rfl)
      · have h := h.2 c_4
        refine lv_iload_n hx hb d_Mo_segmentNamed_44 rfl (lv_at hl 2 rfl) ?_
        refine lv_if_eq (tgt := 87) hx hb d_Mo_segmentNamed_45 (by decide) (fun c_5 => ?_) (fun c_5 => ?_)
        · have h := h.1 c_5
          exact blk_87 _ hK_2 _ _ _ _ _ h hP hD hS (lv_sub hl [0, 1, 2] rfl)
        · have h := h.2 c_5
          refine lv_aload_n hx hb d_Mo_segmentNamed_48 rfl (lv_at hl 0 rfl) ?_
          refine va_get (D := (dC, dI)) (ci := 6) (v := .ref qu_names) (C := R_Mo) (T := T_Mo) (N := 33) hx hb hts in_Mo hown hK hP 0 rfl rfl 3 (by decide) (hts _ w_430) (fun _ h9 => h9) rfl d_Mo_segmentNamed_49 ?_
          refine lv_bipush (v := 24) hx hb d_Mo_segmentNamed_52 (by decide) ?_
          refine lv_iconst (v := 3) hx hb d_Mo_segmentNamed_54 (by decide) ?_
          refine lv_iload_n hx hb d_Mo_segmentNamed_55 rfl (lv_at hl 1 rfl) ?_
          refine lv_imul hx hb d_Mo_segmentNamed_56 ?_
          refine lv_iadd hx hb d_Mo_segmentNamed_57 ?_
          refine lv_iload_n hx hb d_Mo_segmentNamed_58 rfl (lv_at hl 3 rfl) ?_
          refine lv_iadd hx hb d_Mo_segmentNamed_59 ?_
          refine lv_topi (fun x_6 ex_6 => ?_)
          have h := h x_6 ex_6
          have hi_7 := h.1
          have h := h.2
          refine va_cald hx hb hK hP 3 1 rfl rfl hi_7 d_Mo_segmentNamed_60 ?_
          refine lv_topi (fun y_8 ey_8 => ?_)
          have h := h y_8 ey_8
          refine lv_aload_n hx hb d_Mo_segmentNamed_61 rfl (lv_at hl 0 rfl) ?_
          refine va_get (D := (dC, dI)) (ci := 6) (v := .ref qu_text) (C := R_Mo) (T := T_Mo) (N := 33) hx hb hts in_Mo hown hK hP 0 rfl rfl 1 (by decide) (hts _ w_410) (fun _ h9 => h9) rfl d_Mo_segmentNamed_62 ?_
          refine lv_aload_n hx hb d_Mo_segmentNamed_65 rfl (lv_at hl 0 rfl) ?_
          refine va_get (D := (dC, dI)) (ci := 6) (v := .int fu_began) (C := R_Mo) (T := T_Mo) (N := 33) hx hb hts in_Mo hown hK hP 0 rfl rfl 31 (by decide) (hts _ w_425) (fun _ h9 => h9) rfl d_Mo_segmentNamed_66 ?_
          refine lv_iload_n hx hb d_Mo_segmentNamed_69 rfl (lv_at hl 3 rfl) ?_
          refine lv_iadd hx hb d_Mo_segmentNamed_70 ?_
          refine lv_topi (fun x_9 ex_9 => ?_)
          have h := h x_9 ex_9
          have hi_10 := h.1
          have h := h.2
          refine va_cald hx hb hK hP 1 1 rfl rfl hi_10 d_Mo_segmentNamed_71 ?_
          refine lv_topi (fun y_11 ey_11 => ?_)
          have h := h y_11 ey_11
          refine lv_icmp_ne (tgt := 79) hx hb d_Mo_segmentNamed_72 (by decide) (fun c_12 => ?_) (fun c_12 => ?_)
          · have h := h.2 c_12
            refine lv_iconst (v := 0) hx hb d_Mo_segmentNamed_79 (by decide) ?_
            exact blk_80 _ hK_2 _ ih _ _ _ _ _ _ h hP hD hS (lv_sub hl [0, 1, 3] rfl)
          · have h := h.1 c_12
            refine lv_iconst (v := 1) hx hb d_Mo_segmentNamed_75 (by decide) ?_
            refine lv_goto (tgt := 80) hx hb d_Mo_segmentNamed_76 (by decide) ?_
            exact blk_80 _ hK_2 _ ih _ _ _ _ _ _ h hP hD hS (lv_sub hl [0, 1, 3] rfl)
  have blk_33 : ∀ (K_2 : Int32 → Prop) (hK_2 : ∀ (x1 : Int32)  (H : Heap) (locs : List Loc) (ls : Array Slot), K_2 x1 → va_P (dC, dI) cls (W_Mo_segmentNamed cI cC cB qu qu_text qu_segments qu_names qu_nameSize qu_bases qu_length qu_links qu_from qu_to qu_paths qu_titles qu_titleSize qu_steps qu_step qu_sideOf qu_within qu_read qu_cost qu_walk qu_edits qu_said fu_size fu_places fu_reads fu_there fu_total fu_walked fu_edited fu_written fu_at fu_end fu_began fu_many au_text au_segments au_names au_nameSize) H → va_D A (W_Mo_segmentNamed cI cC cB qu qu_text qu_segments qu_names qu_nameSize qu_bases qu_length qu_links qu_from qu_to qu_paths qu_titles qu_titleSize qu_steps qu_step qu_sideOf qu_within qu_read qu_cost qu_walk qu_edits qu_said fu_size fu_places fu_reads fu_there fu_total fu_walked fu_edited fu_written fu_at fu_end fu_began fu_many au_text au_segments au_names au_nameSize) → va_S A s.heap H locs → lv_has ls 4 [(0, .ref qu), (1, .int x1)] → W p l e rm_Mo_segmentNamed s m args below meth c H locs 0 0 QF (F0 m 2 ls [])) (x1 : Int32) (s0 : Int32)  (H : Heap) (locs : List Loc) (ls : Array Slot), w_Mo_segmentNamed_33 Q K_2 fu_began fu_many au_text au_segments au_names au_nameSize x1 s0 → va_P (dC, dI) cls (W_Mo_segmentNamed cI cC cB qu qu_text qu_segments qu_names qu_nameSize qu_bases qu_length qu_links qu_from qu_to qu_paths qu_titles qu_titleSize qu_steps qu_step qu_sideOf qu_within qu_read qu_cost qu_walk qu_edits qu_said fu_size fu_places fu_reads fu_there fu_total fu_walked fu_edited fu_written fu_at fu_end fu_began fu_many au_text au_segments au_names au_nameSize) H → va_D A (W_Mo_segmentNamed cI cC cB qu qu_text qu_segments qu_names qu_nameSize qu_bases qu_length qu_links qu_from qu_to qu_paths qu_titles qu_titleSize qu_steps qu_step qu_sideOf qu_within qu_read qu_cost qu_walk qu_edits qu_said fu_size fu_places fu_reads fu_there fu_total fu_walked fu_edited fu_written fu_at fu_end fu_began fu_many au_text au_segments au_names au_nameSize) → va_S A s.heap H locs → lv_has ls 4 [(0, .ref qu), (1, .int x1)] → W p l e rm_Mo_segmentNamed s m args below meth c H locs 0 0 QF (F0 m 33 ls [.int s0]) := by
    intro K_2 hK_2 x1 s0  H locs ls h hP hD hS hl
    unfold w_Mo_segmentNamed_33 at h
    refine lv_istore_n (lv' := [(2, .int s0), (0, .ref qu), (1, .int x1)]) hx hb d_Mo_segmentNamed_33 rfl hl (by decide) rfl (fun ls hl => ?_)
    refine lv_iconst (v := 0) hx hb d_Mo_segmentNamed_34 (by decide) ?_
    refine lv_istore_n (lv' := [(3, .int 0), (2, .int s0), (0, .ref qu), (1, .int x1)]) hx hb d_Mo_segmentNamed_35 rfl hl (by decide) rfl (fun ls hl => ?_)
    obtain ⟨fu_36, h⟩ := h
    exact blk_36 _ hK_2 _ _ _ _ _ _ _ h hP hD hS (lv_sub hl [2, 3, 1, 0] rfl)
  have blk_2 : ∀  (n : Nat) (x1 : Int32)  (H : Heap) (locs : List Loc) (ls : Array Slot), w_Mo_segmentNamed_2 Q  fu_began fu_many au_text au_segments au_names au_nameSize n x1 → va_P (dC, dI) cls (W_Mo_segmentNamed cI cC cB qu qu_text qu_segments qu_names qu_nameSize qu_bases qu_length qu_links qu_from qu_to qu_paths qu_titles qu_titleSize qu_steps qu_step qu_sideOf qu_within qu_read qu_cost qu_walk qu_edits qu_said fu_size fu_places fu_reads fu_there fu_total fu_walked fu_edited fu_written fu_at fu_end fu_began fu_many au_text au_segments au_names au_nameSize) H → va_D A (W_Mo_segmentNamed cI cC cB qu qu_text qu_segments qu_names qu_nameSize qu_bases qu_length qu_links qu_from qu_to qu_paths qu_titles qu_titleSize qu_steps qu_step qu_sideOf qu_within qu_read qu_cost qu_walk qu_edits qu_said fu_size fu_places fu_reads fu_there fu_total fu_walked fu_edited fu_written fu_at fu_end fu_began fu_many au_text au_segments au_names au_nameSize) → va_S A s.heap H locs → lv_has ls 4 [(0, .ref qu), (1, .int x1)] → W p l e rm_Mo_segmentNamed s m args below meth c H locs 0 0 QF (F0 m 2 ls []) := by
    intro  n
    induction n with
    | zero => intro x1  H locs ls h; exact (show False from h).elim
    | succ n ih =>
      intro x1  H locs ls h hP hD hS hl
      have h : w_Mo_segmentNamed_2B Q  (w_Mo_segmentNamed_2 Q  fu_began fu_many au_text au_segments au_names au_nameSize n) fu_began fu_many au_text au_segments au_names au_nameSize x1 := h
      generalize w_Mo_segmentNamed_2 Q  fu_began fu_many au_text au_segments au_names au_nameSize n = K_2 at h ih
      unfold w_Mo_segmentNamed_2B at h
      refine lv_iload_n hx hb d_Mo_segmentNamed_2 rfl (lv_at hl 1 rfl) ?_
      refine lv_aload_n hx hb d_Mo_segmentNamed_3 rfl (lv_at hl 0 rfl) ?_
      refine va_get (D := (dC, dI)) (ci := 6) (v := .ref qu_segments) (C := R_Mo) (T := T_Mo) (N := 33) hx hb hts in_Mo hown hK hP 0 rfl rfl 2 (by decide) (hts _ w_431) (fun _ h9 => h9) rfl d_Mo_segmentNamed_4 ?_
      refine lv_iconst (v := 1) hx hb d_Mo_segmentNamed_7 (by decide) ?_
      have hi_13 := h.1
      have h := h.2
      refine va_iald hx hb hK hP 2 0 rfl rfl hi_13 d_Mo_segmentNamed_8 ?_
      refine lv_topi (fun y_14 ey_14 => ?_)
      have h := h y_14 ey_14
      refine lv_icmp_ge (tgt := 99) hx hb d_Mo_segmentNamed_9 (by decide) (fun c_15 => ?_) (fun c_15 => ?_)
      · have h := h.1 c_15
        refine lv_iconst (v := (-1)) hx hb d_Mo_segmentNamed_99 (by decide) ?_
        exact hret () () (-1) _ _ _ _ rfl h hP hD hS d_Mo_segmentNamed_100
      · have h := h.2 c_15
        refine lv_aload_n hx hb d_Mo_segmentNamed_12 rfl (lv_at hl 0 rfl) ?_
        refine va_get (D := (dC, dI)) (ci := 6) (v := .ref qu_nameSize) (C := R_Mo) (T := T_Mo) (N := 33) hx hb hts in_Mo hown hK hP 0 rfl rfl 4 (by decide) (hts _ w_432) (fun _ h9 => h9) rfl d_Mo_segmentNamed_13 ?_
        refine lv_bipush (v := 8) hx hb d_Mo_segmentNamed_16 (by decide) ?_
        refine lv_iload_n hx hb d_Mo_segmentNamed_18 rfl (lv_at hl 1 rfl) ?_
        refine lv_iadd hx hb d_Mo_segmentNamed_19 ?_
        refine lv_topi (fun x_16 ex_16 => ?_)
        have h := h x_16 ex_16
        have hi_17 := h.1
        have h := h.2
        refine va_iald hx hb hK hP 4 0 rfl rfl hi_17 d_Mo_segmentNamed_20 ?_
        refine lv_topi (fun y_18 ey_18 => ?_)
        have h := h y_18 ey_18
        refine lv_aload_n hx hb d_Mo_segmentNamed_21 rfl (lv_at hl 0 rfl) ?_
        refine va_get (D := (dC, dI)) (ci := 6) (v := .int fu_many) (C := R_Mo) (T := T_Mo) (N := 33) hx hb hts in_Mo hown hK hP 0 rfl rfl 32 (by decide) (hts _ w_426) (fun _ h9 => h9) rfl d_Mo_segmentNamed_22 ?_
        refine lv_icmp_ne (tgt := 32) hx hb d_Mo_segmentNamed_25 (by decide) (fun c_19 => ?_) (fun c_19 => ?_)
        · have h := h.2 c_19
          refine lv_iconst (v := 0) hx hb d_Mo_segmentNamed_32 (by decide) ?_
          exact blk_33 _ ih _ _ _ _ _ h hP hD hS (lv_sub hl [0, 1] rfl)
        · have h := h.1 c_19
          refine lv_iconst (v := 1) hx hb d_Mo_segmentNamed_28 (by decide) ?_
          refine lv_goto (tgt := 33) hx hb d_Mo_segmentNamed_29 (by decide) ?_
          exact blk_33 _ ih _ _ _ _ _ h hP hD hS (lv_sub hl [0, 1] rfl)
  unfold wp_Mo_segmentNamed at h
  refine lv_iconst (v := 0) hx hb d_Mo_segmentNamed_0 (by decide) ?_
  refine lv_istore_n (lv' := [(1, .int 0), (0, .ref qu)]) hx hb d_Mo_segmentNamed_1 rfl hl (by decide) rfl (fun ls hl => ?_)
  obtain ⟨fu_2, h⟩ := h
  exact blk_2  _ _ _ _ _ h hP hD hS (lv_sub hl [1, 0] rfl)
def w_Mo_isBase_24 (Q : Int32 → Unit → Prop)    : Prop := Q 1 ()
def wp_Mo_isBase (Q : Int32 → Unit → Prop) (p0 : Int32)  : Prop := ((p0 = 65 → (w_Mo_isBase_24 Q  )) ∧ (¬ p0 = 65 → (((p0 = 67 → (w_Mo_isBase_24 Q  )) ∧ (¬ p0 = 67 → (((p0 = 71 → (w_Mo_isBase_24 Q  )) ∧ (¬ p0 = 71 → (((p0 = 84 → (w_Mo_isBase_24 Q  )) ∧ (¬ p0 = 84 → (Q 0 ()))))))))))))
abbrev rm_Mo_isBase : Room := { frames := 0, cells := 0, slots := 0, locals := 0 }
set_option maxHeartbeats 4000000 in
set_option maxRecDepth 100000 in
theorem k_Mo_isBase (l : Launch) (dC : Nat → ClassId) (dI : Nat → Nat → Nat) (cI cC cB : ClassId) (sz : Nat)   (p0 : Int32) {Q : Int32 → Unit → Prop} (h : wp_Mo_isBase Q p0 ) :
    CTi l y_Mo_isBase (wM y_Mo_isBase c_Mo_isBase 1 (some .boolean)) rm_Mo_isBase 0 0 (dC, dI) (tysL cI cC cB) [.int p0] [] sz Q (fun (v : Unit) (b : Unit) => []) := by
  refine CTi.std (by decide) (Nat.le_of_ble_eq_true rfl) ?_
  intro p e s m args below meth c A ls QF C0 hP hD hl hS hsz hnm hret
  obtain ⟨hx, hb, hr, hml, hown, hts, hlocks, hN, hA, hK⟩ := id C0
  have hown : s.vm.findClass R_Mo = some m.cls := hown
  have hl : lv_has ls 1 [(0, .int p0)] := hl
  clear hsz hnm
  have blk_24 : ∀    (H : Heap) (locs : List Loc) (ls : Array Slot), w_Mo_isBase_24 Q    → va_P (dC, dI) cls [] H → va_D A [] → va_S A s.heap H locs → lv_has ls 1 [] → W p l e rm_Mo_isBase s m args below meth c H locs 0 0 QF (F0 m 24 ls []) := by
    intro    H locs ls h hP hD hS hl
    unfold w_Mo_isBase_24 at h
    refine lv_iconst (v := 1) hx hb d_Mo_isBase_24 (by decide) ?_
    refine lv_goto (tgt := 29) hx hb d_Mo_isBase_25 (by decide) ?_
    exact hret () () 1 _ _ _ _ rfl h hP hD hS d_Mo_isBase_29
  unfold wp_Mo_isBase at h
  refine lv_iload_n hx hb d_Mo_isBase_0 rfl (lv_at hl 0 rfl) ?_
  refine lv_bipush (v := 65) hx hb d_Mo_isBase_1 (by decide) ?_
  refine lv_icmp_eq (tgt := 24) hx hb d_Mo_isBase_3 (by decide) (fun c_1 => ?_) (fun c_1 => ?_)
  · have h := h.1 c_1
    exact blk_24  _ _ _ h hP hD hS (lv_sub hl [] rfl)
  · have h := h.2 c_1
    refine lv_iload_n hx hb d_Mo_isBase_6 rfl (lv_at hl 0 rfl) ?_
    refine lv_bipush (v := 67) hx hb d_Mo_isBase_7 (by decide) ?_
    refine lv_icmp_eq (tgt := 24) hx hb d_Mo_isBase_9 (by decide) (fun c_2 => ?_) (fun c_2 => ?_)
    · have h := h.1 c_2
      exact blk_24  _ _ _ h hP hD hS (lv_sub hl [] rfl)
    · have h := h.2 c_2
      refine lv_iload_n hx hb d_Mo_isBase_12 rfl (lv_at hl 0 rfl) ?_
      refine lv_bipush (v := 71) hx hb d_Mo_isBase_13 (by decide) ?_
      refine lv_icmp_eq (tgt := 24) hx hb d_Mo_isBase_15 (by decide) (fun c_3 => ?_) (fun c_3 => ?_)
      · have h := h.1 c_3
        exact blk_24  _ _ _ h hP hD hS (lv_sub hl [] rfl)
      · have h := h.2 c_3
        refine lv_iload_n hx hb d_Mo_isBase_18 rfl (lv_at hl 0 rfl) ?_
        refine lv_bipush (v := 84) hx hb d_Mo_isBase_19 (by decide) ?_
        refine lv_icmp_ne (tgt := 28) hx hb d_Mo_isBase_21 (by decide) (fun c_4 => ?_) (fun c_4 => ?_)
        · have h := h.2 c_4
          refine lv_iconst (v := 0) hx hb d_Mo_isBase_28 (by decide) ?_
          exact hret () () 0 _ _ _ _ rfl h hP hD hS d_Mo_isBase_29
        · have h := h.1 c_4
          exact blk_24  _ _ _ h hP hD hS (lv_sub hl [] rfl)
