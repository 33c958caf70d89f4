abbrev W_Mo_put (cI cC cB : ClassId) (qu : Nat) (qu_said : Nat) (qu_text : Nat) (qu_segments : Nat) (qu_names : Nat) (qu_nameSize : Nat) (qu_bases : Nat) (qu_length : Nat) (qu_links : Nat) (qu_from : Nat) (qu_to : Nat) (qu_paths : Nat) (qu_titles : Nat) (qu_titleSize : Nat) (qu_steps : Nat) (qu_step : Nat) (qu_sideOf : Nat) (qu_within : Nat) (qu_read : Nat) (qu_cost : Nat) (qu_walk : Nat) (qu_edits : Nat) (fu_size : Int32) (fu_places : Int32) (fu_reads : Int32) (fu_there : Int32) (fu_total : Int32) (fu_walked : Int32) (fu_edited : Int32) (fu_written : Int32) (fu_at : Int32) (fu_end : Int32) (fu_began : Int32) (fu_many : Int32) (au_said : Nat → Int32) : va_W := [(qu, .inr (6, [.int fu_size, .ref qu_text, .ref qu_segments, .ref qu_names, .ref qu_nameSize, .ref qu_bases, .ref qu_length, .ref qu_links, .ref qu_from, .ref qu_to, .ref qu_paths, .ref qu_titles, .ref qu_titleSize, .ref qu_steps, .ref qu_step, .int fu_places, .ref qu_sideOf, .ref qu_within, .int fu_reads, .ref qu_read, .ref qu_cost, .int fu_there, .int fu_total, .int fu_walked, .ref qu_walk, .int fu_edited, .ref qu_edits, .int fu_written, .ref qu_said, .int fu_at, .int fu_end, .int fu_began, .int fu_many])), (qu_said, .inl (cC, 300, .inl au_said))]
def wp_Mo_put (Q : (Int32 × (Nat → Int32)) → Prop) (p1 : Int32) (fu_written : Int32) (au_said : Nat → Int32) : Prop := vp_in fu_written 300 ∧ (∀ au_said_2 : Nat → Int32, au_said_2 = upd au_said fu_written.toNatClampNeg (vp_nar .char p1) → (∀ x_3 : Int32, x_3 = fu_written + 1 → (Q (x_3, au_said_2))))
abbrev rm_Mo_put : Room := { frames := 0, cells := 0, slots := 0, locals := 0 }
set_option maxHeartbeats 4000000 in
set_option maxRecDepth 100000 in
theorem k_Mo_put (l : Launch) (dC : Nat → ClassId) (dI : Nat → Nat → Nat) (cI cC cB : ClassId) (sz : Nat) (qu : Nat) (qu_said : Nat) (qu_text : Nat) (qu_segments : Nat) (qu_names : Nat) (qu_nameSize : Nat) (qu_bases : Nat) (qu_length : Nat) (qu_links : Nat) (qu_from : Nat) (qu_to : Nat) (qu_paths : Nat) (qu_titles : Nat) (qu_titleSize : Nat) (qu_steps : Nat) (qu_step : Nat) (qu_sideOf : Nat) (qu_within : Nat) (qu_read : Nat) (qu_cost : Nat) (qu_walk : Nat) (qu_edits : Nat) (fu_size : Int32) (fu_places : Int32) (fu_reads : Int32) (fu_there : Int32) (fu_total : Int32) (fu_walked : Int32) (fu_edited : Int32) (fu_written : Int32) (fu_at : Int32) (fu_end : Int32) (fu_began : Int32) (fu_many : Int32) (au_said : Nat → Int32) (p1 : Int32) {Q : (Int32 × (Nat → Int32)) → Prop} (h : wp_Mo_put Q p1 fu_written au_said) :
    CTv l y_Mo_put (wM y_Mo_put c_Mo_put 2 none) rm_Mo_put 0 0 (dC, dI) (tysL cI cC cB) [.ref qu, .int p1] (W_Mo_put cI cC cB qu qu_said qu_text qu_segments qu_names qu_nameSize qu_bases qu_length qu_links qu_from qu_to qu_paths qu_titles qu_titleSize qu_steps qu_step qu_sideOf qu_within qu_read qu_cost qu_walk qu_edits fu_size fu_places fu_reads fu_there fu_total fu_walked fu_edited fu_written fu_at fu_end fu_began fu_many au_said) sz Q (fun (v : Int32 × (Nat → Int32)) (b : Unit) => (W_Mo_put cI cC cB qu qu_said qu_text qu_segments qu_names qu_nameSize qu_bases qu_length qu_links qu_from qu_to qu_paths qu_titles qu_titleSize qu_steps qu_step qu_sideOf qu_within qu_read qu_cost qu_walk qu_edits fu_size fu_places fu_reads fu_there fu_total fu_walked fu_edited v.1 fu_at fu_end fu_began fu_many v.2)) := by
  refine CTv.std (by decide) (Nat.le_of_ble_eq_true rfl) ?_
  intro p e s m args below meth c A ls QF C0 hP hD hl hS hsz hnm hret
  obtain ⟨hx, hb, hr, hml, hown, hts, hlocks, hN, hA, hK⟩ := id C0
  have hown : s.vm.findClass R_Mo = some m.cls := hown
  have hl : lv_has ls 2 [(0, .ref qu), (1, .int p1)] := hl
  clear hsz hnm
  unfold wp_Mo_put at h
  refine lv_aload_n hx hb d_Mo_put_0 rfl (lv_at hl 0 rfl) ?_
  refine va_get (D := (dC, dI)) (ci := 6) (v := .ref qu_said) (C := R_Mo) (T := T_Mo) (N := 33) hx hb hts in_Mo hown hK hP 0 rfl rfl 28 (by decide) (hts _ w_551) (fun _ h9 => h9) rfl d_Mo_put_1 ?_
  refine lv_aload_n hx hb d_Mo_put_4 rfl (lv_at hl 0 rfl) ?_
  refine va_get (D := (dC, dI)) (ci := 6) (v := .int fu_written) (C := R_Mo) (T := T_Mo) (N := 33) hx hb hts in_Mo hown hK hP 0 rfl rfl 27 (by decide) (hts _ w_552) (fun _ h9 => h9) rfl d_Mo_put_5 ?_
  refine lv_iload_n hx hb d_Mo_put_8 rfl (lv_at hl 1 rfl) ?_
  have hi_1 := h.1
  have h := h.2
  refine va_cast hx hb hK hP hD hS 1 1 rfl rfl hi_1 d_Mo_put_9 (fun H locs hP hD hS => ?_)
  obtain ⟨au_said_2, eau_said_2⟩ : ∃ z : Nat → Int32, z = upd au_said fu_written.toNatClampNeg (vp_nar .char p1) := ⟨_, rfl⟩
  have h := h au_said_2 eau_said_2
  have hP : va_P (dC, dI) cls (W_Mo_put cI cC cB qu qu_said qu_text qu_segments qu_names qu_nameSize qu_bases qu_length qu_links qu_from qu_to qu_paths qu_titles qu_titleSize qu_steps qu_step qu_sideOf qu_within qu_read qu_cost qu_walk qu_edits fu_size fu_places fu_reads fu_there fu_total fu_walked fu_edited fu_written fu_at fu_end fu_began fu_many au_said_2) H := by rw [eau_said_2]; exact hP
  have hD : va_D A (W_Mo_put cI cC cB qu qu_said qu_text qu_segments qu_names qu_nameSize qu_bases qu_length qu_links qu_from qu_to qu_paths qu_titles qu_titleSize qu_steps qu_step qu_sideOf qu_within qu_read qu_cost qu_walk qu_edits fu_size fu_places fu_reads fu_there fu_total fu_walked fu_edited fu_written fu_at fu_end fu_began fu_many au_said_2) := by rw [eau_said_2]; exact hD
  refine lv_aload_n hx hb d_Mo_put_10 rfl (lv_at hl 0 rfl) ?_
  refine lv_dup hx hb d_Mo_put_11 rfl ?_
  refine va_get (D := (dC, dI)) (ci := 6) (v := .int fu_written) (C := R_Mo) (T := T_Mo) (N := 33) hx hb hts in_Mo hown hK hP 0 rfl rfl 27 (by decide) (hts _ w_552) (fun _ h9 => h9) rfl d_Mo_put_12 ?_
  refine lv_iconst (v := 1) hx hb d_Mo_put_15 (by decide) ?_
  refine lv_iadd hx hb d_Mo_put_16 ?_
  refine lv_topi (fun x_3 ex_3 => ?_)
  have h := h x_3 ex_3
  refine va_put (D := (dC, dI)) (ci := 6) (v := .int x_3) (ty := .int) (C := R_Mo) (T := T_Mo) (N := 33) hx hb hts in_Mo t_Mo t_Mo_ok n_Mo hown hK hP hD hS 0 rfl rfl 27 (by decide) (hts _ w_552) (fun _ h9 => h9) rfl (by decide +kernel) rfl rfl (Nat.le_of_ble_eq_true rfl) d_Mo_put_17 (fun H locs hP hD hS => ?_)
  have hP : va_P (dC, dI) cls (W_Mo_put cI cC cB qu qu_said qu_text qu_segments qu_names qu_nameSize qu_bases qu_length qu_links qu_from qu_to qu_paths qu_titles qu_titleSize qu_steps qu_step qu_sideOf qu_within qu_read qu_cost qu_walk qu_edits fu_size fu_places fu_reads fu_there fu_total fu_walked fu_edited x_3 fu_at fu_end fu_began fu_many au_said_2) H := hP
  have hD : va_D A (W_Mo_put cI cC cB qu qu_said qu_text qu_segments qu_names qu_nameSize qu_bases qu_length qu_links qu_from qu_to qu_paths qu_titles qu_titleSize qu_steps qu_step qu_sideOf qu_within qu_read qu_cost qu_walk qu_edits fu_size fu_places fu_reads fu_there fu_total fu_walked fu_edited x_3 fu_at fu_end fu_began fu_many au_said_2) := hD
  exact hret (x_3, au_said_2) () _ _ _ _ h hP hD hS d_Mo_put_20
abbrev W_Mo_putNumber (cI cC cB : ClassId) (qu : Nat) (qu_said : Nat) (qu_text : Nat) (qu_segments : Nat) (qu_names : Nat) (qu_nameSize : Nat) (qu_bases : Nat) (qu_length : Nat) (qu_links : Nat) (qu_from : Nat) (qu_to : Nat) (qu_paths : Nat) (qu_titles : Nat) (qu_titleSize : Nat) (qu_steps : Nat) (qu_step : Nat) (qu_sideOf : Nat) (qu_within : Nat) (qu_read : Nat) (qu_cost : Nat) (qu_walk : Nat) (qu_edits : Nat) (fu_size : Int32) (fu_places : Int32) (fu_reads : Int32) (fu_there : Int32) (fu_total : Int32) (fu_walked : Int32) (fu_edited : Int32) (fu_written : Int32) (fu_at : Int32) (fu_end : Int32) (fu_began : Int32) (fu_many : Int32) (au_said : Nat → Int32) : va_W := [(qu, .inr (6, [.int fu_size, .ref qu_text, .ref qu_segments, .ref qu_names, .ref qu_nameSize, .ref qu_bases, .ref qu_length, .ref qu_links, .ref qu_from, .ref qu_to, .ref qu_paths, .ref qu_titles, .ref qu_titleSize, .ref qu_steps, .ref qu_step, .int fu_places, .ref qu_sideOf, .ref qu_within, .int fu_reads, .ref qu_read, .ref qu_cost, .int fu_there, .int fu_total, .int fu_walked, .ref qu_walk, .int fu_edited, .ref qu_edits, .int fu_written, .ref qu_said, .int fu_at, .int fu_end, .int fu_began, .int fu_many])), (qu_said, .inl (cC, 300, .inl au_said))]
def w_Mo_putNumber_18 (Q : (Int32 × (Nat → Int32)) → Prop)  (p1 : Int32) (fu_written : Int32) (au_said : Nat → Int32) : Prop := ∀ x_1 : Int32, x_1 = ((48 + (p1 - p1 / 10 * 10)).toUInt32 % 65536).toInt32 → (wp_Mo_put (fun v_2 => Q (v_2.1, v_2.2)) x_1 fu_written au_said)
def wp_Mo_putNumber (Q : (Int32 × (Nat → Int32)) → Prop) (p1 : Int32) (fu_written : Int32) (au_said : Nat → Int32) : Prop := ((p1 ≤ 9 → (w_Mo_putNumber_18 Q p1 fu_written au_said)) ∧ (¬ p1 ≤ 9 → (∀ x_5 : Int32, x_5 = ((48 + (p1 / 10)).toUInt32 % 65536).toInt32 → (wp_Mo_put (fun v_6 => w_Mo_putNumber_18 Q p1 v_6.1 v_6.2) x_5 fu_written au_said))))
abbrev rm_Mo_putNumber : Room := { frames := 1, cells := 0, slots := 0, locals := 21 }
set_option maxHeartbeats 4000000 in
set_option maxRecDepth 100000 in
theorem k_Mo_putNumber (l : Launch) (dC : Nat → ClassId) (dI : Nat → Nat → Nat) (cI cC cB : ClassId) (sz : Nat) (qu : Nat) (qu_said : Nat) (qu_text : Nat) (qu_segments : Nat) (qu_names : Nat) (qu_nameSize : Nat) (qu_bases : Nat) (qu_length : Nat) (qu_links : Nat) (qu_from : Nat) (qu_to : Nat) (qu_paths : Nat) (qu_titles : Nat) (qu_titleSize : Nat) (qu_steps : Nat) (qu_step : Nat) (qu_sideOf : Nat) (qu_within : Nat) (qu_read : Nat) (qu_cost : Nat) (qu_walk : Nat) (qu_edits : Nat) (fu_size : Int32) (fu_places : Int32) (fu_reads : Int32) (fu_there : Int32) (fu_total : Int32) (fu_walked : Int32) (fu_edited : Int32) (fu_written : Int32) (fu_at : Int32) (fu_end : Int32) (fu_began : Int32) (fu_many : Int32) (au_said : Nat → Int32) (p1 : Int32) {Q : (Int32 × (Nat → Int32)) → Prop} (h : wp_Mo_putNumber Q p1 fu_written au_said) :
    CTv l y_Mo_putNumber (wM y_Mo_putNumber c_Mo_putNumber 2 none) rm_Mo_putNumber 0 0 (dC, dI) (tysL cI cC cB) [.ref qu, .int p1] (W_Mo_putNumber cI cC cB qu qu_said qu_text qu_segments qu_names qu_nameSize qu_bases qu_length qu_links qu_from qu_to qu_paths qu_titles qu_titleSize qu_steps qu_step qu_sideOf qu_within qu_read qu_cost qu_walk qu_edits fu_size fu_places fu_reads fu_there fu_total fu_walked fu_edited fu_written fu_at fu_end fu_began fu_many au_said) sz Q (fun (v : Int32 × (Nat → Int32)) (b : Unit) => (W_Mo_putNumber cI cC cB qu qu_said qu_text qu_segments qu_names qu_nameSize qu_bases qu_length qu_links qu_from qu_to qu_paths qu_titles qu_titleSize qu_steps qu_step qu_sideOf qu_within qu_read qu_cost qu_walk qu_edits fu_size fu_places fu_reads fu_there fu_total fu_walked fu_edited v.1 fu_at fu_end fu_began fu_many v.2)) := by
  refine CTv.std (by decide) (Nat.le_of_ble_eq_true rfl) ?_
  intro p e s m args below meth c A ls QF C0 hP hD hl hS hsz hnm hret
  obtain ⟨hx, hb, hr, hml, hown, hts, hlocks, hN, hA, hK⟩ := id C0
  have hown : s.vm.findClass R_Mo = some m.cls := hown
  have hl : lv_has ls 2 [(0, .ref qu), (1, .int p1)] := hl
  clear hsz hnm
  have blk_18 : ∀  (fu_written : Int32) (au_said : Nat → Int32)  (H : Heap) (locs : List Loc) (ls : Array Slot), w_Mo_putNumber_18 Q  p1 fu_written au_said → va_P (dC, dI) cls (W_Mo_putNumber cI cC cB qu qu_said qu_text qu_segments qu_names qu_nameSize qu_bases qu_length qu_links qu_from qu_to qu_paths qu_titles qu_titleSize qu_steps qu_step qu_sideOf qu_within qu_read qu_cost qu_walk qu_edits fu_size fu_places fu_reads fu_there fu_total fu_walked fu_edited fu_written fu_at fu_end fu_began fu_many au_said) H → va_D A (W_Mo_putNumber cI cC cB qu qu_said qu_text qu_segments qu_names qu_nameSize qu_bases qu_length qu_links qu_from qu_to qu_paths qu_titles qu_titleSize qu_steps qu_step qu_sideOf qu_within qu_read qu_cost qu_walk qu_edits fu_size fu_places fu_reads fu_there fu_total fu_walked fu_edited fu_written fu_at fu_end fu_began fu_many au_said) → va_S A s.heap H locs → lv_has ls 2 [(0, .ref qu), (1, .int p1)] → W p l e rm_Mo_putNumber s m args below meth c H locs 0 0 QF (F0 m 18 ls []) := by
    intro  fu_written au_said  H locs ls h hP hD hS hl
    unfold w_Mo_putNumber_18 at h
    refine lv_aload_n hx hb d_Mo_putNumber_18 rfl (lv_at hl 0 rfl) ?_
    refine lv_bipush (v := 48) hx hb d_Mo_putNumber_19 (by decide) ?_
    refine lv_iload_n hx hb d_Mo_putNumber_21 rfl (lv_at hl 1 rfl) ?_
    refine lv_bipush (v := 10) hx hb d_Mo_putNumber_22 (by decide) ?_
    refine lv_irem hx hb d_Mo_putNumber_24 (by decide) ?_
    refine lv_iadd hx hb d_Mo_putNumber_25 ?_
    refine lv_i2c hx hb d_Mo_putNumber_26 rfl ?_
    refine lv_topi (fun x_1 ex_1 => ?_)
    have h := h x_1 ex_1
    refine call_V_v (As := [.int x_1]) (rest := []) C0 hP hD hS [0, 1] [] [0, 1] [] (fun (v : Int32 × (Nat → Int32)) (b : Unit) => (W_Mo_putNumber cI cC cB qu qu_said qu_text qu_segments qu_names qu_nameSize qu_bases qu_length qu_links qu_from qu_to qu_paths qu_titles qu_titleSize qu_steps qu_step qu_sideOf qu_within qu_read qu_cost qu_walk qu_edits fu_size fu_places fu_reads fu_there fu_total fu_walked fu_edited v.1 fu_at fu_end fu_began fu_many v.2)) (ci := 6) rfl rfl (k_Mo_put l dC dI cI cC cB _ qu qu_said qu_text qu_segments qu_names qu_nameSize qu_bases qu_length qu_links qu_from qu_to qu_paths qu_titles qu_titleSize qu_steps qu_step qu_sideOf qu_within qu_read qu_cost qu_walk qu_edits fu_size fu_places fu_reads fu_there fu_total fu_walked fu_edited fu_written fu_at fu_end fu_began fu_many au_said x_1 h) (g_V w_554 w_555 w_556 w_418 w_553) 1 rfl (by decide +kernel) rfl rfl ⟨Nat.le_of_ble_eq_true rfl, Nat.le_of_ble_eq_true rfl⟩ rfl rfl (by decide) (by decide) (by decide) (by decide) (fun _ _ => rfl) hl.1 rfl (Nat.le_of_ble_eq_true rfl) d_Mo_putNumber_27 ⟨Nat.le_of_ble_eq_true rfl, Nat.le_of_ble_eq_true rfl⟩ (fun v_2 _ H locs h hP hD hS => ?_)
    have hP : va_P (dC, dI) cls (W_Mo_putNumber cI cC cB qu qu_said qu_text qu_segments qu_names qu_nameSize qu_bases qu_length qu_links qu_from qu_to qu_paths qu_titles qu_titleSize qu_steps qu_step qu_sideOf qu_within qu_read qu_cost qu_walk qu_edits fu_size fu_places fu_reads fu_there fu_total fu_walked fu_edited v_2.1 fu_at fu_end fu_began fu_many v_2.2) H := hP
    have hD : va_D A (W_Mo_putNumber cI cC cB qu qu_said qu_text qu_segments qu_names qu_nameSize qu_bases qu_length qu_links qu_from qu_to qu_paths qu_titles qu_titleSize qu_steps qu_step qu_sideOf qu_within qu_read qu_cost qu_walk qu_edits fu_size fu_places fu_reads fu_there fu_total fu_walked fu_edited v_2.1 fu_at fu_end fu_began fu_many v_2.2) := hD
    exact hret (v_2.1, v_2.2) () _ _ _ _ h hP hD hS d_Mo_putNumber_30
  unfold wp_Mo_putNumber at h
  refine lv_iload_n hx hb d_Mo_putNumber_0 rfl (lv_at hl 1 rfl) ?_
  refine lv_bipush (v := 9) hx hb d_Mo_putNumber_1 (by decide) ?_
  refine lv_icmp_le (tgt := 18) hx hb d_Mo_putNumber_3 (by decide) (fun c_4 => ?_) (fun c_4 => ?_)
  · have h := h.1 c_4
    exact blk_18  _ _ _ _ _ h hP hD hS (lv_sub hl [0, 1] rfl)
  · have h := h.2 c_4
    refine lv_aload_n hx hb d_Mo_putNumber_6 rfl (lv_at hl 0 rfl) ?_
    refine lv_bipush (v := 48) hx hb d_Mo_putNumber_7 (by decide) ?_
    refine lv_iload_n hx hb d_Mo_putNumber_9 rfl (lv_at hl 1 rfl) ?_
    refine lv_bipush (v := 10) hx hb d_Mo_putNumber_10 (by decide) ?_
    refine lv_idiv hx hb d_Mo_putNumber_12 (by decide) ?_
    refine lv_iadd hx hb d_Mo_putNumber_13 ?_
    refine lv_i2c hx hb d_Mo_putNumber_14 rfl ?_
    refine lv_topi (fun x_5 ex_5 => ?_)
    have h := h x_5 ex_5
    refine call_V_v (As := [.int x_5]) (rest := []) C0 hP hD hS [0, 1] [] [0, 1] [] (fun (v : Int32 × (Nat → Int32)) (b : Unit) => (W_Mo_putNumber cI cC cB qu qu_said qu_text qu_segments qu_names qu_nameSize qu_bases qu_length qu_links qu_from qu_to qu_paths qu_titles qu_titleSize qu_steps qu_step qu_sideOf qu_within qu_read qu_cost qu_walk qu_edits fu_size fu_places fu_reads fu_there fu_total fu_walked fu_edited v.1 fu_at fu_end fu_began fu_many v.2)) (ci := 6) rfl rfl (k_Mo_put l dC dI cI cC cB _ qu qu_said qu_text qu_segments qu_names qu_nameSize qu_bases qu_length qu_links qu_from qu_to qu_paths qu_titles qu_titleSize qu_steps qu_step qu_sideOf qu_within qu_read qu_cost qu_walk qu_edits fu_size fu_places fu_reads fu_there fu_total fu_walked fu_edited fu_written fu_at fu_end fu_began fu_many au_said x_5 h) (g_V w_554 w_555 w_556 w_418 w_553) 1 rfl (by decide +kernel) rfl rfl ⟨Nat.le_of_ble_eq_true rfl, Nat.le_of_ble_eq_true rfl⟩ rfl rfl (by decide) (by decide) (by decide) (by decide) (fun _ _ => rfl) hl.1 rfl (Nat.le_of_ble_eq_true rfl) d_Mo_putNumber_15 ⟨Nat.le_of_ble_eq_true rfl, Nat.le_of_ble_eq_true rfl⟩ (fun v_6 _ H locs h hP hD hS => ?_)
    have hP : va_P (dC, dI) cls (W_Mo_putNumber cI cC cB qu qu_said qu_text qu_segments qu_names qu_nameSize qu_bases qu_length qu_links qu_from qu_to qu_paths qu_titles qu_titleSize qu_steps qu_step qu_sideOf qu_within qu_read qu_cost qu_walk qu_edits fu_size fu_places fu_reads fu_there fu_total fu_walked fu_edited v_6.1 fu_at fu_end fu_began fu_many v_6.2) H := hP
    have hD : va_D A (W_Mo_putNumber cI cC cB qu qu_said qu_text qu_segments qu_names qu_nameSize qu_bases qu_length qu_links qu_from qu_to qu_paths qu_titles qu_titleSize qu_steps qu_step qu_sideOf qu_within qu_read qu_cost qu_walk qu_edits fu_size fu_places fu_reads fu_there fu_total fu_walked fu_edited v_6.1 fu_at fu_end fu_began fu_many v_6.2) := hD
    exact blk_18  _ _ _ _ _ h hP hD hS (lv_sub hl [0, 1] rfl)
